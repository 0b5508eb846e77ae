-- the relation between both objects, kept by every call
section CGR
variable {A A' B B' : fm_I}
theorem RIv.cg (h : RIv A B) (h59 : A' 59 = A 59) (h60 : A' 60 = A 60) (h61 : A' 61 = A 61) (h62 : A' 62 = A 62) (h6 : B' 78 6 = B 78 6) (h8 : B' 78 8 = B 78 8) (h85 : B' 85 = B 85) (h86 : B' 86 = B 86) : RIv A' B' := by
  unfold RIv
  rw [h59, h60, h61, h62, h6, h8, h85, h86]
  exact h
theorem MRl.cg2 (h : ∀ m, m < 6 → MRl A B m) (hA : ∀ q, 2 ≤ q → q < 56 → A' q = A q) (hB : ∀ q, 79 ≤ q → q ≤ 84 → B' q = B q) : ∀ m, m < 6 → MRl A' B' m := fun m hm => by
  obtain ⟨c, hc⟩ := h m hm
  refine ⟨c, hc.cg (fun q q1 q2 => hA q (by omega) (by omega)) (by rw [hB 79 (by decide) (by decide)]) (fun k _ => ?_)⟩
  rw [hB 80 (by decide) (by decide), hB 81 (by decide) (by decide), hB 82 (by decide) (by decide), hB 83 (by decide) (by decide), hB 84 (by decide) (by decide)]
  exact ⟨rfl, rfl, rfl, rfl, rfl⟩
theorem LK.cg (h : LK A B) (h56 : A' 56 = A 56) (h57 : A' 57 = A 57) (h58 : A' 58 = A 58) (h11 : B' 78 11 = B 78 11) (h13 : B' 78 13 = B 78 13) (h87 : B' 87 = B 87) : LK A' B' := by
  unfold LK
  rw [h56, h57, h58, h11, h13, h87]
  exact h
theorem IR.cg (h : IR A B) (h63 : A' 63 = A 63) (h71 : A' 71 = A 71) (h72 : A' 72 = A 72) (h73 : A' 73 = A 73) (h14 : B' 78 14 = B 78 14) (h15 : B' 78 15 = B 78 15) (h18 : B' 78 18 = B 78 18) (h20 : B' 78 20 = B 78 20) (h88 : B' 88 = B 88) (h89 : B' 89 = B 89) (h90 : B' 90 = B 90) : IR A' B' := by
  unfold IR IX
  rw [h63, h71, h72, h73, h14, h15, h18, h20, h88, h89, h90]
  exact h
theorem MI.cg (h : MI A B) (h74 : A' 74 = A 74) (h75 : A' 75 = A 75) (h76 : A' 76 = A 76) (h77 : A' 77 = A 77) (h18 : B' 78 18 = B 78 18) (hj : ∀ j, 21 ≤ j → B' 78 j = B 78 j) (h89 : B' 89 = B 89) (h91 : B' 91 = B 91) (h92 : B' 92 = B 92) (h93 : B' 93 = B 93) : MI A' B' := by
  obtain ⟨h1, h2⟩ := h
  refine ⟨by rw [h92, h77]; exact h1, ?_⟩
  rcases h2 with ⟨a1, b1, s, T, f, t, x, a, r, p, o, w, tp, L, ⟨a2, a3, a4, a5, -, -⟩, ⟨b2, b3, b4, b5, -, -⟩, hR⟩ | ⟨a1, b1⟩
  · refine Or.inl ⟨by rw [h74]; exact a1, by rw [hj 21 (by decide)]; exact b1, s, T, f, t, x, a, r, p, o, w, tp, L, ⟨?_, ?_, ?_, ?_, fun _ _ _ _ => rfl, rfl⟩, ⟨?_, ?_, ?_, ?_, fun _ _ _ _ => rfl, fun _ _ => rfl⟩, hR⟩
    · rw [h74]; exact a2
    · rw [h75]; exact a3
    · rw [h76]; exact a4
    · rw [h77]; exact a5
    · rw [h18, h89, hj 23 (by decide), hj 24 (by decide), hj 25 (by decide), hj 26 (by decide), hj 27 (by decide), hj 30 (by decide), hj 31 (by decide)]; exact b2
    · rw [h91]; exact b3
    · rw [h93]; exact b4
    · rw [h92]; exact b5
  · exact Or.inr ⟨by rw [h74]; exact a1, by rw [hj 21 (by decide)]; exact b1⟩
end CGR
def Rel (A B : fm_I) : Prop := RIv A B ∧ (∀ m, m < 6 → MRl A B m) ∧ LK A B ∧ IR A B ∧ MI A B
theorem Rel.cg {A A' B B' : fm_I} (h : Rel A B) (hA : ∀ q, q < 78 → A' q = A q) (hB : ∀ q, 78 ≤ q → B' q = B q) : Rel A' B' := by
  obtain ⟨h1, h2, h3, h4, h5⟩ := h
  have b := hB 78 (by decide)
  exact ⟨h1.cg (hA _ (by decide)) (hA _ (by decide)) (hA _ (by decide)) (hA _ (by decide)) (by rw [b]) (by rw [b]) (hB _ (by decide)) (hB _ (by decide)), MRl.cg2 h2 (fun q q1 q2 => hA q (by omega)) (fun q q1 q2 => hB q (by omega)), h3.cg (hA _ (by decide)) (hA _ (by decide)) (hA _ (by decide)) (by rw [b]) (by rw [b]) (hB _ (by decide)), h4.cg (hA _ (by decide)) (hA _ (by decide)) (hA _ (by decide)) (hA _ (by decide)) (by rw [b]) (by rw [b]) (by rw [b]) (by rw [b]) (hB _ (by decide)) (hB _ (by decide)) (hB _ (by decide)), h5.cg (hA _ (by decide)) (hA _ (by decide)) (hA _ (by decide)) (hA _ (by decide)) (by rw [b]) (fun _ _ => by rw [b]) (hB _ (by decide)) (hB _ (by decide)) (hB _ (by decide)) (hB _ (by decide))⟩
theorem rl_length (x : Int32) (y : Int32) (A B : fm_I) (h : Rel A B) : ∃ v A' B', fn_SL_length 0 x y A = ri v A' ∧ fn_Ref_length 78 x y B = ri v B' ∧ Rel A' B' := by
  have hR := h
  obtain ⟨h1, h2, h3, h4, h5⟩ := h
  obtain ⟨v, e1, e2⟩ := op_length h2 x y
  exact ⟨v, A, B, e1, e2, hR⟩
theorem rl_isLong (x : Int32) (y : Int32) (A B : fm_I) (h : Rel A B) : ∃ v A' B', fn_SL_isLong 0 x y A = ri v A' ∧ fn_Ref_isLong 78 x y B = ri v B' ∧ Rel A' B' := by
  have hR := h
  obtain ⟨h1, h2, h3, h4, h5⟩ := h
  obtain ⟨v, e1, e2⟩ := op_isLong h2 x y
  exact ⟨v, A, B, e1, e2, hR⟩
theorem rl_member (x : Int32) (A B : fm_I) (h : Rel A B) : ∃ v A' B', fn_SL_member 0 x A = ri v A' ∧ fn_Ref_member 78 x B = ri v B' ∧ Rel A' B' := by
  have hR := h
  obtain ⟨h1, h2, h3, h4, h5⟩ := h
  obtain ⟨v, e1, e2⟩ := op_member h1 x
  exact ⟨v, A, B, e1, e2, hR⟩
theorem rl_included (x : Int32) (A B : fm_I) (h : Rel A B) : ∃ v A' B', fn_SL_included 0 x A = ri v A' ∧ fn_Ref_included 78 x B = ri v B' ∧ Rel A' B' := by
  have hR := h
  obtain ⟨h1, h2, h3, h4, h5⟩ := h
  obtain ⟨v, e1, e2⟩ := op_included h3 x
  exact ⟨v, A, B, e1, e2, hR⟩
theorem rl_missing (A B : fm_I) (h : Rel A B) : ∃ v A' B', fn_SL_missing 0 A = ri v A' ∧ fn_Ref_missing 78 B = ri v B' ∧ Rel A' B' := by
  have hR := h
  obtain ⟨h1, h2, h3, h4, h5⟩ := h
  obtain ⟨v, e1, e2⟩ := op_missing h3
  exact ⟨v, A, B, e1, e2, hR⟩
theorem rl_size (x : Int32) (A B : fm_I) (h : Rel A B) : ∃ v A' B', fn_SL_size 0 x A = ri v A' ∧ fn_Ref_size 78 x B = ri v B' ∧ Rel A' B' := by
  have hR := h
  obtain ⟨h1, h2, h3, h4, h5⟩ := h
  obtain ⟨v, e1, e2⟩ := op_size h4 x
  exact ⟨v, A, B, e1, e2, hR⟩
theorem rl_word (x : Int32) (A B : fm_I) (h : Rel A B) : ∃ v A' B', fn_SL_word 0 x A = ri v A' ∧ fn_Ref_word 78 x B = ri v B' ∧ Rel A' B' := by
  have hR := h
  obtain ⟨h1, h2, h3, h4, h5⟩ := h
  obtain ⟨v, e1, e2⟩ := op_word h4 x
  exact ⟨v, A, B, e1, e2, hR⟩
theorem rl_symbol (x : Int32) (A B : fm_I) (h : Rel A B) : ∃ v A' B', fn_SL_symbol 0 x A = ri v A' ∧ fn_Ref_symbol 78 x B = ri v B' ∧ Rel A' B' := by
  have hR := h
  obtain ⟨h1, h2, h3, h4, h5⟩ := h
  obtain ⟨v, e1, e2⟩ := op_symbol h4 x
  exact ⟨v, A, B, e1, e2, hR⟩
theorem rl_register (x : Int32) (A B : fm_I) (h : Rel A B) : ∃ v A' B', fn_SL_register 0 x A = ri v A' ∧ fn_Ref_register 78 x B = ri v B' ∧ Rel A' B' := by
  have hR := h
  obtain ⟨h1, h2, h3, h4, h5⟩ := h
  obtain ⟨v, e1, e2⟩ := op_register h5 x
  exact ⟨v, A, B, e1, e2, hR⟩
theorem rl_memory (x : Int32) (A B : fm_I) (h : Rel A B) : ∃ v A' B', fn_SL_memory 0 x A = ri v A' ∧ fn_Ref_memory 78 x B = ri v B' ∧ Rel A' B' := by
  have hR := h
  obtain ⟨h1, h2, h3, h4, h5⟩ := h
  obtain ⟨v, e1, e2⟩ := op_memory h5 x
  exact ⟨v, A, B, e1, e2, hR⟩
theorem rl_add (x : Int32) (k : Int32) (a : Int32) (y : Int32) (A B : fm_I) (h : Rel A B) : ∃ v A' B', fn_SL_add 0 x k a y A = ri v A' ∧ fn_Ref_add 78 x k a y B = ri v B' ∧ Rel A' B' := by
  obtain ⟨h1, h2, h3, h4, h5⟩ := h
  obtain ⟨v, A', B', e1, e2, e3, e4, e5⟩ := op_add h2 x k a y
  exact ⟨v, A', B', e1, e2, h1.cg (e4 59 (by decide)) (e4 60 (by decide)) (e4 61 (by decide)) (e4 62 (by decide)) (by rw [e5 78 (by decide)]) (by rw [e5 78 (by decide)]) (e5 85 (by decide)) (e5 86 (by decide)), e3, h3.cg (e4 56 (by decide)) (e4 57 (by decide)) (e4 58 (by decide)) (by rw [e5 78 (by decide)]) (by rw [e5 78 (by decide)]) (e5 87 (by decide)), h4.cg (e4 63 (by decide)) (e4 71 (by decide)) (e4 72 (by decide)) (e4 73 (by decide)) (by rw [e5 78 (by decide)]) (by rw [e5 78 (by decide)]) (by rw [e5 78 (by decide)]) (by rw [e5 78 (by decide)]) (e5 88 (by decide)) (e5 89 (by decide)) (e5 90 (by decide)), h5.cg (e4 74 (by decide)) (e4 75 (by decide)) (e4 76 (by decide)) (e4 77 (by decide)) (by rw [e5 78 (by decide)]) (fun _ _ => by rw [e5 78 (by decide)]) (e5 89 (by decide)) (e5 91 (by decide)) (e5 92 (by decide)) (e5 93 (by decide))⟩
theorem rl_clear (x : Int32) (A B : fm_I) (h : Rel A B) : ∃ v A' B', fn_SL_clear 0 x A = ri v A' ∧ fn_Ref_clear 78 x B = ri v B' ∧ Rel A' B' := by
  obtain ⟨h1, h2, h3, h4, h5⟩ := h
  obtain ⟨v, A', B', e1, e2, e3, e4, e5⟩ := op_clear h2 x
  exact ⟨v, A', B', e1, e2, h1.cg (e4 59 (by decide)) (e4 60 (by decide)) (e4 61 (by decide)) (e4 62 (by decide)) (by rw [e5 78 (by decide)]) (by rw [e5 78 (by decide)]) (e5 85 (by decide)) (e5 86 (by decide)), e3, h3.cg (e4 56 (by decide)) (e4 57 (by decide)) (e4 58 (by decide)) (by rw [e5 78 (by decide)]) (by rw [e5 78 (by decide)]) (e5 87 (by decide)), h4.cg (e4 63 (by decide)) (e4 71 (by decide)) (e4 72 (by decide)) (e4 73 (by decide)) (by rw [e5 78 (by decide)]) (by rw [e5 78 (by decide)]) (by rw [e5 78 (by decide)]) (by rw [e5 78 (by decide)]) (e5 88 (by decide)) (e5 89 (by decide)) (e5 90 (by decide)), h5.cg (e4 74 (by decide)) (e4 75 (by decide)) (e4 76 (by decide)) (e4 77 (by decide)) (by rw [e5 78 (by decide)]) (fun _ _ => by rw [e5 78 (by decide)]) (e5 89 (by decide)) (e5 91 (by decide)) (e5 92 (by decide)) (e5 93 (by decide))⟩
theorem rl_store (x : Int32) (y : Int32) (A B : fm_I) (h : Rel A B) : ∃ v A' B', fn_SL_store 0 x y A = ri v A' ∧ fn_Ref_store 78 x y B = ri v B' ∧ Rel A' B' := by
  obtain ⟨h1, h2, h3, h4, h5⟩ := h
  obtain ⟨v, A', B', e1, e2, e3, e4, e5, e6⟩ := op_store h1 x y
  exact ⟨v, A', B', e1, e2, e3, MRl.cg2 h2 (fun q q1 q2 => e4 q (by omega) (by omega)) (fun q q1 q2 => e5 q (by omega) (by omega)), h3.cg (e4 56 (by decide) (by decide)) (e4 57 (by decide) (by decide)) (e4 58 (by decide) (by decide)) (e6 11 (by decide)) (e6 13 (by decide)) (e5 87 (by decide) (by decide)), h4.cg (e4 63 (by decide) (by decide)) (e4 71 (by decide) (by decide)) (e4 72 (by decide) (by decide)) (e4 73 (by decide) (by decide)) (e6 14 (by decide)) (e6 15 (by decide)) (e6 18 (by decide)) (e6 20 (by decide)) (e5 88 (by decide) (by decide)) (e5 89 (by decide) (by decide)) (e5 90 (by decide) (by decide)), h5.cg (e4 74 (by decide) (by decide)) (e4 75 (by decide) (by decide)) (e4 76 (by decide) (by decide)) (e4 77 (by decide) (by decide)) (e6 18 (by decide)) (fun j hj => e6 j (by omega)) (e5 89 (by decide) (by decide)) (e5 91 (by decide) (by decide)) (e5 92 (by decide) (by decide)) (e5 93 (by decide) (by decide))⟩
theorem rl_remove (x : Int32) (A B : fm_I) (h : Rel A B) : ∃ v A' B', fn_SL_remove 0 x A = ri v A' ∧ fn_Ref_remove 78 x B = ri v B' ∧ Rel A' B' := by
  obtain ⟨h1, h2, h3, h4, h5⟩ := h
  obtain ⟨v, A', B', e1, e2, e3, e4, e5, e6⟩ := op_remove h1 x
  exact ⟨v, A', B', e1, e2, e3, MRl.cg2 h2 (fun q q1 q2 => e4 q (by omega) (by omega)) (fun q q1 q2 => e5 q (by omega) (by omega)), h3.cg (e4 56 (by decide) (by decide)) (e4 57 (by decide) (by decide)) (e4 58 (by decide) (by decide)) (e6 11 (by decide)) (e6 13 (by decide)) (e5 87 (by decide) (by decide)), h4.cg (e4 63 (by decide) (by decide)) (e4 71 (by decide) (by decide)) (e4 72 (by decide) (by decide)) (e4 73 (by decide) (by decide)) (e6 14 (by decide)) (e6 15 (by decide)) (e6 18 (by decide)) (e6 20 (by decide)) (e5 88 (by decide) (by decide)) (e5 89 (by decide) (by decide)) (e5 90 (by decide) (by decide)), h5.cg (e4 74 (by decide) (by decide)) (e4 75 (by decide) (by decide)) (e4 76 (by decide) (by decide)) (e4 77 (by decide) (by decide)) (e6 18 (by decide)) (fun j hj => e6 j (by omega)) (e5 89 (by decide) (by decide)) (e5 91 (by decide) (by decide)) (e5 92 (by decide) (by decide)) (e5 93 (by decide) (by decide))⟩
theorem rl_item (x : Int32) (A B : fm_I) (h : Rel A B) : ∃ v A' B', fn_SL_item 0 x A = ri v A' ∧ fn_Ref_item 78 x B = ri v B' ∧ Rel A' B' := by
  obtain ⟨h1, h2, h3, h4, h5⟩ := h
  obtain ⟨v, A', B', e1, e2, e3, e4, e5, e6⟩ := op_item h1 x
  exact ⟨v, A', B', e1, e2, e3, MRl.cg2 h2 (fun q q1 q2 => e4 q (by omega) (by omega)) (fun q q1 q2 => e5 q (by omega) (by omega)), h3.cg (e4 56 (by decide) (by decide)) (e4 57 (by decide) (by decide)) (e4 58 (by decide) (by decide)) (e6 11 (by decide)) (e6 13 (by decide)) (e5 87 (by decide) (by decide)), h4.cg (e4 63 (by decide) (by decide)) (e4 71 (by decide) (by decide)) (e4 72 (by decide) (by decide)) (e4 73 (by decide) (by decide)) (e6 14 (by decide)) (e6 15 (by decide)) (e6 18 (by decide)) (e6 20 (by decide)) (e5 88 (by decide) (by decide)) (e5 89 (by decide) (by decide)) (e5 90 (by decide) (by decide)), h5.cg (e4 74 (by decide) (by decide)) (e4 75 (by decide) (by decide)) (e4 76 (by decide) (by decide)) (e4 77 (by decide) (by decide)) (e6 18 (by decide)) (fun j hj => e6 j (by omega)) (e5 89 (by decide) (by decide)) (e5 91 (by decide) (by decide)) (e5 92 (by decide) (by decide)) (e5 93 (by decide) (by decide))⟩
theorem rl_newLine (A B : fm_I) (h : Rel A B) : ∃ A' B', fn_SL_newLine 0 A = rv A' ∧ fn_Ref_newLine 78 B = rv B' ∧ Rel A' B' := by
  obtain ⟨h1, h2, h3, h4, h5⟩ := h
  obtain ⟨A', B', e1, e2, e3, e4, e5, e6⟩ := op_newLine h1
  exact ⟨A', B', e1, e2, e3, MRl.cg2 h2 (fun q q1 q2 => e4 q (by omega)) (fun q q1 q2 => e5 q (by omega)), h3.cg (e4 56 (by decide)) (e4 57 (by decide)) (e4 58 (by decide)) (e6 11 (by decide)) (e6 13 (by decide)) (e5 87 (by decide)), h4.cg (e4 63 (by decide)) (e4 71 (by decide)) (e4 72 (by decide)) (e4 73 (by decide)) (e6 14 (by decide)) (e6 15 (by decide)) (e6 18 (by decide)) (e6 20 (by decide)) (e5 88 (by decide)) (e5 89 (by decide)) (e5 90 (by decide)), h5.cg (e4 74 (by decide)) (e4 75 (by decide)) (e4 76 (by decide)) (e4 77 (by decide)) (e6 18 (by decide)) (fun j hj => e6 j (by omega)) (e5 89 (by decide)) (e5 91 (by decide)) (e5 92 (by decide)) (e5 93 (by decide))⟩
theorem rl_run (x : Int32) (A B : fm_I) (h : Rel A B) : ∃ v A' B', fn_SL_run 0 x A = ri v A' ∧ fn_Ref_run 78 x B = ri v B' ∧ Rel A' B' := by
  obtain ⟨h1, h2, h3, h4, h5⟩ := h
  obtain ⟨v, A', B', e1, e2, e3, e4, e5, e6⟩ := op_run h5 x
  exact ⟨v, A', B', e1, e2, h1.cg (e4 59 (by decide) (by decide) (by decide)) (e4 60 (by decide) (by decide) (by decide)) (e4 61 (by decide) (by decide) (by decide)) (e4 62 (by decide) (by decide) (by decide)) (e6 6 (by decide)) (e6 8 (by decide)) (e5 85 (by decide) (by decide) (by decide)) (e5 86 (by decide) (by decide) (by decide)), MRl.cg2 h2 (fun q q1 q2 => e4 q (by omega) (by omega) (by omega)) (fun q q1 q2 => e5 q (by omega) (by omega) (by omega)), h3.cg (e4 56 (by decide) (by decide) (by decide)) (e4 57 (by decide) (by decide) (by decide)) (e4 58 (by decide) (by decide) (by decide)) (e6 11 (by decide)) (e6 13 (by decide)) (e5 87 (by decide) (by decide) (by decide)), h4.cg (e4 63 (by decide) (by decide) (by decide)) (e4 71 (by decide) (by decide) (by decide)) (e4 72 (by decide) (by decide) (by decide)) (e4 73 (by decide) (by decide) (by decide)) (e6 14 (by decide)) (e6 15 (by decide)) (e6 18 (by decide)) (e6 20 (by decide)) (e5 88 (by decide) (by decide) (by decide)) (e5 89 (by decide) (by decide) (by decide)) (e5 90 (by decide) (by decide) (by decide)), e3⟩
theorem rl_feed (x : Int32) (A B : fm_I) (h : Rel A B) : ∃ v A' B', fn_SL_feed 0 x A = ri v A' ∧ fn_Ref_feed 78 x B = ri v B' ∧ Rel A' B' := by
  obtain ⟨h1, h2, h3, h4, h5⟩ := h
  obtain ⟨v, A', B', e1, e2, e3, e4, e5, e6⟩ := op_feed h5 x
  exact ⟨v, A', B', e1, e2, h1.cg (e4 59 (by decide) (by decide)) (e4 60 (by decide) (by decide)) (e4 61 (by decide) (by decide)) (e4 62 (by decide) (by decide)) (e6 6 (by decide)) (e6 8 (by decide)) (e5 85 (by decide) (by decide)) (e5 86 (by decide) (by decide)), MRl.cg2 h2 (fun q q1 q2 => e4 q (by omega) (by omega)) (fun q q1 q2 => e5 q (by omega) (by omega)), h3.cg (e4 56 (by decide) (by decide)) (e4 57 (by decide) (by decide)) (e4 58 (by decide) (by decide)) (e6 11 (by decide)) (e6 13 (by decide)) (e5 87 (by decide) (by decide)), h4.cg (e4 63 (by decide) (by decide)) (e4 71 (by decide) (by decide)) (e4 72 (by decide) (by decide)) (e4 73 (by decide) (by decide)) (e6 14 (by decide)) (e6 15 (by decide)) (e6 18 (by decide)) (e6 20 (by decide)) (e5 88 (by decide) (by decide)) (e5 89 (by decide) (by decide)) (e5 90 (by decide) (by decide)), e3⟩
theorem rl_start (A B : fm_I) (h : Rel A B) : ∃ v A' B', fn_SL_start 0 A = ri v A' ∧ fn_Ref_start 78 B = ri v B' ∧ Rel A' B' := by
  obtain ⟨h1, h2, h3, h4, h5⟩ := h
  obtain ⟨v, A', B', e1, e2, e3, e4, e5, e6⟩ := op_start h4 h5
  exact ⟨v, A', B', e1, e2, h1.cg (e4 59 (by decide) (by decide)) (e4 60 (by decide) (by decide)) (e4 61 (by decide) (by decide)) (e4 62 (by decide) (by decide)) (e6 6 (by decide)) (e6 8 (by decide)) (e5 85 (by decide) (by decide)) (e5 86 (by decide) (by decide)), MRl.cg2 h2 (fun q q1 q2 => e4 q (by omega) (by omega)) (fun q q1 q2 => e5 q (by omega) (by omega)), h3.cg (e4 56 (by decide) (by decide)) (e4 57 (by decide) (by decide)) (e4 58 (by decide) (by decide)) (e6 11 (by decide)) (e6 13 (by decide)) (e5 87 (by decide) (by decide)), h4.cg (e4 63 (by decide) (by decide)) (e4 71 (by decide) (by decide)) (e4 72 (by decide) (by decide)) (e4 73 (by decide) (by decide)) (e6 14 (by decide)) (e6 15 (by decide)) (e6 18 (by decide)) (e6 20 (by decide)) (e5 88 (by decide) (by decide)) (e5 89 (by decide) (by decide)) (e5 90 (by decide) (by decide)), e3⟩
theorem rl_strip (A B : fm_I) (h : Rel A B) : ∃ v A' B', fn_SL_strip 0 A = ri v A' ∧ fn_Ref_strip 78 B = ri v B' ∧ Rel A' B' := by
  obtain ⟨h1, h2, h3, h4, h5⟩ := h
  obtain ⟨v, A', B', e1, e2, e3, e4, e5, e6⟩ := op_strip h4
  exact ⟨v, A', B', e1, e2, h1.cg (e4 59 (by decide)) (e4 60 (by decide)) (e4 61 (by decide)) (e4 62 (by decide)) (e6 6 (by decide)) (e6 8 (by decide)) (e5 85 (by decide)) (e5 86 (by decide)), MRl.cg2 h2 (fun q q1 q2 => e4 q (by omega)) (fun q q1 q2 => e5 q (by omega)), h3.cg (e4 56 (by decide)) (e4 57 (by decide)) (e4 58 (by decide)) (e6 11 (by decide)) (e6 13 (by decide)) (e5 87 (by decide)), e3, h5.cg (e4 74 (by decide)) (e4 75 (by decide)) (e4 76 (by decide)) (e4 77 (by decide)) (e6 18 (by decide)) (fun j hj => e6 j (by omega)) (e5 89 (by decide)) (e5 91 (by decide)) (e5 92 (by decide)) (e5 93 (by decide))⟩
theorem rl_link (x : Int32) (A B : fm_I) (h : Rel A B) : ∃ v A' B', fn_SL_link 0 x A = ri v A' ∧ fn_Ref_link 78 x B = ri v B' ∧ Rel A' B' := by
  obtain ⟨h1, h2, h3, h4, h5⟩ := h
  obtain ⟨v, A', B', e1, e2, e3, e4, e5, e6, e7, e8, e9⟩ := op_link h1 h2 h3 h4 h5 x
  exact ⟨v, A', B', e1, e2, h1.cg (e6 59 (by decide)) (e6 60 (by decide)) (e6 61 (by decide)) (e6 62 (by decide)) e8 e9 (e7 85 (by decide) (by decide) (by decide) (by decide) (by decide)) (e7 86 (by decide) (by decide) (by decide) (by decide) (by decide)), MRl.cg2 h2 (fun q q1 q2 => e6 q (by omega)) (fun q q1 q2 => e7 q (by omega) (by omega) (by omega) (by omega) (by omega)), e3, e4, e5⟩
