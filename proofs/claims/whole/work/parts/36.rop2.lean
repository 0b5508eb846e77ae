theorem rFind_ex {f : Nat → Int32} {x : Int32} {n k : Nat} (hk : k < n) (hx : f k = x) : rFind f x n ≠ none := fun q => rFind_none q k hk hx
/-- taking x out on both sides, whether it was there or not -/
theorem both_out {A B : fm_I} {c : Nat} (x : Int32) (hc : c ≤ 6) (h1 : A 59 1 = nI c) (h2 : B 78 6 = nI c) (h5 : rAr (A 60) (B 85) c) : ∃ v A1 B1 c1, fn_Row_takeOut 59 x A = ri v A1 ∧ fn_Ref_remove 78 x B = ri v B1 ∧ c1 ≤ 6 ∧ A1 59 1 = nI c1 ∧ B1 78 6 = nI c1 ∧ rAr (A1 60) (B1 85) c1 ∧ rFind (A1 60) x c1 = none ∧ (∀ y, y ≠ x → (rFind (A1 60) y c1 ≠ none ↔ rFind (A 60) y c ≠ none)) ∧ (∀ i, i < c1 → ∃ k, k < c ∧ A1 60 i = A 60 k) ∧ (∀ q, q ≠ 59 → q ≠ 60 → A1 q = A q) ∧ (∀ q, q ≠ 78 → q ≠ 85 → B1 q = B q) ∧ (∀ j, j ≠ 6 → B1 78 j = B 78 j) := by
  have hcg : rFind (B 85) x c = rFind (A 60) x c := rFind_cg h5.1
  cases hf : rFind (A 60) x c with
  | none => exact ⟨0, A, B, c, row_takeNot isRow_59 h1 hc hf, ref_removeNot h2 hc (hcg.trans hf), hc, h1, h2, h5, hf, fun _ _ => Iff.rfl, fun i hi => ⟨i, hi, rfl⟩, fun _ _ _ => rfl, fun _ _ _ => rfl, fun _ _ => rfl⟩
  | some p =>
    obtain ⟨hp, hpx, -⟩ := rFind_some hf
    obtain ⟨A', a1, a2, a3, a4⟩ := row_takeOut isRow_59 h1 hc hf
    obtain ⟨B', b1, b2, b3, b4, b5⟩ := ref_remove h2 hc (hcg.trans hf)
    refine ⟨1, A', B', c - 1, a1, b1, by omega, a2, b2, rAr_rem h5 hp a3 b3, rFind_no (fun j hj e => ?_), fun y hy => ⟨fun q => ?_, fun q => ?_⟩, fun i hi => ?_, a4, b4, b5⟩
    · rw [a3 j hj] at e
      by_cases c1 : j < p
      · rw [if_pos c1] at e
        have := h5.2.2 j p (by omega) hp (e.trans hpx.symm)
        omega
      · rw [if_neg c1] at e
        have := h5.2.2 (j + 1) p (by omega) hp (e.trans hpx.symm)
        omega
    · cases hm : rFind (A' 60) y (c - 1) with
      | none => exact absurd hm q
      | some k =>
        obtain ⟨k1, k2, -⟩ := rFind_some hm
        rw [a3 k k1] at k2
        by_cases c1 : k < p
        · rw [if_pos c1] at k2
          exact rFind_ex (by omega) k2
        · rw [if_neg c1] at k2
          exact rFind_ex (show k + 1 < c by omega) k2
    · cases hm : rFind (A 60) y c with
      | none => exact absurd hm q
      | some k =>
        obtain ⟨k1, k2, -⟩ := rFind_some hm
        have hkp : k ≠ p := fun e9 => by subst e9; exact hy (k2.symm.trans hpx)
        by_cases c1 : k < p
        · exact rFind_ex (k := k) (by omega) (by rw [a3 k (by omega), if_pos c1]; exact k2)
        · exact rFind_ex (k := k - 1) (by omega) (by rw [a3 (k - 1) (by omega), if_neg (by omega), show k - 1 + 1 = k by omega]; exact k2)
    · rw [a3 i hi]
      split
      · exact ⟨i, by omega, rfl⟩
      · exact ⟨i + 1, by omega, rfl⟩
theorem px_mayStand {A : fm_I} {c : Nat} (x y : Int32) (hc : c ≤ 6) (h1 : A 59 1 = nI c) : fn_SL_mayStandBefore 0 x y A = ri (zb (y = -1 ∨ (y ≠ x ∧ rFind (A 60) y c ≠ none))) A := by
  unfold fn_SL_mayStandBefore
  by_cases e1 : y = -1
  · rw [if_pos e1, rz_1, zb_t (Or.inl e1)]
  · rw [if_neg e1]
    by_cases e2 : y = x
    · rw [if_pos e2, rz_0, zb_f (fun q => q.elim e1 (fun q => q.1 e2))]
    · rw [if_neg e2, gr_t (q := 59) rfl, vi_t rfl (row_holds isRow_59 h1 hc)]
      by_cases e3 : rFind (A 60) y c = none
      · rw [zb_f (fun q => q e3), if_pos rfl, rz_0, zb_f (fun q => q.elim e1 (fun q => q.2 e3))]
      · rw [zb_t e3, if_neg (by decide), rz_1, zb_t (Or.inr ⟨e2, e3⟩)]
theorem op_store {A B : fm_I} (h : RIv A B) (x y : Int32) : ∃ v A' B', fn_SL_store 0 x y A = ri v A' ∧ fn_Ref_store 78 x y B = ri v B' ∧ RIv A' B' ∧ (∀ q, q ≠ 59 → q ≠ 60 → A' q = A q) ∧ (∀ q, q ≠ 78 → q ≠ 85 → B' q = B q) ∧ (∀ j, j ≠ 6 → B' 78 j = B 78 j) := by
  have h0 := h
  obtain ⟨c, e, hc, he, h1, h2, h3, h4, h5, h6, h7, h8, h9⟩ := h
  have hno : fn_SL_store 0 x y A = ri 0 A → fn_Ref_store 78 x y B = ri 0 B → ∃ v A' B', fn_SL_store 0 x y A = ri v A' ∧ fn_Ref_store 78 x y B = ri v B' ∧ RIv A' B' ∧ (∀ q, q ≠ 59 → q ≠ 60 → A' q = A q) ∧ (∀ q, q ≠ 78 → q ≠ 85 → B' q = B q) ∧ (∀ j, j ≠ 6 → B' 78 j = B 78 j) := fun a b => ⟨0, A, B, a, b, h0, fun _ _ _ => rfl, fun _ _ _ => rfl, fun _ _ => rfl⟩
  have hcgl : rFind (B 86) x e = rFind (A 62) x e := rFind_cg h6
  have hcga : rFind (B 85) y c = rFind (A 60) y c := rFind_cg h5.1
  by_cases hm : mdl x
  rotate_left
  · apply hno
    · unfold fn_SL_store
      rw [bi_t (px_isModule x A), zb_f hm, if_pos rfl, rz_0]
    · unfold fn_Ref_store
      rw [vi_t rfl ref_module, zb_f hm, if_pos rfl, rz_0]
  by_cases hl : rFind (A 62) x e = none
  rotate_left
  · apply hno
    · unfold fn_SL_store
      rw [bi_t (px_isModule x A), zb_t hm, if_neg (by decide), gr_t (q := 61) rfl, vi_t rfl (row_holds isRow_61 h3 he), zb_t hl, if_neg (by decide), rz_0]
    · unfold fn_Ref_store
      rw [vi_t rfl ref_module, zb_t hm, if_neg (by decide), vi_t rfl (ref_onLine h4 he), hcgl, zb_t hl, if_neg (by decide), rz_0]
  by_cases hy : y = -1 ∨ (y ≠ x ∧ rFind (A 60) y c ≠ none)
  rotate_left
  · apply hno
    · unfold fn_SL_store
      rw [bi_t (px_isModule x A), zb_t hm, if_neg (by decide), gr_t (q := 61) rfl, vi_t rfl (row_holds isRow_61 h3 he), zb_f (fun q => q hl), if_pos rfl, vi_t rfl (px_mayStand x y hc h1), zb_f hy, if_pos rfl, rz_0]
    · unfold fn_Ref_store
      rw [vi_t rfl ref_module, zb_t hm, if_neg (by decide), vi_t rfl (ref_onLine h4 he), hcgl, zb_f (fun q => q hl), if_pos rfl]
      by_cases e1 : y = x
      · rw [if_pos e1, rz_0]
      · rw [if_neg e1, if_neg (fun q => hy (Or.inl q)), vi_t rfl (ref_inArchive h2 hc), hcga]
        have e2 : rFind (A 60) y c = none := Classical.byContradiction fun q => hy (Or.inr ⟨e1, q⟩)
        rw [e2, if_neg (by decide), rz_0]
  obtain ⟨v, A1, B1, c1, r1, r2, r3, r4, r5, r6, r7, r8, r9, r10, r11, r12⟩ := both_out x hc h1 h2 h5
  have hlt := rAr_lt r6 hm r7
  have hA : fn_SL_store 0 x y A = (if y = -1 then vi 3 59 (fn_Row_append 59 x A1) (fun v19 J18 => rz 1 J18) else vi 3 59 (fn_Row_placeOf 59 y A1) (fun v14 J13 => vi 3 59 (fn_Row_insert 59 v14 x J13) (fun v16 J15 => rz 1 J15))) := by
    unfold fn_SL_store
    rw [bi_t (px_isModule x A), zb_t hm, if_neg (by decide), gr_t (q := 61) rfl, vi_t rfl (row_holds isRow_61 h3 he), zb_f (fun q => q hl), if_pos rfl, vi_t rfl (px_mayStand x y hc h1), zb_t hy, if_neg (by decide), gr_t (q := 59) rfl, vi_t rfl r1, gr_t (q := 59) rfl, gr_t (q := 59) rfl, gr_t (q := 59) rfl]
  have hB0 : fn_Ref_store 78 x y B = fn_Ref_store_36 78 x y B := by
    unfold fn_Ref_store
    rw [vi_t rfl ref_module, zb_t hm, if_neg (by decide), vi_t rfl (ref_onLine h4 he), hcgl, zb_f (fun q => q hl), if_pos rfl]
    by_cases e1 : y = -1
    · rw [if_pos e1, if_neg (fun q => by
        subst e1; subst q
        exact absurd hm.1 (by decide))]
    · rcases hy with hy | ⟨hy1, hy2⟩
      · exact absurd hy e1
      · rw [if_neg hy1, if_neg e1, vi_t rfl (ref_inArchive h2 hc), hcga]
        cases hf : rFind (A 60) y c with
        | none => exact absurd hf hy2
        | some p =>
          have hp := (rFind_some hf).1
          rw [if_pos (show (0 : Int32) ≤ ro (some p) from nI_pos' (by omega))]
  -- what both do with a place p
  have key : ∀ p, p ≤ c1 → (fn_SL_store 0 x y A = vi 3 59 (fn_Row_insert 59 (nI p) x A1) (fun _ J => rz 1 J) ∨ fn_SL_store 0 x y A = vi 3 59 (fn_Row_append 59 x A1) (fun _ J => rz 1 J) ∧ p = c1) → fn_Ref_store 78 x y B = fn_Ref_store_66 FU 78 x (nI p) (nI c1) B1 → ∃ v A' B', fn_SL_store 0 x y A = ri v A' ∧ fn_Ref_store 78 x y B = ri v B' ∧ RIv A' B' ∧ (∀ q, q ≠ 59 → q ≠ 60 → A' q = A q) ∧ (∀ q, q ≠ 78 → q ≠ 85 → B' q = B q) ∧ (∀ j, j ≠ 6 → B' 78 j = B 78 j) := by
    intro p hp ha hb
    obtain ⟨A2, s1, s2, s3, s4⟩ := row_insert (x := x) isRow_59 r4 hlt hp
    obtain ⟨B2, t1, t2, t3, t4, t5⟩ := ref_ins_lp (p := p) (x := x) hlt FU c1 B1 r5 hp (Nat.le_refl _) (by have := fu_ge; omega)
    have ha2 : fn_SL_store 0 x y A = ri 1 A2 := by
      rcases ha with ha | ⟨ha, rfl⟩
      · rw [ha, vi_t rfl s1, rz_1]
      · have e9 : fn_Row_append 59 x A1 = ri 1 A2 := by
          unfold fn_Row_append
          rw [gi_t rfl, r4, vi_t rfl s1, rz_1]
        rw [ha, vi_t rfl e9, rz_1]
    have e62 : A2 62 = A 62 := (s4 62 (by decide) (by decide)).trans (r10 62 (by decide) (by decide))
    have e86 : B2 86 = B 86 := (t4 86 (by decide) (by decide)).trans (r11 86 (by decide) (by decide))
    refine ⟨1, A2, B2, ha2, hb.trans t1, ⟨c1 + 1, e, by omega, he, s2, t2, ?_, ?_, rAr_ins r6 hp hm r7 s3 t3, ?_, ?_, ?_, ?_⟩, fun q q1 q2 => (s4 q q1 q2).trans (r10 q q1 q2), fun q q1 q2 => (t4 q q1 q2).trans (r11 q q1 q2), fun j hj => (t5 j hj).trans (r12 j hj)⟩
    · rw [s4 61 (by decide) (by decide), r10 61 (by decide) (by decide)]; exact h3
    · rw [t5 8 (by decide), r12 8 (by decide)]; exact h4
    · rw [e62, e86]; exact h6
    · rw [e62]; exact h7
    · rw [e62]; exact h8
    · rw [e62]
      have hold : ∀ i j, i < c1 → j < e → A1 60 i ≠ A 62 j := fun i j hi hj q => by
        obtain ⟨k, hk, ek⟩ := r9 i hi
        exact h9 k j hk hj (ek.symm.trans q)
      intro i j hi hj
      rw [s3 i]
      split
      · exact hold i j (by omega) hj
      · split
        · exact fun q => rFind_none hl j hj q.symm
        · rw [if_pos (by omega)]
          exact hold (i - 1) j (by omega) hj
  by_cases e1 : y = -1
  · refine key c1 (Nat.le_refl _) (Or.inr ⟨by rw [hA, if_pos e1], rfl⟩) ?_
    rw [hB0]
    unfold fn_Ref_store_36
    rw [vi_t rfl r2, if_pos e1, gi_t rfl, gi_t rfl, r5]
  · rcases hy with hy | ⟨hy1, hy2⟩
    · exact absurd hy e1
    · cases hf : rFind (A1 60) y c1 with
      | none => exact absurd hf ((r8 y hy1).mpr hy2)
      | some p =>
        have hp := (rFind_some hf).1
        have hb : rFind (B1 85) y c1 = some p := (rFind_cg r6.1).trans hf
        refine key p (by omega) (Or.inl ?_) ?_
        · rw [hA, if_neg e1, vi_t rfl (row_placeOf isRow_59 r4 r3), hf]
          rfl
        · rw [hB0]
          unfold fn_Ref_store_36
          rw [vi_t rfl r2, if_neg e1, vi_t rfl (ref_inArchive r5 r3), hb, gi_t rfl, r5]
          rfl
theorem op_item {A B : fm_I} (h : RIv A B) (x : Int32) : ∃ v A' B', fn_SL_item 0 x A = ri v A' ∧ fn_Ref_item 78 x B = ri v B' ∧ RIv A' B' ∧ (∀ q, q ≠ 61 → q ≠ 62 → A' q = A q) ∧ (∀ q, q ≠ 78 → q ≠ 86 → B' q = B q) ∧ (∀ j, j ≠ 8 → B' 78 j = B 78 j) := by
  have h0 := h
  obtain ⟨c, e, hc, he, h1, h2, h3, h4, h5, h6, h7, h8, h9⟩ := h
  have hno : fn_SL_item 0 x A = ri 0 A → fn_Ref_item 78 x B = ri 0 B → ∃ v A' B', fn_SL_item 0 x A = ri v A' ∧ fn_Ref_item 78 x B = ri v B' ∧ RIv A' B' ∧ (∀ q, q ≠ 61 → q ≠ 62 → A' q = A q) ∧ (∀ q, q ≠ 78 → q ≠ 86 → B' q = B q) ∧ (∀ j, j ≠ 8 → B' 78 j = B 78 j) := fun a b => ⟨0, A, B, a, b, h0, fun _ _ _ => rfl, fun _ _ _ => rfl, fun _ _ => rfl⟩
  have hcgl : rFind (B 86) x e = rFind (A 62) x e := rFind_cg h6
  have hcga : rFind (B 85) x c = rFind (A 60) x c := rFind_cg h5.1
  have hfree : fn_SL_isFreeModule 0 x A = ri (zb (mdl x ∧ rFind (A 62) x e = none ∧ rFind (A 60) x c = none)) A := by
    unfold fn_SL_isFreeModule
    rw [bi_t (px_isModule x A)]
    by_cases e1 : mdl x
    · rw [zb_t e1, if_neg (by decide), gr_t (q := 61) rfl, vi_t rfl (row_holds isRow_61 h3 he)]
      by_cases e2 : rFind (A 62) x e = none
      · rw [zb_f (fun q => q e2), if_pos rfl, gr_t (q := 59) rfl, vi_t rfl (row_holds isRow_59 h1 hc)]
        by_cases e3 : rFind (A 60) x c = none
        · rw [zb_f (fun q => q e3), if_pos rfl, rz_1, zb_t ⟨e1, e2, e3⟩]
        · rw [zb_t e3, if_neg (by decide), rz_0, zb_f (fun q => e3 q.2.2)]
      · rw [zb_t e2, if_neg (by decide), rz_0, zb_f (fun q => e2 q.2.1)]
    · rw [zb_f e1, if_pos rfl, rz_0, zb_f (fun q => e1 q.1)]
  -- both put x at the end
  have key : e < 8 → (x = 6 ∨ (mdl x ∧ rFind (A 62) x e = none ∧ rFind (A 60) x c = none)) → (∀ J, fn_Row_append 61 x A = ri 1 J → fn_SL_item 0 x A = ri 1 J) → fn_Ref_item 78 x B = ri 1 (fm_up (fm_up B 86 e x) 78 8 (nI (e + 1))) → ∃ v A' B', fn_SL_item 0 x A = ri v A' ∧ fn_Ref_item 78 x B = ri v B' ∧ RIv A' B' ∧ (∀ q, q ≠ 61 → q ≠ 62 → A' q = A q) ∧ (∀ q, q ≠ 78 → q ≠ 86 → B' q = B q) ∧ (∀ j, j ≠ 8 → B' 78 j = B 78 j) := by
    intro he8 hx ha hb
    obtain ⟨A2, s1, s2, s3, s4⟩ := row_append (x := x) isRow_61 h3 he8
    have hb86 : ∀ j, fm_up (fm_up B 86 e x) 78 8 (nI (e + 1)) 86 j = if j = e then x else B 86 j := fun j => by
      rw [fm_up_p _ _ _ (by decide)]
      by_cases q : j = e
      · subst q; rw [fm_up_s, if_pos rfl]
      · rw [fm_up_k _ _ q, if_neg q]
    have e60 : A2 60 = A 60 := s4 60 (by decide) (by decide)
    refine ⟨1, A2, _, ha A2 s1, hb, ⟨c, e + 1, hc, by omega, ?_, ?_, s2, fm_up_s _ _ _ _, ?_, fun j hj => ?_, fun j hj => ?_, fun i j hi hj q1 q2 => ?_, fun i j hi hj => ?_⟩, s4, fun q q1 q2 => funext fun j => ?_, fun j hj => ?_⟩
    · rw [s4 59 (by decide) (by decide)]; exact h1
    · rw [fm_up_k _ _ (by decide), fm_up_p _ _ _ (by decide)]; exact h2
    · rw [e60, show fm_up (fm_up B 86 e x) 78 8 (nI (e + 1)) 85 = B 85 from funext fun j => by rw [fm_up_p _ _ _ (by decide), fm_up_p _ _ _ (by decide)]]
      exact h5
    · rw [hb86 j, s3 j]
      split
      · rfl
      · exact h6 j (by omega)
    · rw [s3 j]
      split
      · exact hx.imp id (fun q => q.1)
      · exact h7 j (by omega)
    · rw [s3 i, s3 j] at q1
      rw [s3 i] at q2
      by_cases c1 : i = e <;> by_cases c2 : j = e
      · omega
      · rw [if_pos c1, if_neg c2] at q1
        rw [if_pos c1] at q2
        rcases hx with hx | hx
        · exact absurd hx q2
        · exact absurd q1.symm (rFind_none hx.2.1 j (by omega))
      · rw [if_neg c1, if_pos c2] at q1
        rw [if_neg c1] at q2
        rcases hx with hx | hx
        · exact absurd (q1.trans hx) q2
        · exact absurd q1 (rFind_none hx.2.1 i (by omega))
      · rw [if_neg c1, if_neg c2] at q1
        rw [if_neg c1] at q2
        exact h8 i j (by omega) (by omega) q1 q2
    · rw [e60, s3 j]
      split
      · rcases hx with hx | hx
        · intro q
          have := (h5.2.1 i hi).2
          rw [q, hx] at this
          exact absurd this (by decide)
        · exact rFind_none hx.2.2 i hi
      · exact h9 i j hi (by omega)
    · rw [fm_up_p _ _ _ q1, fm_up_p _ _ _ q2]
    · rw [fm_up_k _ _ hj, fm_up_p _ _ _ (by decide)]
  have hput : e < 8 → gr 6 78 9 (fun v2 => gi 6 78 8 B (fun v3 => sI v2 v3 x B (fun J4 => gi 6 78 8 J4 (fun v5 => pI 6 78 8 (v5 + 1) J4 (fun J6 => rz 1 J6))))) = ri 1 (fm_up (fm_up B 86 e x) 78 8 (nI (e + 1))) := fun he8 => by
    rw [gr_t (q := 86) rfl, gi_t rfl, h4, sI_t (N := 8) rfl rfl he8, gi_t rfl, pI_t rfl, rz_1, fm_up_p _ _ _ (by decide), h4, nI_1]
  by_cases x6 : x = 6
  · by_cases he8 : e < 8
    · refine key he8 (Or.inl x6) (fun J hJ => ?_) ?_
      · unfold fn_SL_item
        rw [if_pos x6, gr_t (q := 61) rfl, vi_t rfl hJ, rz_1]
      · unfold fn_Ref_item
        rw [if_neg (by rw [x6]; decide), if_neg (by rw [x6]; decide), gi_t rfl, h4, if_neg (show ¬ (8 : Int32) ≤ nI e from nI_ge (b := 8) he8 (by decide)), if_pos (by rw [x6]; decide)]
        exact hput he8
    · apply hno
      · unfold fn_SL_item
        rw [if_pos x6, gr_t (q := 61) rfl, vi_t rfl (row_appendFull isRow_61 h3 (by omega) he), rz_0]
      · unfold fn_Ref_item
        rw [if_neg (by rw [x6]; decide), if_neg (by rw [x6]; decide), gi_t rfl, h4, if_pos (show (8 : Int32) ≤ nI e from nI_le (a := 8) (by omega) (by omega)), rz_0]
  · by_cases hm : mdl x ∧ rFind (A 62) x e = none ∧ rFind (A 60) x c = none
    · have n1 : ¬ x < 0 := Int32.not_lt.mpr hm.1.1
      have n2 : ¬ 6 < x := fun q => absurd (Int32.lt_of_lt_of_le q hm.1.2) (by decide)
      have n3 : ¬ 6 ≤ x := fun q => absurd (Int32.le_trans q hm.1.2) (by decide)
      by_cases he8 : e < 8
      · refine key he8 (Or.inr hm) (fun J hJ => ?_) ?_
        · unfold fn_SL_item
          rw [if_neg x6, vi_t rfl hfree, zb_t hm, if_neg (by decide), gr_t (q := 61) rfl, vi_t rfl hJ, rz_1]
        · unfold fn_Ref_item
          rw [if_neg n1, if_neg n2, gi_t rfl, h4, if_neg (show ¬ (8 : Int32) ≤ nI e from nI_ge (b := 8) he8 (by decide)), if_neg n3, vi_t rfl (ref_onLine h4 he), hcgl, zb_f (fun q => q hm.2.1), if_pos rfl, vi_t rfl (ref_inArchive h2 hc), hcga, hm.2.2, if_pos (by decide)]
          exact hput he8
      · apply hno
        · unfold fn_SL_item
          rw [if_neg x6, vi_t rfl hfree, zb_t hm, if_neg (by decide), gr_t (q := 61) rfl, vi_t rfl (row_appendFull isRow_61 h3 (by omega) he), rz_0]
        · unfold fn_Ref_item
          rw [if_neg n1, if_neg n2, gi_t rfl, h4, if_pos (show (8 : Int32) ≤ nI e from nI_le (a := 8) (by omega) (by omega)), rz_0]
    · apply hno
      · unfold fn_SL_item
        rw [if_neg x6, vi_t rfl hfree, zb_f hm, if_pos rfl, rz_0]
      · unfold fn_Ref_item
        by_cases n1 : x < 0
        · rw [if_pos n1, rz_0]
        · rw [if_neg n1]
          by_cases n2 : 6 < x
          · rw [if_pos n2, rz_0]
          · rw [if_neg n2, gi_t rfl, h4]
            by_cases he8 : e < 8
            · have hx5 : x ≤ 5 := by
                have a1 := Int32.not_lt.mp n2
                have a2 := Int32.le_iff_toInt_le.mp a1
                have a3 : (6 : Int32).toInt = 6 := by decide
                have a4 : x.toInt ≠ 6 := fun q => x6 (Int32.toInt_inj.mp (q.trans a3.symm))
                apply Int32.le_iff_toInt_le.mpr
                have a5 : (5 : Int32).toInt = 5 := by decide
                omega
              have hmm : mdl x := ⟨Int32.not_lt.mp n1, hx5⟩
              rw [if_neg (show ¬ (8 : Int32) ≤ nI e from nI_ge (b := 8) he8 (by decide)), if_neg (fun q => absurd (Int32.le_trans q hx5) (by decide)), vi_t rfl (ref_onLine h4 he), hcgl]
              by_cases e2 : rFind (A 62) x e = none
              · rw [zb_f (fun q => q e2), if_pos rfl, vi_t rfl (ref_inArchive h2 hc), hcga]
                cases hf : rFind (A 60) x c with
                | none => exact absurd ⟨hmm, e2, hf⟩ hm
                | some p =>
                  have hp := (rFind_some hf).1
                  rw [if_neg (show ¬ ro (some p) < 0 from nI_pos (by omega)), rz_0]
              · rw [zb_t e2, if_neg (by decide), rz_0]
            · rw [if_pos (show (8 : Int32) ≤ nI e from nI_le (a := 8) (by omega) (by omega)), rz_0]
