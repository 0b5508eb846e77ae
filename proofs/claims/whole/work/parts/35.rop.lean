-- archive and line on both sides: A is the class's table, B the reference's
abbrev mdl (x : Int32) : Prop := 0 ≤ x ∧ x ≤ 5
/-- two rows with the same c different modules -/
def rAr (f g : Nat → Int32) (c : Nat) : Prop := (∀ j, j < c → g j = f j) ∧ (∀ j, j < c → mdl (f j)) ∧ (∀ i j, i < c → j < c → f i = f j → i = j)
def RIv (A B : fm_I) : Prop := ∃ c e : Nat, c ≤ 6 ∧ e ≤ 8 ∧ A 59 1 = nI c ∧ B 78 6 = nI c ∧ A 61 1 = nI e ∧ B 78 8 = nI e ∧ rAr (A 60) (B 85) c ∧ (∀ j, j < e → B 86 j = A 62 j) ∧ (∀ j, j < e → A 62 j = 6 ∨ mdl (A 62 j)) ∧ (∀ i j, i < e → j < e → A 62 i = A 62 j → A 62 i ≠ 6 → i = j) ∧ (∀ i j, i < c → j < e → A 60 i ≠ A 62 j)
theorem mdl_n {x : Int32} (h : mdl x) : ∃ m : Nat, m < 6 ∧ x = nI m := by
  obtain ⟨j, hj, e⟩ := nI_of2 (x := x) (M := 5) (n := 5) (by decide) (fun q => Int32.not_le.mpr q h.1) h.2
  exact ⟨j, by omega, e⟩
theorem rAr_le {f g : Nat → Int32} {c : Nat} (h : rAr f g c) : c ≤ 6 := by
  have h1 : ∀ j, ∃ m : Nat, j < c → m < 6 ∧ f j = nI m := fun j => by
    by_cases hj : j < c
    · obtain ⟨m, h2, h3⟩ := mdl_n (h.2.1 j hj)
      exact ⟨m, fun _ => ⟨h2, h3⟩⟩
    · exact ⟨0, fun q => absurd q hj⟩
  obtain ⟨t, ht⟩ := Classical.axiomOfChoice h1
  refine r_pigeon 6 c t (fun j hj => (ht j hj).1) (fun i j hi hj e => h.2.2 i j hi hj ?_)
  rw [(ht i hi).2, (ht j hj).2, e]
/-- one that is not among them has room -/
theorem rAr_lt {f g : Nat → Int32} {c : Nat} {x : Int32} (h : rAr f g c) (hx : mdl x) (hn : rFind f x c = none) : c < 6 := by
  have h1 : rAr (upd f c x) (upd f c x) (c + 1) := by
    refine ⟨fun _ _ => rfl, fun j hj => ?_, fun i j hi hj e => ?_⟩
    · by_cases e : j = c
      · subst e; rw [pk_us]; exact hx
      · rw [pk_un e]; exact h.2.1 j (by omega)
    · by_cases e1 : i = c <;> by_cases e2 : j = c
      · omega
      · subst e1
        rw [pk_us, pk_un e2] at e
        exact absurd e.symm (rFind_none hn j (by omega))
      · subst e2
        rw [pk_us, pk_un e1] at e
        exact absurd e (rFind_none hn i (by omega))
      · rw [pk_un e1, pk_un e2] at e
        exact h.2.2 i j (by omega) (by omega) e
  have := rAr_le h1
  omega
theorem rAr_rem {f g f' g' : Nat → Int32} {c p : Nat} (h : rAr f g c) (hp : p < c) (hf : ∀ j, j < c - 1 → f' j = if j < p then f j else f (j + 1)) (hg : ∀ j, j < c - 1 → g' j = if j < p then g j else g (j + 1)) : rAr f' g' (c - 1) := by
  refine ⟨fun j hj => ?_, fun j hj => ?_, fun i j hi hj e => ?_⟩
  · rw [hf j hj, hg j hj, h.1 j (by omega), h.1 (j + 1) (by omega)]
  · rw [hf j hj]
    split
    · exact h.2.1 j (by omega)
    · exact h.2.1 (j + 1) (by omega)
  · rw [hf i hi, hf j hj] at e
    by_cases c1 : i < p <;> by_cases c2 : j < p
    · rw [if_pos c1, if_pos c2] at e
      exact h.2.2 i j (by omega) (by omega) e
    · rw [if_pos c1, if_neg c2] at e
      have := h.2.2 i (j + 1) (by omega) (by omega) e
      omega
    · rw [if_neg c1, if_pos c2] at e
      have := h.2.2 (i + 1) j (by omega) (by omega) e
      omega
    · rw [if_neg c1, if_neg c2] at e
      have := h.2.2 (i + 1) (j + 1) (by omega) (by omega) e
      omega
theorem rAr_ins {f g f' g' : Nat → Int32} {c p : Nat} {x : Int32} (h : rAr f g c) (hp : p ≤ c) (hx : mdl x) (hn : rFind f x c = none) (hf : ∀ j, f' j = if j < p then f j else if j = p then x else if j ≤ c then f (j - 1) else f j) (hg : ∀ j, g' j = if j < p then g j else if j = p then x else if j ≤ c then g (j - 1) else g j) : rAr f' g' (c + 1) := by
  have hno := rFind_none hn
  refine ⟨fun j hj => ?_, fun j hj => ?_, fun i j hi hj e => ?_⟩
  · rw [hf j, hg j]
    split
    · exact h.1 j (by omega)
    · split
      · rfl
      · rw [if_pos (by omega), if_pos (by omega)]
        exact h.1 (j - 1) (by omega)
  · rw [hf j]
    split
    · exact h.2.1 j (by omega)
    · split
      · exact hx
      · rw [if_pos (by omega)]
        exact h.2.1 (j - 1) (by omega)
  · rw [hf i, hf j] at e
    by_cases c1 : i < p <;> by_cases c2 : j < p
    · rw [if_pos c1, if_pos c2] at e
      exact h.2.2 i j (by omega) (by omega) e
    · rw [if_pos c1, if_neg c2] at e
      by_cases c3 : j = p
      · rw [if_pos c3] at e
        exact absurd e (hno i (by omega))
      · rw [if_neg c3, if_pos (by omega)] at e
        have := h.2.2 i (j - 1) (by omega) (by omega) e
        omega
    · rw [if_neg c1, if_pos c2] at e
      by_cases c3 : i = p
      · rw [if_pos c3] at e
        exact absurd e.symm (hno j (by omega))
      · rw [if_neg c3, if_pos (by omega)] at e
        have := h.2.2 (i - 1) j (by omega) (by omega) e
        omega
    · rw [if_neg c1, if_neg c2] at e
      by_cases c3 : i = p <;> by_cases c4 : j = p
      · omega
      · rw [if_pos c3, if_neg c4, if_pos (by omega)] at e
        exact absurd e.symm (hno (j - 1) (by omega))
      · rw [if_neg c3, if_pos c4, if_pos (by omega)] at e
        exact absurd e (hno (i - 1) (by omega))
      · rw [if_neg c3, if_neg c4, if_pos (by omega), if_pos (by omega)] at e
        have := h.2.2 (i - 1) (j - 1) (by omega) (by omega) e
        omega
theorem ref_onLine_lp {I : fm_I} {x : Int32} {e : Nat} (he : I 78 8 = nI e) (h8 : e ≤ 8) : ∀ (n k : Nat) (z : Int32), k ≤ e → e < n + k → (z = zb (rFind (I 86) x k ≠ none)) → fn_Ref_onLine_4 n 78 x z (nI k) I = ri (zb (rFind (I 86) x e ≠ none)) I
  | 0, k, z, h1, h2, _ => by omega
  | n + 1, k, z, h1, h2, h3 => by
    unfold fn_Ref_onLine_4
    rw [gi_t rfl, he]
    by_cases hk : k = e
    · subst hk
      rw [if_pos (nI_le (Nat.le_refl _) (by omega)), h3, rz_b]
    · have hs : rFind (I 86) x (k + 1) = match rFind (I 86) x k with
        | some p => some p
        | none => if I 86 k = x then some k else none := rfl
      rw [if_neg (nI_ge (show k < e by omega) (by omega)), nI_1]
      by_cases hz : rFind (I 86) x k = none
      · rw [h3, zb_f (fun q => q hz), if_pos rfl, gr_t (q := 86) rfl, ld_t (N := 8) rfl rfl (show k < 8 by omega)]
        rw [hz] at hs
        by_cases hx : I 86 k = x
        · rw [if_pos hx]
          simp only [if_pos hx] at hs
          exact ref_onLine_lp he h8 n (k + 1) 1 (by omega) (by omega) (zb_t (by rw [hs]; exact fun q => by cases q)).symm
        · rw [if_neg hx]
          simp only [if_neg hx] at hs
          exact ref_onLine_lp he h8 n (k + 1) 0 (by omega) (by omega) (zb_f (fun q => q hs)).symm
      · rw [h3, zb_t hz, if_neg (by decide)]
        have h9 : rFind (I 86) x (k + 1) ≠ none := fun q => hz (by
          rw [hs] at q
          cases hm : rFind (I 86) x k with
          | none => rfl
          | some p => rw [hm] at q; cases q)
        exact ref_onLine_lp he h8 n (k + 1) 1 (by omega) (by omega) (zb_t h9).symm
theorem ref_onLine {I : fm_I} {x : Int32} {e : Nat} (he : I 78 8 = nI e) (h8 : e ≤ 8) : fn_Ref_onLine 78 x I = ri (zb (rFind (I 86) x e ≠ none)) I := by
  unfold fn_Ref_onLine
  exact ref_onLine_lp he h8 FU 0 0 (Nat.zero_le _) (by have := fu_ge; omega) (zb_f (fun q => q rfl)).symm
theorem ref_module {I : fm_I} {x : Int32} : fn_Ref_module 78 x I = ri (zb (mdl x)) I := by
  unfold fn_Ref_module
  by_cases h1 : x < 0
  · rw [if_pos h1, rz_0, zb_f (fun h => Int32.not_le.mpr h1 h.1)]
  · rw [if_neg h1]
    by_cases h2 : 5 < x
    · rw [if_pos h2, rz_0, zb_f (fun h => Int32.not_le.mpr h2 h.2)]
    · rw [if_neg h2, rz_1, zb_t ⟨Int32.not_lt.mp h1, Int32.not_lt.mp h2⟩]
theorem ref_remove {c p : Nat} {x : Int32} {I : fm_I} (hc : I 78 6 = nI c) (hc6 : c ≤ 6) (hf : rFind (I 85) x c = some p) : ∃ J, fn_Ref_remove 78 x I = ri 1 J ∧ J 78 6 = nI (c - 1) ∧ (∀ j, j < c - 1 → J 85 j = if j < p then I 85 j else I 85 (j + 1)) ∧ (∀ q, q ≠ 78 → q ≠ 85 → J q = I q) ∧ (∀ j, j ≠ 6 → J 78 j = I 78 j) := by
  obtain ⟨hp, -, -⟩ := rFind_some hf
  obtain ⟨c, rfl⟩ : ∃ c', c = c' + 1 := ⟨c - 1, by omega⟩
  unfold fn_Ref_remove
  rw [vi_t rfl (ref_inArchive hc hc6), hf, if_pos (show (0 : Int32) ≤ ro (some p) from nI_pos' (by omega)), gi_t rfl, pI_t rfl, hc, nI_pred]
  obtain ⟨J, e, h1, h2⟩ := ref_shift_lp (x := x) (show c < 6 by omega) FU p (fm_up I 78 6 (nI c)) (fm_up_s _ _ _ _) (by omega) (by have := fu_ge; omega)
  refine ⟨J, e, ?_, fun j hj => ?_, fun q h3 h4 => ?_, fun j hj => ?_⟩
  · rw [h2 78 (by omega)]
    exact fm_up_s _ _ _ _
  · rw [h1 j, fm_up_p _ _ _ (by omega), fm_up_p _ _ _ (by omega)]
    by_cases c1 : j < p
    · rw [if_pos c1, if_neg (by omega)]
    · rw [if_neg c1, if_pos (by omega)]
  · rw [h2 q h4]
    exact funext fun j => fm_up_p _ _ _ h3
  · rw [h2 78 (by omega)]
    exact fm_up_k _ _ hj
theorem ref_removeNot {c : Nat} {x : Int32} {I : fm_I} (hc : I 78 6 = nI c) (hc6 : c ≤ 6) (hf : rFind (I 85) x c = none) : fn_Ref_remove 78 x I = ri 0 I := by
  unfold fn_Ref_remove
  rw [vi_t rfl (ref_inArchive hc hc6), hf, if_neg (by decide), rz_0]
-- the promises about archive and line, side by side
theorem px_mem (x : Int32) {c : Nat} (hc : c < 2147483648) {f g : Nat → Int32} (h : ∀ j, j < c → g j = f j) : (if 0 ≤ x ∧ x.toInt < c then f x.toNatClampNeg else -1) = (if 0 ≤ x ∧ x.toInt < c then g x.toNatClampNeg else (-1 : Int32)) := by
  split
  · rename_i hx
    rcases pk_ix x hc with h1 | h1 | ⟨j, hj, rfl⟩
    · exact absurd hx.1 (Int32.not_le.mpr h1)
    · have h2 := Int32.le_iff_toInt_le.mp h1
      rw [nI_toInt hc] at h2
      omega
    · rw [nI_clamp (by omega), h j hj]
  · rfl
theorem ref_member {I : fm_I} {c : Nat} {x : Int32} (hc : I 78 6 = nI c) (hc6 : c ≤ 6) : fn_Ref_member 78 x I = ri (if 0 ≤ x ∧ x.toInt < c then I 85 x.toNatClampNeg else -1) I := by
  unfold fn_Ref_member
  rcases pk_ix x (n := c) (by omega) with h | h | ⟨j, hj, rfl⟩
  · rw [if_pos h, if_neg (fun q => Int32.not_le.mpr h q.1)]
  · rw [if_neg (fun q => by
      have h1 := Int32.lt_iff_toInt_lt.mp q
      have h2 := Int32.le_iff_toInt_le.mp h
      rw [nI_toInt (by omega)] at h2
      have h3 : (0 : Int32).toInt = 0 := by decide
      omega), gi_t rfl, hc, if_pos h, if_neg (fun q => by
      have h2 := Int32.le_iff_toInt_le.mp h
      rw [nI_toInt (by omega)] at h2
      omega)]
  · rw [if_neg (nI_pos (by omega)), gi_t rfl, hc, if_neg (nI_ge hj (by omega)), gr_t (q := 85) rfl, ld_t (N := 6) rfl rfl (by omega), if_pos ⟨nI_pos' (by omega), by rw [nI_toInt (by omega)]; omega⟩, nI_clamp (by omega)]
theorem op_member {A B : fm_I} (h : RIv A B) (x : Int32) : ∃ v, fn_SL_member 0 x A = ri v A ∧ fn_Ref_member 78 x B = ri v B := by
  obtain ⟨c, e, hc, he, h1, h2, -, -, h5, -⟩ := h
  refine ⟨if 0 ≤ x ∧ x.toInt < c then A 60 x.toNatClampNeg else -1, ?_, ?_⟩
  · unfold fn_SL_member
    rw [gr_t (q := 59) rfl, vi_t rfl (row_at isRow_59 h1 hc)]
  · rw [ref_member h2 hc, px_mem x (by omega) h5.1]
theorem op_newLine {A B : fm_I} (h : RIv A B) : ∃ A' B', fn_SL_newLine 0 A = rv A' ∧ fn_Ref_newLine 78 B = rv B' ∧ RIv A' B' ∧ (∀ q, q ≠ 61 → A' q = A q) ∧ (∀ q, q ≠ 78 → B' q = B q) ∧ (∀ j, j ≠ 8 → B' 78 j = B 78 j) := by
  obtain ⟨c, e, hc, he, h1, h2, h3, h4, h5, -, -, -, -⟩ := h
  refine ⟨fm_up A 61 1 0, fm_up B 78 8 0, ?_, ?_, ⟨c, 0, hc, by omega, ?_, ?_, fm_up_s _ _ _ _, fm_up_s _ _ _ _, ?_, fun j hj => absurd hj (by omega), fun j hj => absurd hj (by omega), fun i j hi => absurd hi (by omega), fun i j _ hj => absurd hj (by omega)⟩, fun q hq => funext fun j => fm_up_p _ _ _ hq, fun q hq => funext fun j => fm_up_p _ _ _ hq, fun j hj => fm_up_k _ _ hj⟩
  · unfold fn_SL_newLine
    rw [gr_t (q := 61) rfl, vv_t (J := fm_up A 61 1 0) rfl (by unfold fn_Row_makeEmpty; rw [pI_t rfl])]
  · unfold fn_Ref_newLine
    rw [pI_t rfl]
  · rw [fm_up_p _ _ _ (by decide)]; exact h1
  · rw [fm_up_k _ _ (by decide)]; exact h2
  · rw [show fm_up A 61 1 0 60 = A 60 from funext fun j => fm_up_p _ _ _ (by decide), show fm_up B 78 8 0 85 = B 85 from funext fun j => fm_up_p _ _ _ (by decide)]
    exact h5
theorem op_remove {A B : fm_I} (h : RIv A B) (x : Int32) : ∃ v A' B', fn_SL_remove 0 x A = ri v A' ∧ fn_Ref_remove 78 x B = ri v B' ∧ RIv A' B' ∧ (∀ q, q ≠ 59 → q ≠ 60 → A' q = A q) ∧ (∀ q, q ≠ 78 → q ≠ 85 → B' q = B q) ∧ (∀ j, j ≠ 6 → B' 78 j = B 78 j) := by
  have h0 := h
  obtain ⟨c, e, hc, he, h1, h2, h3, h4, h5, h6, h7, h8, h9⟩ := h
  unfold fn_SL_remove
  rw [gr_t (q := 59) rfl]
  have hcg : rFind (B 85) x c = rFind (A 60) x c := rFind_cg h5.1
  cases hf : rFind (A 60) x c with
  | none => exact ⟨0, A, B, by rw [vi_t rfl (row_takeNot isRow_59 h1 hc hf), rz_0], ref_removeNot h2 hc (hcg.trans hf), h0, fun _ _ _ => rfl, fun _ _ _ => rfl, fun _ _ => rfl⟩
  | some p =>
    obtain ⟨hp, -, -⟩ := rFind_some hf
    obtain ⟨A', a1, a2, a3, a4⟩ := row_takeOut isRow_59 h1 hc hf
    obtain ⟨B', b1, b2, b3, b4, b5⟩ := ref_remove h2 hc (hcg.trans hf)
    refine ⟨1, A', B', by rw [vi_t rfl a1, rz_1], b1, ⟨c - 1, e, by omega, he, a2, b2, ?_, ?_, rAr_rem h5 hp a3 b3, ?_, ?_, ?_, ?_⟩, a4, b4, b5⟩
    · rw [a4 61 (by decide) (by decide)]; exact h3
    · rw [b5 8 (by decide)]; exact h4
    · rw [a4 62 (by decide) (by decide), b4 86 (by decide) (by decide)]; exact h6
    · rw [a4 62 (by decide) (by decide)]; exact h7
    · rw [a4 62 (by decide) (by decide)]; exact h8
    · rw [a4 62 (by decide) (by decide)]
      intro i j hi hj
      rw [a3 i hi]
      split
      · exact h9 i j (by omega) hj
      · exact h9 (i + 1) j (by omega) hj
