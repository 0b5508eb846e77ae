-- COMMONs, class side
section CO
variable {A B : fm_I} {o : Nat → Nat} {c : Nat} {lw : Nat → Nat → Nat} {want : Int32}
theorem lo_bit (h : LB A B o c lw) (hm : LM A o c want) {a : Nat} (ha : a < 16) : bt (A 56 4 &&& (A 56 3 ^^^ (-1))) a = true ↔ loP A o c a := by
  rw [b_and, Bool.and_eq_true, b_not _ (by omega), hm.2.1 a (by omega), hm.2.2.1 a (by omega)]
  have hlg := (lg_in h.1 (fun j hj => (h.2.1.2.2.2.1 j hj).1) ha c (Nat.le_refl _)).2
  unfold loP
  rw [ec_0]
  constructor
  · rintro ⟨⟨k, k1, k2⟩, q⟩
    exact ⟨fun j hj z => q ⟨j, hj, z⟩, fun z => hlg.mp z k k1 k2⟩
  · rintro ⟨q1, q2⟩
    refine ⟨Classical.byContradiction fun q => q2 (hlg.mpr (fun j hj z => q ⟨j, hj, z⟩)), fun ⟨j, hj, z⟩ => q1 j hj z⟩
theorem c_lc4 (h : LB A B o c lw) {A' : fm_I} (hf : FRI A A') {a : Nat} (ha : a < 16) : ∀ (n k : Nat), k ≤ c → c < n + k → fn_Img_largestCommon_4 n 63 (nI a) (lg A o a k) (nI k) A' = ri (lg A o a c) A'
  | 0, k, h1, h2 => by omega
  | n + 1, k, h1, h2 => by
    have hla := h.la.fr hf
    have hc6 := h.2.1.2.2.1
    unfold fn_Img_largestCommon_4
    rw [r63_1, vi_t rfl (c_hmI hla)]
    by_cases hk : k = c
    · subst hk
      rw [if_pos (nI_le (Nat.le_refl _) (by omega))]
    · have hk' : k < c := by omega
      have h6 := (h.2.1.2.2.2.1 k hk').1
      obtain ⟨hb, hq⟩ := isMod_m (o k) h6
      obtain ⟨cm, hc⟩ := h.1 (o k) h6
      have e1 := c_cmw (A := A') hb (hc.1.cgA (fun q q1 q2 => hf q (by omega))) ha
      have e2 : cmw A' (o k) a = cmw A (o k) a := by
        unfold cmw
        rw [hf (2 + 9 * o k) (by omega), hf (2 + 9 * o k + 3) (by omega), hf (2 + 9 * o k + 8) (by omega)]
      rw [e2] at e1
      rw [if_neg (nI_ge hk' (by omega)), r63_0, r63_1, vi_t rfl (c_maI hla hk'), la_t hq rfl, vi_t hb.1 e1, bn_t, nI_1]
      have ih := c_lc4 h hf ha n (k + 1) (by omega) (by omega)
      have hs : lg A o a (k + 1) = if cmw A (o k) a ≤ lg A o a k then lg A o a k else cmw A (o k) a := rfl
      rw [hs] at ih
      by_cases e : cmw A (o k) a ≤ lg A o a k
      · rw [if_neg (Int32.not_lt.mpr e)]
        rw [if_pos e] at ih
        exact ih
      · rw [if_pos (Int32.not_le.mp e)]
        rw [if_neg e] at ih
        exact ih
theorem c_lone (h : LB A B o c lw) (hm : LM A o c want) : ∀ a, a < 16 → ∀ A', FRI A A' → (loP A o c a → fn_Inc_isLoneCommon 56 (nI a) A' = ri 1 A' ∧ fn_Img_largestCommon 63 (nI a) A' = ri (nI (lgN A o c a)) A') ∧ (¬ loP A o c a → fn_Inc_isLoneCommon 56 (nI a) A' = ri 0 A') := fun a ha A' hf => by
  have e : fn_Inc_isLoneCommon 56 (nI a) A' = ri (zb (bt (A 56 4 &&& (A 56 3 ^^^ (-1))) a = true)) A' := by
    unfold fn_Inc_isLoneCommon
    rw [g56_4, g56_3, hf 56 (by decide), bi_t (px_has ha), rz_b]
  refine ⟨fun q => ⟨?_, ?_⟩, fun q => ?_⟩
  · rw [e, zb_t ((lo_bit h hm ha).mpr q)]
  · rw [← (lgN_eq h ha).1]
    exact c_lc4 h hf ha FU 0 (Nat.zero_le _) (by have := h.2.1.2.2.1; have := fu_ge; omega)
  · rw [e, zb_f (fun z => q ((lo_bit h hm ha).mp z))]
/-- sections and COMMONs laid out -/
theorem c_layout (h : LB A B o c lw) (hm : LM A o c want) (h8 : A 63 8 = 0) : ∃ A1 A2, fn_Img_layOutSections 63 A = rv A1 ∧ fn_Img_layOutCommons 63 A1 = rv A2 ∧ FRI A A2 ∧ A2 63 6 = nI (ss_ lw o c 3 + cbA A o c 16) ∧ A2 72 0 = nI (sl_ lw o 0 c) ∧ A2 72 1 = nI (sl_ lw o 1 c) ∧ A2 72 2 = nI (sl_ lw o 2 c + cbA A o c 16) ∧ (∀ s k, s < 3 → k < c → A2 (65 + o k) s = nI (ss_ lw o c s + sl_ lw o s k)) ∧ VS A o c lw 0 (A2 73) ∧ A2 63 8 = 0 := by
  obtain ⟨A1, e1, e2, e3⟩ := c_sections h.la h8
  obtain ⟨i1, i2, i3, i4⟩ := e3
  haveI := loD A o c
  obtain ⟨A2, f1, f2, f3, f4, f5, f6⟩ := @c_com2 (ss_ lw o c 3) (sl_ lw o 2 c) (loP A o c) (loD A o c) (lgN A o c) A (fun a ha A' hf => c_lone h hm a ha A' hf) FU 0 A1 e2 ⟨i1, i3 2 (by decide), fun a' q => absurd q (by omega), i4⟩ (Nat.zero_le _) (by have := fu_ge; omega)
  obtain ⟨j1, j2, j3, j4⟩ := f3
  refine ⟨A1, A2, e1, f1, e2.tr f2, j1, f5.trans (i3 0 (by decide)), f6.trans (i3 1 (by decide)), j2, fun s k hs hk => ?_, fun a ha => Or.inr ⟨fun k' q => absurd q (by omega), ?_⟩, j4⟩
  · have h6 := (h.2.1.2.2.2.1 k hk).1
    rw [f4 _ (by omega) (by omega) (by omega)]
    exact i2 s k hs hk (Or.inl hs)
  · have := j3 a ha
    by_cases q : loP A o c a
    · rw [if_pos q] at this
      exact Or.inl ⟨q, this⟩
    · rw [if_neg q] at this
      exact Or.inr ⟨q, this⟩
end CO
