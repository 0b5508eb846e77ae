theorem op_strip {A B : fm_I} (h : IR A B) : ∃ v A' B', fn_SL_strip 0 A = ri v A' ∧ fn_Ref_strip 78 B = ri v B' ∧ IR A' B' ∧ (∀ q, q ≠ 63 → A' q = A q) ∧ (∀ q, q ≠ 78 → B' q = B q) ∧ (∀ j, j ≠ 15 → B' 78 j = B 78 j) := by
  have h0 := h
  rcases h with ⟨a1, b1⟩ | ⟨a1, b1, T, hT, h1, h2, h3, h4, h5, h6, h7, h8, h9⟩
  · refine ⟨0, A, B, ?_, ?_, h0, fun _ _ => rfl, fun _ _ => rfl, fun _ _ => rfl⟩
    · unfold fn_SL_strip fn_Img_dropNames
      rw [r0_4, g63_8, a1, if_pos (by decide), rz_0, vi_t rfl rfl, rz_0]
    · unfold fn_Ref_strip
      rw [g78_14, b1, if_pos (by decide), rz_0]
  · rcases h9 with s0 | s1
    · refine ⟨1, fm_up A 63 9 1, fm_up B 78 15 1, ?_, ?_, Or.inr ⟨?_, ?_, T, hT, ?_, ?_, fun j hj => ?_, fun j hj => ?_, fun j hj => ?_, ?_, ?_, ?_, Or.inr (fm_up_s _ _ _ _)⟩, fun q hq => funext fun j => fm_up_p _ _ _ hq, fun q hq => funext fun j => fm_up_p _ _ _ hq, fun j hj => fm_up_k _ _ hj⟩
      · unfold fn_SL_strip fn_Img_dropNames
        rw [r0_4, g63_8, a1, if_neg (by decide), g63_9, s0, if_pos (by decide), p63_9_1, rz_1, vi_t rfl rfl, rz_1]
      · unfold fn_Ref_strip
        rw [g78_14, b1, if_neg (by decide), g78_15, h8, s0, if_pos (by decide), p78_15_1, rz_1]
      · rw [fm_up_k _ _ (by decide)]; exact a1
      · rw [fm_up_k _ _ (by decide)]; exact b1
      · rw [fm_up_k _ _ (by decide)]; exact h1
      · rw [fm_up_k _ _ (by decide)]; exact h2
      · rw [fm_up_p _ _ _ (by decide), fm_up_p _ _ _ (by decide)]; exact h3 j hj
      · rw [fm_up_p _ _ _ (by decide), fm_up_p _ _ _ (by decide)]; exact h4 j hj
      · rw [fm_up_p _ _ _ (by decide), fm_up_p _ _ _ (by decide)]; exact h5 j hj
      · rw [fm_up_k _ _ (by decide), fm_up_k _ _ (by decide)]; exact h6
      · rw [fm_up_k _ _ (by decide)]; exact h7
      · rw [fm_up_s, fm_up_s]
    · refine ⟨0, A, B, ?_, ?_, h0, fun _ _ => rfl, fun _ _ => rfl, fun _ _ => rfl⟩
      · unfold fn_SL_strip fn_Img_dropNames
        rw [r0_4, g63_8, a1, if_neg (by decide), g63_9, s1, if_neg (by decide), rz_0, vi_t rfl rfl, rz_0]
      · unfold fn_Ref_strip
        rw [g78_14, b1, if_neg (by decide), g78_15, h8, s1, if_neg (by decide), rz_0]
/-- the class's machine, its words copied, set to begin -/
def bgA (A : fm_I) : fm_I := fm_up (fm_up (fm_up (fm_up (fm_up (fm_up (fm_up (fm_up A 74 5 0) 74 6 0) 74 7 (A 63 7)) 74 8 0) 74 9 0) 74 10 0) 74 11 0) 74 12 1
def bgB (B : fm_I) : fm_I := fm_up (fm_up (fm_up (fm_up (fm_up (fm_up (fm_up B 78 23 0) 78 24 0) 78 25 (B 78 20)) 78 26 0) 78 27 0) 78 30 0) 78 31 0
theorem c_begin {T : Nat} (hT : T ≤ 200) : ∀ (n k : Nat) (A : fm_I), A 74 3 = nI T → A 63 8 = 1 → A 63 6 = nI T → k ≤ T → T < n + k → (∀ j, j < k → A 75 j = A 71 j) → ∃ A3, fn_Mac_begin_18 n 74 63 (nI k) A = rv (bgA A3) ∧ (∀ q, q ≠ 75 → A3 q = A q) ∧ (∀ j, j < T → A3 75 j = A 71 j)
  | 0, k, A, h1, h2, h3, h4, h5, h6 => by omega
  | n + 1, k, A, h1, h2, h3, h4, h5, h6 => by
    unfold fn_Mac_begin_18
    rw [g74_3, h1]
    by_cases hk : k = T
    · subst hk
      refine ⟨A, ?_, fun _ _ => rfl, h6⟩
      rw [if_pos (nI_le (Nat.le_refl _) (by omega)), p74_5, p74_6]
      have he : fn_Img_entryAddress 63 (fm_up (fm_up A 74 5 0) 74 6 0) = ri (A 63 7) (fm_up (fm_up A 74 5 0) 74 6 0) := by
        unfold fn_Img_entryAddress
        rw [g63_7, fm_up_p _ _ _ (by decide), fm_up_p _ _ _ (by decide)]
      rw [vi_t rfl he, p74_7, p74_8, p74_9, p74_10, p74_11, p74_12_1]
      rfl
    · have hw : fn_Img_wordAt 63 (nI k) A = ri (A 71 k) A := by
        unfold fn_Img_wordAt
        rw [g63_8, h2, if_neg (by decide), g63_6, h3, bi_t (px_within _ _ _ _), zb_t ((px_in200 hT).mpr ⟨k, by omega, rfl⟩), if_neg (by decide), r63_3, ld_t (N := 200) rfl rfl (by omega)]
      rw [if_neg (nI_ge (show k < T by omega) (by omega)), r74_0, vi_t rfl hw, sI_t (N := 200) rfl rfl (by omega), nI_1]
      obtain ⟨A3, e1, e2, e3⟩ := c_begin hT n (k + 1) (fm_up A 75 k (A 71 k)) (by rw [fm_up_p _ _ _ (by decide)]; exact h1) (by rw [fm_up_p _ _ _ (by decide)]; exact h2) (by rw [fm_up_p _ _ _ (by decide)]; exact h3) (by omega) (by omega) (fun j hj => by
        rw [fm_up_p _ _ _ (show 71 ≠ 75 by decide)]
        by_cases e : j = k
        · subst e; rw [fm_up_s]
        · rw [fm_up_k _ _ e]; exact h6 j (by omega))
      refine ⟨A3, e1, fun q hq => (e2 q hq).trans (funext fun j => fm_up_p _ _ _ hq), fun j hj => ?_⟩
      rw [e3 j hj, fm_up_p _ _ _ (by decide)]
theorem r_begin : ∀ (n k : Nat) (B : fm_I), k ≤ 200 → 200 < n + k → (∀ j, j < k → B 91 j = B 88 j) → ∃ B3, fn_Ref_start_16 n 78 (nI k) B = ri 1 (bgB B3) ∧ (∀ q, q ≠ 91 → B3 q = B q) ∧ (∀ j, j < 200 → B3 91 j = B 88 j)
  | 0, k, B, h4, h5, h6 => by omega
  | n + 1, k, B, h4, h5, h6 => by
    unfold fn_Ref_start_16
    by_cases hk : k = 200
    · subst hk
      refine ⟨B, ?_, fun _ _ => rfl, h6⟩
      rw [if_pos (show (200 : Int32) ≤ nI 200 by decide), p78_23, p78_24, g78_20, fm_up_k _ _ (by decide), fm_up_k _ _ (by decide), p78_25, p78_26, p78_27, p78_30, p78_31, rz_1]
      rfl
    · rw [if_neg (show ¬ (200 : Int32) ≤ nI k from nI_ge (b := 200) (by omega) (by decide)), r78_22, r78_16, ld_t (N := 200) rfl rfl (by omega), sI_t (N := 200) rfl rfl (by omega), nI_1]
      obtain ⟨B3, e1, e2, e3⟩ := r_begin n (k + 1) (fm_up B 91 k (B 88 k)) (by omega) (by omega) (fun j hj => by
        rw [fm_up_p _ _ _ (show 88 ≠ 91 by decide)]
        by_cases e : j = k
        · subst e; rw [fm_up_s]
        · rw [fm_up_k _ _ e]; exact h6 j (by omega))
      refine ⟨B3, e1, fun q hq => (e2 q hq).trans (funext fun j => fm_up_p _ _ _ hq), fun j hj => ?_⟩
      rw [e3 j hj, fm_up_p _ _ _ (by decide)]
theorem op_start {A B : fm_I} (hI : IR A B) (hM : MI A B) : ∃ v A' B', fn_SL_start 0 A = ri v A' ∧ fn_Ref_start 78 B = ri v B' ∧ MI A' B' ∧ (∀ q, q ≠ 74 → q ≠ 75 → A' q = A q) ∧ (∀ q, q ≠ 78 → q ≠ 91 → B' q = B q) ∧ (∀ j, j < 21 → B' 78 j = B 78 j) := by
  rcases hI with ⟨a1, b1⟩ | ⟨a1, b1, T, hT, h1, h2, h3, h4, h5, h6, h7, h8, h9⟩
  · refine ⟨0, A, B, ?_, ?_, hM, fun _ _ _ => rfl, fun _ _ _ => rfl, fun _ _ => rfl⟩
    · unfold fn_SL_start fn_Img_isThere
      rw [r0_4, g63_8, a1, rz_0, vi_t rfl rfl, if_pos (by decide), rz_0]
    · unfold fn_Ref_start
      rw [g78_14, b1, if_pos (by decide), rz_0]
  · -- the class
    have htx : fn_Img_textWords 63 (fm_up A 74 3 (nI T)) = ri (A 72 0) (fm_up A 74 3 (nI T)) := by
      unfold fn_Img_textWords
      rw [r63_4, ld_t (N := 3) (j := 0) rfl (by decide) (by decide), fm_up_p _ _ _ (by decide)]
    obtain ⟨A3, e1, e2, e3⟩ := c_begin hT FU 0 (fm_up (fm_up A 74 3 (nI T)) 74 4 (A 72 0)) (by rw [fm_up_k _ _ (by decide), fm_up_s]) (by rw [fm_up_p _ _ _ (by decide), fm_up_p _ _ _ (by decide)]; exact a1) (by rw [fm_up_p _ _ _ (by decide), fm_up_p _ _ _ (by decide)]; exact h1) (Nat.zero_le _) (by have := fu_ge; omega) (fun j hj => by omega)
    have hA3 : ∀ q j, q ≠ 75 → A3 q j = if q = 74 ∧ j = 4 then A 72 0 else if q = 74 ∧ j = 3 then nI T else A q j := fun q j hq => by
      rw [e2 q hq, fm_up_e, fm_up_e]
    have hA : fn_SL_start 0 A = ri 1 (bgA A3) := by
      unfold fn_SL_start fn_Img_isThere
      rw [r0_4, g63_8, a1, rz_1, vi_t rfl rfl, if_neg (by decide), r0_5, r0_4]
      have hb : fn_Mac_begin 74 63 A = rv (bgA A3) := by
        unfold fn_Mac_begin
        rw [vi_t (x := nI T) (J := A) rfl (by unfold fn_Img_howMany; rw [g63_6, h1]), p74_3, vi_t rfl htx, p74_4]
        exact e1
      rw [vv_t rfl hb, rz_1]
    -- the reference
    obtain ⟨B3, g1, g2, g3⟩ := r_begin FU 0 (fm_up B 78 21 1) (Nat.zero_le _) (by have := fu_ge; omega) (fun j hj => by omega)
    have hB : fn_Ref_start 78 B = ri 1 (bgB B3) := by
      unfold fn_Ref_start
      rw [g78_14, b1, if_neg (by decide), p78_21_1]
      exact g1
    have hB3 : ∀ q j, q ≠ 91 → B3 q j = if q = 78 ∧ j = 21 then 1 else B q j := fun q j hq => by
      rw [g2 q hq, fm_up_e]
    have hbA : ∀ q j, q ≠ 74 → bgA A3 q j = A3 q j := fun q j hq => by
      unfold bgA
      rw [fm_up_p _ _ _ hq, fm_up_p _ _ _ hq, fm_up_p _ _ _ hq, fm_up_p _ _ _ hq, fm_up_p _ _ _ hq, fm_up_p _ _ _ hq, fm_up_p _ _ _ hq, fm_up_p _ _ _ hq]
    have hbB : ∀ q j, q ≠ 78 → bgB B3 q j = B3 q j := fun q j hq => by
      unfold bgB
      rw [fm_up_p _ _ _ hq, fm_up_p _ _ _ hq, fm_up_p _ _ _ hq, fm_up_p _ _ _ hq, fm_up_p _ _ _ hq, fm_up_p _ _ _ hq, fm_up_p _ _ _ hq]
    have hbA4 : ∀ j, bgA A3 74 j = if j = 12 then 1 else if j = 11 ∨ j = 10 ∨ j = 9 ∨ j = 8 then 0 else if j = 7 then A 63 7 else if j = 6 ∨ j = 5 then 0 else A3 74 j := fun j => by
      unfold bgA
      simp only [fm_up_e, true_and]
      rw [hA3 63 7 (by decide)]
      by_cases q12 : j = 12 <;> by_cases q11 : j = 11 <;> by_cases q10 : j = 10 <;> by_cases q9 : j = 9 <;> by_cases q8 : j = 8 <;> by_cases q7 : j = 7 <;> by_cases q6 : j = 6 <;> by_cases q5 : j = 5 <;> simp [q12, q11, q10, q9, q8, q7, q6, q5]
    have hbB8 : ∀ j, bgB B3 78 j = if j = 31 ∨ j = 30 ∨ j = 27 ∨ j = 26 then 0 else if j = 25 then B 78 20 else if j = 24 ∨ j = 23 then 0 else B3 78 j := fun j => by
      unfold bgB
      simp only [fm_up_e, true_and]
      rw [hB3 78 20 (by decide)]
      by_cases q12 : j = 31 <;> by_cases q11 : j = 30 <;> by_cases q10 : j = 27 <;> by_cases q9 : j = 26 <;> by_cases q8 : j = 25 <;> by_cases q7 : j = 24 <;> by_cases q6 : j = 23 <;> simp [q12, q11, q10, q9, q8, q7, q6]
    have hL : ∀ j, j < 4 → bgB B3 92 j = bgA A3 77 j := fun j hj => by
      rw [hbA 77 j (by decide), hbB 92 j (by decide), hA3 77 j (by decide), hB3 92 j (by decide)]
      simp only [show ¬ ((77 : Nat) = 74) by decide, show ¬ ((92 : Nat) = 78) by decide, false_and, if_false]
      exact hM.1 j hj
    refine ⟨1, bgA A3, bgB B3, hA, hB, ⟨hL, Or.inl ⟨?_, ?_, 0, T, 0, 0, A 72 0, 0, 0, A 63 7, 0, A 71, A 76, bgA A3 77, ⟨⟨?_, ?_, ?_, ?_, ?_, ?_, ?_, ?_, ?_⟩, fun j hj => ?_, fun j hj => by omega, fun j hj => rfl, fun _ _ _ _ => rfl, rfl⟩, ⟨⟨?_, ?_, ?_, ?_, ?_, ?_, ?_, ?_, ?_⟩, fun j hj => ?_, fun j hj => by omega, hL, fun _ _ _ _ => rfl, fun _ _ => rfl⟩, hT, by omega, by omega, wd_0, wd_0, h7, fun j hj => (h4 j (by omega)).2, fun j hj => by omega⟩⟩, fun q q1 q2 => funext fun j => ?_, fun q q1 q2 => funext fun j => ?_, fun j hj => ?_⟩
    · rw [hbA4]; rfl
    · rw [hbB8, hB3 78 21 (by decide)]; rfl
    · rw [hbA4, hA3 74 3 (by decide)]; rfl
    · rw [hbA4, hA3 74 4 (by decide)]; rfl
    · rw [hbA4]; rfl
    · rw [hbA4]; rfl
    · rw [hbA4]; rfl
    · rw [hbA4]; rfl
    · rw [hbA4]; rfl
    · rw [hbA4]; rfl
    · rw [hbA4]; rfl
    · rw [hbA 75 j (by decide), e3 j hj, fm_up_p _ _ _ (by decide), fm_up_p _ _ _ (by decide)]
    · rw [hbB8, hB3 78 18 (by decide)]; exact h2
    · rw [hbB 89 0 (by decide), hB3 89 0 (by decide)]; exact h3 0 (by decide)
    · rw [hbB8]; rfl
    · rw [hbB8]; rfl
    · rw [hbB8]; exact h6
    · rw [hbB8]; rfl
    · rw [hbB8]; rfl
    · rw [hbB8]; rfl
    · rw [hbB8]; rfl
    · rw [hbB 91 j (by decide), g3 j (by omega), fm_up_p _ _ _ (by decide)]; exact (h4 j (by omega)).1
    · rw [hbA q j q1, hA3 q j q2, if_neg (fun z => q1 z.1), if_neg (fun z => q1 z.1)]
    · rw [hbB q j q1, hB3 q j q2, if_neg (fun z => q1 z.1)]
    · rw [hbB8, hB3 78 j (by decide), if_neg (by omega), if_neg (by omega), if_neg (by omega), if_neg (by omega)]
