theorem px_in200 {x : Int32} {T : Nat} (hT : T ≤ 200) : (0 ≤ x ∧ x ≤ nI T - 1) ↔ ∃ j : Nat, j < T ∧ x = nI j := by
  constructor
  · rintro ⟨h1, h2⟩
    obtain ⟨j, hj, rfl⟩ := nI_of (fun q => Int32.not_le.mpr q h1)
    refine ⟨j, ?_, rfl⟩
    cases T with
    | zero =>
      have h3 := Int32.le_iff_toInt_le.mp h2
      rw [nI_toInt hj] at h3
      have h4 : (nI 0 - 1).toInt = -1 := by decide
      omega
    | succ T =>
      rw [nI_pred] at h2
      have := (nI_leI hj (by omega)).mp h2
      omega
  · rintro ⟨j, hj, rfl⟩
    cases T with
    | zero => omega
    | succ T =>
      rw [nI_pred]
      exact ⟨nI_pos' (by omega), nI_le (by omega) (by omega)⟩
theorem c_in' {A0 A : fm_I} {T f t : Nat} {x a r p s o : Int32} {w tp L : Nat → Int32} (hA : MA A0 A T f t x a r p s o w tp L) (hT : T ≤ 200) (y : Int32) : (∃ j, j < T ∧ y = nI j ∧ fn_Mac_isInside 74 y A = ri 1 A) ∨ ((∀ j, j < T → y ≠ nI j) ∧ fn_Mac_isInside 74 y A = ri 0 A) := by
  rcases pk_ix y (n := T) (by omega) with h | h | ⟨j, hj, rfl⟩
  · refine Or.inr ⟨fun j hj e => ?_, ?_⟩
    · subst e; exact nI_pos (by omega) h
    · unfold fn_Mac_isInside
      rw [if_pos h, rz_0]
  · refine Or.inr ⟨fun j hj e => ?_, ?_⟩
    · subst e; exact nI_ge hj (by omega) h
    · unfold fn_Mac_isInside
      have h0 : ¬ y < 0 := fun q => by
        have h1 := Int32.lt_iff_toInt_lt.mp q
        have h2 := Int32.le_iff_toInt_le.mp h
        rw [nI_toInt (by omega)] at h2
        have h3 : (0 : Int32).toInt = 0 := by decide
        omega
      rw [if_neg h0, g74_3, hA.1.1, if_pos h, rz_0]
  · exact Or.inl ⟨j, hj, rfl, by rw [c_in hA hT j (by omega), zb_t hj]⟩
theorem r_in' {B : fm_I} {T : Nat} (hB : B 78 18 = nI T) (hT : T ≤ 200) (y : Int32) : (∃ j, j < T ∧ y = nI j ∧ fn_Ref_there 78 y B = ri 1 B) ∨ ((∀ j, j < T → y ≠ nI j) ∧ fn_Ref_there 78 y B = ri 0 B) := by
  unfold fn_Ref_there
  rcases pk_ix y (n := T) (by omega) with h | h | ⟨j, hj, rfl⟩
  · refine Or.inr ⟨fun j hj e => ?_, ?_⟩
    · subst e; exact nI_pos (by omega) h
    · rw [if_pos h, rz_0]
  · refine Or.inr ⟨fun j hj e => ?_, ?_⟩
    · subst e; exact nI_ge hj (by omega) h
    · have h0 : ¬ y < 0 := fun q => by
        have h1 := Int32.lt_iff_toInt_lt.mp q
        have h2 := Int32.le_iff_toInt_le.mp h
        rw [nI_toInt (by omega)] at h2
        have h3 : (0 : Int32).toInt = 0 := by decide
        omega
      rw [if_neg h0, g78_18, hB, if_pos h, rz_0]
  · exact Or.inl ⟨j, hj, rfl, by rw [if_neg (nI_pos (by omega)), g78_18, hB, if_neg (nI_ge hj (by omega)), rz_1]⟩
theorem op_memory {A B : fm_I} (h : MI A B) (y : Int32) : ∃ v, fn_SL_memory 0 y A = ri v A ∧ fn_Ref_memory 78 y B = ri v B := by
  obtain ⟨hL, ⟨a1, b1, s, hX⟩ | ⟨a1, b1⟩⟩ := h
  · obtain ⟨T, f, t, x, a, r, p, o, w, tp, L, hA, hB, hT, -⟩ := hX
    unfold fn_SL_memory fn_Mac_wordAt fn_Ref_memory
    rw [r0_5, g74_12, a1, if_neg (by decide), g78_21, b1, if_neg (by decide)]
    rcases c_in' hA hT y with ⟨j, hj, rfl, e1⟩ | ⟨hn, e1⟩
    · rcases r_in' hB.1.1 hT (nI j) with ⟨j', hj', e2, e3⟩ | ⟨hn', -⟩
      · refine ⟨w j, ?_, ?_⟩
        · rw [vi_t (kk := fun v3 J2 => if v3 = 0 then ri (-1) J2 else gr 5 74 0 (fun v4 => ld 0 v4 (nI j) J2 (fun v5 => ri v5 J2))) rfl e1, if_neg (by decide), r74_0, ld_t (N := 200) rfl rfl (by omega), vi_t rfl rfl, hA.2.1 j hj]
        · rw [vi_t rfl e3, if_neg (by decide), r78_22, ld_t (N := 200) rfl rfl (by omega), hB.2.1 j hj]
      · exact absurd rfl (hn' j hj)
    · rcases r_in' hB.1.1 hT y with ⟨j', hj', e2, -⟩ | ⟨-, e3⟩
      · exact absurd e2 (hn j' hj')
      · refine ⟨-1, ?_, ?_⟩
        · rw [vi_t (kk := fun v3 J2 => if v3 = 0 then ri (-1) J2 else gr 5 74 0 (fun v4 => ld 0 v4 y J2 (fun v5 => ri v5 J2))) rfl e1, if_pos (by decide), vi_t rfl rfl]
        · rw [vi_t rfl e3, if_pos (by decide)]
  · refine ⟨-1, ?_, ?_⟩
    · unfold fn_SL_memory fn_Mac_wordAt
      rw [r0_5, g74_12, a1, if_pos (by decide), vi_t rfl rfl]
    · unfold fn_Ref_memory
      rw [g78_21, b1, if_pos (by decide)]
theorem px_59 {k : Int32} : (0 ≤ k - 5 ∧ k - 5 ≤ 3) → ∃ j : Nat, j ≤ 3 ∧ k = nI (j + 5) ∧ k - 5 = nI j := by
  rintro ⟨h1, h2⟩
  obtain ⟨j, hj, e⟩ := nI_of2 (x := k - 5) (M := 3) (n := 3) (by decide) (fun q => Int32.not_le.mpr q h1) h2
  refine ⟨j, hj, ?_, e⟩
  have h3 : k = (k - 5) + 5 := by rw [Int32.sub_add_cancel]
  rw [h3, e]
  exact nI_add j 5
theorem op_register {A B : fm_I} (h : MI A B) (k : Int32) : ∃ v, fn_SL_register 0 k A = ri v A ∧ fn_Ref_register 78 k B = ri v B := by
  obtain ⟨hL, ⟨a1, b1, s, hX⟩ | ⟨a1, b1⟩⟩ := h
  · obtain ⟨T, f, t, x, a, r, p, o, w, tp, L, ⟨⟨h1, h2, h3, h4, h5, h6, h7, h8, h9⟩, h10, h11, h12, -, -⟩, ⟨⟨k1, k2, k3, k4, k5, k6, k7, k8, k9⟩, k10, k11, k12, -, -⟩, hR⟩ := hX
    have hth : fn_Mac_isThere 74 A = ri 1 A := by
      unfold fn_Mac_isThere
      rw [g74_12, a1, rz_1]
    have key : ∀ v, fn_Mac_registerAt 74 k A = ri v A → fn_Ref_register 78 k B = ri v B → ∃ v, fn_SL_register 0 k A = ri v A ∧ fn_Ref_register 78 k B = ri v B := fun v e1 e2 => ⟨v, by
      unfold fn_SL_register
      rw [r0_5, vi_t rfl hth, if_neg (by decide), r0_5, vi_t rfl e1], e2⟩
    by_cases c0 : k = 0
    · subst c0
      exact key a (by unfold fn_Mac_registerAt; rw [if_pos (by decide), g74_5, h3]) (by unfold fn_Ref_register; rw [g78_21, b1, if_neg (by decide), if_neg (by decide), if_pos (by decide), if_pos (by decide), if_pos (by decide), g78_23, k3])
    by_cases c1 : k = 1
    · subst c1
      exact key r (by unfold fn_Mac_registerAt; rw [if_neg (by decide), if_pos (by decide), g74_6, h4]) (by unfold fn_Ref_register; rw [g78_21, b1, if_neg (by decide), if_neg (by decide), if_pos (by decide), if_pos (by decide), if_neg (by decide), if_pos (by decide), g78_24, k4])
    by_cases c2 : k = 2
    · subst c2
      exact key p (by unfold fn_Mac_registerAt; rw [if_neg (by decide), if_neg (by decide), if_pos (by decide), g74_7, h5]) (by unfold fn_Ref_register; rw [g78_21, b1, if_neg (by decide), if_neg (by decide), if_pos (by decide), if_pos (by decide), if_neg (by decide), if_neg (by decide), if_pos (by decide), g78_25, k5])
    by_cases c3 : k = 3
    · subst c3
      exact key s (by unfold fn_Mac_registerAt; rw [if_neg (by decide), if_neg (by decide), if_neg (by decide), if_pos (by decide), g74_8, h6]) (by unfold fn_Ref_register; rw [g78_21, b1, if_neg (by decide), if_neg (by decide), if_pos (by decide), if_pos (by decide), if_neg (by decide), if_neg (by decide), if_neg (by decide), if_pos (by decide), g78_26, k6])
    by_cases c4 : k = 4
    · subst c4
      exact key o (by unfold fn_Mac_registerAt; rw [if_neg (by decide), if_neg (by decide), if_neg (by decide), if_neg (by decide), if_pos (by decide), g74_11, h9]) (by unfold fn_Ref_register; rw [g78_21, b1, if_neg (by decide), if_neg (by decide), if_pos (by decide), if_pos (by decide), if_neg (by decide), if_neg (by decide), if_neg (by decide), if_neg (by decide), g78_27, k9])
    have hlt : fn_Mac_registerAt 74 k A = vi 5 74 (fn_Mac_latestWord 74 (k - 5) A) (fun v7 J6 => ri v7 J6) := by
      unfold fn_Mac_registerAt
      rw [if_neg c0, if_neg c1, if_neg c2, if_neg c3, if_neg c4]
    by_cases hw : 0 ≤ k - 5 ∧ k - 5 ≤ 3
    · obtain ⟨j, hj, e1, e2⟩ := px_59 hw
      have hl : fn_Mac_latestWord 74 (k - 5) A = if o ≤ nI j then ri (-1) A else ri (L j) A := by
        unfold fn_Mac_latestWord
        rw [bi_t (px_within _ _ _ _), zb_t hw, if_neg (by decide), g74_11, h9, e2]
        by_cases ho : o ≤ nI j
        · rw [if_pos ho, if_pos ho]
        · rw [if_neg ho, if_neg ho, r74_2, ld_t (N := 4) rfl rfl (by omega), h12 j (by omega)]
      have hr : fn_Ref_register 78 k B = if o ≤ nI j then ri (-1) B else ri (L j) B := by
        unfold fn_Ref_register
        rw [g78_21, b1, if_neg (by decide), e2, e1, if_neg (nI_pos (by omega)), if_pos (show nI (j + 5) ≤ 8 from nI_le (b := 8) (by omega) (by decide)), if_neg (show ¬ nI (j + 5) < 5 from nI_nlt (b := 5) (by omega) (by omega)), g78_27, k9]
        by_cases ho : o ≤ nI j
        · rw [if_pos ho, if_pos ho]
        · rw [if_neg ho, if_neg ho, r78_28, ld_t (N := 4) rfl rfl (by omega), k12 j (by omega)]
      by_cases ho : o ≤ nI j
      · rw [if_pos ho] at hl hr
        exact key (-1) (by rw [hlt, vi_t rfl hl]) hr
      · rw [if_neg ho] at hl hr
        exact key (L j) (by rw [hlt, vi_t rfl hl]) hr
    · have hl : fn_Mac_latestWord 74 (k - 5) A = ri (-1) A := by
        unfold fn_Mac_latestWord
        rw [bi_t (px_within _ _ _ _), zb_f hw, if_pos (by decide)]
      refine key (-1) (by rw [hlt, vi_t rfl hl]) ?_
      unfold fn_Ref_register
      rw [g78_21, b1, if_neg (by decide)]
      by_cases n1 : k < 0
      · rw [if_pos n1]
      · rw [if_neg n1]
        by_cases n2 : k ≤ 8
        · exfalso
          obtain ⟨j, hj, rfl⟩ := nI_of2 (x := k) (M := 8) (n := 8) (by decide) n1 n2
          have n0 : j ≠ 0 := fun e => c0 (by rw [e]; rfl)
          have m1 : j ≠ 1 := fun e => c1 (by rw [e]; rfl)
          have m2 : j ≠ 2 := fun e => c2 (by rw [e]; rfl)
          have m3 : j ≠ 3 := fun e => c3 (by rw [e]; rfl)
          have m4 : j ≠ 4 := fun e => c4 (by rw [e]; rfl)
          apply hw
          rw [show nI j - 5 = nI (j - 5) from pk_sub (b := 5) (by omega)]
          exact ⟨nI_pos' (by omega), nI_le (b := 3) (by omega) (by decide)⟩
        · rw [if_neg n2]
  · refine ⟨-1, ?_, ?_⟩
    · have hth : fn_Mac_isThere 74 A = ri 0 A := by
        unfold fn_Mac_isThere
        rw [g74_12, a1, rz_0]
      unfold fn_SL_register
      rw [r0_5, vi_t rfl hth, if_pos (by decide)]
    · unfold fn_Ref_register
      rw [g78_21, b1, if_pos (by decide)]
theorem op_size {A B : fm_I} (h : IR A B) (k : Int32) : ∃ v, fn_SL_size 0 k A = ri v A ∧ fn_Ref_size 78 k B = ri v B := by
  rcases h with ⟨a1, b1⟩ | ⟨a1, b1, T, hT, h1, h2, h3, -⟩
  · refine ⟨-1, ?_, ?_⟩
    · unfold fn_SL_size fn_Img_wordsIn
      rw [r0_4, g63_8, a1, if_pos (by decide), vi_t rfl rfl]
    · unfold fn_Ref_size
      rw [g78_14, b1, if_pos (by decide)]
  · by_cases hk : 0 ≤ k ∧ k ≤ 2
    · obtain ⟨j, hj, rfl⟩ := nI_of2 (x := k) (M := 2) (n := 2) (by decide) (fun q => Int32.not_le.mpr q hk.1) hk.2
      refine ⟨A 72 j, ?_, ?_⟩
      · unfold fn_SL_size fn_Img_wordsIn
        rw [r0_4, g63_8, a1, if_neg (by decide), bi_t (px_isSection _ _), zb_t hk, if_neg (by decide), r63_4, ld_t (N := 3) rfl rfl (by omega), vi_t rfl rfl]
      · unfold fn_Ref_size
        rw [g78_14, b1, if_neg (by decide), if_neg (Int32.not_lt.mpr hk.1)]
        first
          | rw [if_pos hk.2, r78_17, ld_t (N := 3) rfl rfl (by omega), h3 j (by omega)]
          | rw [if_neg (Int32.not_lt.mpr hk.2), r78_17, ld_t (N := 3) rfl rfl (by omega), h3 j (by omega)]
    · refine ⟨-1, ?_, ?_⟩
      · unfold fn_SL_size fn_Img_wordsIn
        rw [r0_4, g63_8, a1, if_neg (by decide), bi_t (px_isSection _ _), zb_f hk, if_pos (by decide), vi_t rfl rfl]
      · unfold fn_Ref_size
        rw [g78_14, b1, if_neg (by decide)]
        by_cases n1 : k < 0
        · rw [if_pos n1]
        · rw [if_neg n1]
          first
            | rw [if_neg (fun q => hk ⟨Int32.not_lt.mp n1, q⟩)]
            | rw [if_pos (Int32.not_le.mp (fun q => hk ⟨Int32.not_lt.mp n1, q⟩))]
theorem op_word {A B : fm_I} (h : IR A B) (y : Int32) : ∃ v, fn_SL_word 0 y A = ri v A ∧ fn_Ref_word 78 y B = ri v B := by
  rcases h with ⟨a1, b1⟩ | ⟨a1, b1, T, hT, h1, h2, h3, h4, -⟩
  · refine ⟨-1, ?_, ?_⟩
    · unfold fn_SL_word fn_Img_wordAt
      rw [r0_4, g63_8, a1, if_pos (by decide), vi_t rfl rfl]
    · unfold fn_Ref_word
      rw [g78_14, b1, if_pos (by decide)]
  · by_cases hk : 0 ≤ y ∧ y ≤ nI T - 1
    · obtain ⟨j, hj, rfl⟩ := (px_in200 hT).mp hk
      refine ⟨A 71 j, ?_, ?_⟩
      · unfold fn_SL_word fn_Img_wordAt
        rw [r0_4, g63_8, a1, if_neg (by decide), g63_6, h1, bi_t (px_within _ _ _ _), zb_t hk, if_neg (by decide), r63_3, ld_t (N := 200) rfl rfl (by omega), vi_t rfl rfl]
      · unfold fn_Ref_word
        rw [g78_14, b1, if_neg (by decide), if_neg (nI_pos (by omega)), g78_18, h2, if_neg (nI_ge hj (by omega)), r78_16, ld_t (N := 200) rfl rfl (by omega), (h4 j (by omega)).1]
    · refine ⟨-1, ?_, ?_⟩
      · unfold fn_SL_word fn_Img_wordAt
        rw [r0_4, g63_8, a1, if_neg (by decide), g63_6, h1, bi_t (px_within _ _ _ _), zb_f hk, if_pos (by decide), vi_t rfl rfl]
      · unfold fn_Ref_word
        rw [g78_14, b1, if_neg (by decide)]
        rcases pk_ix y (n := T) (by omega) with q | q | ⟨j, hj, rfl⟩
        · rw [if_pos q]
        · by_cases n1 : y < 0
          · rw [if_pos n1]
          · rw [if_neg n1, g78_18, h2, if_pos q]
        · exact absurd ((px_in200 hT).mpr ⟨j, hj, rfl⟩) hk
theorem op_symbol {A B : fm_I} (h : IR A B) (k : Int32) : ∃ v, fn_SL_symbol 0 k A = ri v A ∧ fn_Ref_symbol 78 k B = ri v B := by
  rcases h with ⟨a1, b1⟩ | ⟨a1, b1, T, hT, h1, h2, h3, h4, h5, h6, h7, h8, h9⟩
  · refine ⟨-1, ?_, ?_⟩
    · unfold fn_SL_symbol fn_Img_valueOf
      rw [r0_4, g63_8, a1, if_pos (by decide), vi_t rfl rfl]
    · unfold fn_Ref_symbol
      rw [g78_14, b1, if_pos (by decide)]
  · rcases h9 with s0 | s1
    · by_cases hk : 0 ≤ k ∧ k ≤ 15
      · obtain ⟨j, hj, rfl⟩ := nI_of2 (x := k) (M := 15) (n := 15) (by decide) (fun q => Int32.not_le.mpr q hk.1) hk.2
        refine ⟨A 73 j, ?_, ?_⟩
        · unfold fn_SL_symbol fn_Img_valueOf
          rw [r0_4, g63_8, a1, if_neg (by decide), g63_9, s0, if_pos (by decide), bi_t (px_isName _ _), zb_t hk, if_neg (by decide), r63_5, ld_t (N := 16) rfl rfl (by omega), vi_t rfl rfl]
        · unfold fn_Ref_symbol
          rw [g78_14, b1, if_neg (by decide), g78_15, h8, s0, if_pos (by decide), vi_t rfl ref_name, zb_t hk, if_neg (by decide), r78_19, ld_t (N := 16) rfl rfl (by omega), h5 j (by omega)]
      · refine ⟨-1, ?_, ?_⟩
        · unfold fn_SL_symbol fn_Img_valueOf
          rw [r0_4, g63_8, a1, if_neg (by decide), g63_9, s0, if_pos (by decide), bi_t (px_isName _ _), zb_f hk, if_pos (by decide), vi_t rfl rfl]
        · unfold fn_Ref_symbol
          rw [g78_14, b1, if_neg (by decide), g78_15, h8, s0, if_pos (by decide), vi_t rfl ref_name, zb_f hk, if_pos (by decide)]
    · refine ⟨-1, ?_, ?_⟩
      · unfold fn_SL_symbol fn_Img_valueOf
        rw [r0_4, g63_8, a1, if_neg (by decide), g63_9, s1, if_neg (by decide), vi_t rfl rfl]
      · unfold fn_Ref_symbol
        rw [g78_14, b1, if_neg (by decide), g78_15, h8, s1, if_neg (by decide)]
