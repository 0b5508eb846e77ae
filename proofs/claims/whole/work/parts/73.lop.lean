-- the law's loop over the script
theorem sl_t {S : Nat × (Nat → Int32)} {a : Int32} {j : Nat} {kk : Int32 → pR} (hi : a = nI j) (hj : j < S.1) (hS : S.1 < 2147483648) : sl S a kk = kk (S.2 j) := by
  subst hi
  unfold sl
  rw [if_neg (fun q => q.elim (nI_pos (by omega)) (fun z => by rw [nI_clamp (by omega)] at z; omega)), nI_clamp (by omega)]
theorem lw_one {f g : fm_I → pR} (hf : ∀ I, pF false (f I) I) (hg : ∀ I, pF true (g I) I) (hop : ∀ A B, Rel A B → ∃ v A' B', f A = ri v A' ∧ g B = ri v B' ∧ Rel A' B') {I : fm_I} (h : Rel I I) : ∃ v I' J, f I = ri v I' ∧ g I' = ri v J ∧ Rel J J := by
  obtain ⟨v, I', -, e1, -, -⟩ := hop I I h
  have h1 : Rel I I' := h.cg (fun _ _ => rfl) (fun q hq => hf I _ _ e1 q (fun z => by
    have : q < 78 := z
    omega))
  obtain ⟨v2, A2, J, f1, f2, f3⟩ := hop I I' h1
  have hi := e1.symm.trans f1
  have hv : v = v2 := by injection hi with q1; injection q1 with q2 q3; injection q2 with q4; injection q4
  have hA : I' = A2 := by injection hi with q1; injection q1
  subst hv
  subst hA
  exact ⟨v, I', J, e1, f2, f3.cg (fun q hq => hg I' _ _ f2 q (fun z => by
    have : 78 ≤ q := z
    omega)) (fun _ _ => rfl)⟩
theorem lw_oneV {f g : fm_I → pR} (hf : ∀ I, pF false (f I) I) (hg : ∀ I, pF true (g I) I) (hop : ∀ A B, Rel A B → ∃ A' B', f A = rv A' ∧ g B = rv B' ∧ Rel A' B') {I : fm_I} (h : Rel I I) : ∃ I' J, f I = rv I' ∧ g I' = rv J ∧ Rel J J := by
  obtain ⟨I', -, e1, -, -⟩ := hop I I h
  have h1 : Rel I I' := h.cg (fun _ _ => rfl) (fun q hq => hf I _ _ e1 q (fun z => by
    have : q < 78 := z
    omega))
  obtain ⟨A2, J, f1, f2, f3⟩ := hop I I' h1
  have hi := e1.symm.trans f1
  have hA : I' = A2 := by injection hi with q1; injection q1
  subst hA
  exact ⟨I', J, e1, f2, f3.cg (fun q hq => hg I' _ _ f2 q (fun z => by
    have : 78 ≤ q := z
    omega)) (fun _ _ => rfl)⟩
theorem sd_0 : sd false 0 := (by decide : 0 < 78)
theorem sd_78 : sd true 78 := (by decide : 78 ≤ 78)
theorem n_sub5 {L : Nat} (h : L ≤ 100000) : (Int32.ofNat L - 5).toInt = (L : Int) - 5 := by
  show (nI L - nI 5).toInt = _
  rw [pk_sub_toInt (by omega) (by omega)]
  rfl
theorem law_ok (S : Nat × (Nat → Int32)) (hS : S.1 ≤ 100000) : ∀ (n i : Nat) (I : fm_I), Rel I I → i ≤ S.1 → S.1 < 5 * n + i → ∃ J, fn_Law_law_18 S n 0 78 (nI i) I = ri 1 J
  | 0, i, I, _, h1, h2 => by omega
  | n + 1, i, I, h, h1, h2 => by
    unfold fn_Law_law_18
    by_cases hend : Int32.ofNat S.1 - 5 < nI i
    · rw [if_pos hend, rz_1]
      exact ⟨I, rfl⟩
    have hi5 : i + 5 ≤ S.1 := by
      have hq : ¬ (Int32.ofNat S.1 - 5).toInt < (nI i).toInt := fun z => hend (Int32.lt_iff_toInt_lt.mpr z)
      rw [n_sub5 hS, nI_toInt (by omega)] at hq
      omega
    have hS2 : S.1 < 2147483648 := by omega
    have i1 : nI i + 1 = nI (i + 1) := nI_add i 1
    have i2 : nI i + 2 = nI (i + 2) := nI_add i 2
    have i3 : nI i + 3 = nI (i + 3) := nI_add i 3
    have i4 : nI i + 4 = nI (i + 4) := nI_add i 4
    have i5 : nI i + 5 = nI (i + 5) := nI_add i 5
    have j1 : i + 1 < S.1 := by omega
    have j2 : i + 2 < S.1 := by omega
    have j3 : i + 3 < S.1 := by omega
    have j4 : i + 4 < S.1 := by omega
    have ih : ∀ J, Rel J J → ∃ K, fn_Law_law_18 S n 0 78 (nI (i + 5)) J = ri 1 K := fun J hJ => law_ok S hS n (i + 5) J hJ hi5 (by omega)
    rw [if_neg hend, sl_t rfl (by omega) hS2, bn_t]
    generalize S.2 i &&& 31 = c
    by_cases e0 : c = 0
    · obtain ⟨v, I', J, f1, f2, f3⟩ := lw_one (f := fun I => fn_SL_add 0 (S.2 (i + 1)) (S.2 (i + 2)) (S.2 (i + 3)) (S.2 (i + 4)) I) (g := fun I => fn_Ref_add 78 (S.2 (i + 1)) (S.2 (i + 2)) (S.2 (i + 3)) (S.2 (i + 4)) I) (fun I => fr_SL_add 0 (S.2 (i + 1)) (S.2 (i + 2)) (S.2 (i + 3)) (S.2 (i + 4)) I sd_0) (fun I => fr_Ref_add 78 (S.2 (i + 1)) (S.2 (i + 2)) (S.2 (i + 3)) (S.2 (i + 4)) I sd_78) (rl_add (S.2 (i + 1)) (S.2 (i + 2)) (S.2 (i + 3)) (S.2 (i + 4))) h
      rw [if_pos e0, sl_t i1 j1 hS2, sl_t i2 j2 hS2, sl_t i3 j3 hS2, sl_t i4 j4 hS2, vi_t rfl f1, sl_t i1 j1 hS2, sl_t i2 j2 hS2, sl_t i3 j3 hS2, sl_t i4 j4 hS2, vi_t rfl f2, if_pos rfl, i5]
      exact ih J f3
    rw [if_neg e0]
    by_cases e1 : c = 1
    · obtain ⟨v, I', J, f1, f2, f3⟩ := lw_one (f := fun I => fn_SL_clear 0 (S.2 (i + 1)) I) (g := fun I => fn_Ref_clear 78 (S.2 (i + 1)) I) (fun I => fr_SL_clear 0 (S.2 (i + 1)) I sd_0) (fun I => fr_Ref_clear 78 (S.2 (i + 1)) I sd_78) (rl_clear (S.2 (i + 1))) h
      rw [if_pos e1, sl_t i1 j1 hS2, vi_t rfl f1, sl_t i1 j1 hS2, vi_t rfl f2, if_pos rfl, i5]
      exact ih J f3
    rw [if_neg e1]
    by_cases e2 : c = 2
    · obtain ⟨v, I', J, f1, f2, f3⟩ := lw_one (f := fun I => fn_SL_length 0 (S.2 (i + 1)) (S.2 (i + 2)) I) (g := fun I => fn_Ref_length 78 (S.2 (i + 1)) (S.2 (i + 2)) I) (fun I => fr_SL_length 0 (S.2 (i + 1)) (S.2 (i + 2)) I sd_0) (fun I => fr_Ref_length 78 (S.2 (i + 1)) (S.2 (i + 2)) I sd_78) (rl_length (S.2 (i + 1)) (S.2 (i + 2))) h
      rw [if_pos e2, sl_t i1 j1 hS2, sl_t i2 j2 hS2, vi_t rfl f1, sl_t i1 j1 hS2, sl_t i2 j2 hS2, vi_t rfl f2, if_pos rfl, i5]
      exact ih J f3
    rw [if_neg e2]
    by_cases e3 : c = 3
    · obtain ⟨v, I', J, f1, f2, f3⟩ := lw_one (f := fun I => fn_SL_isLong 0 (S.2 (i + 1)) (S.2 (i + 2)) I) (g := fun I => fn_Ref_isLong 78 (S.2 (i + 1)) (S.2 (i + 2)) I) (fun I => fr_SL_isLong 0 (S.2 (i + 1)) (S.2 (i + 2)) I sd_0) (fun I => fr_Ref_isLong 78 (S.2 (i + 1)) (S.2 (i + 2)) I sd_78) (rl_isLong (S.2 (i + 1)) (S.2 (i + 2))) h
      rw [if_pos e3, sl_t i1 j1 hS2, sl_t i2 j2 hS2, vi_t rfl f1, sl_t i1 j1 hS2, sl_t i2 j2 hS2, vi_t rfl f2, if_pos rfl, i5]
      exact ih J f3
    rw [if_neg e3]
    by_cases e4 : c = 4
    · obtain ⟨v, I', J, f1, f2, f3⟩ := lw_one (f := fun I => fn_SL_store 0 (S.2 (i + 1)) (S.2 (i + 2)) I) (g := fun I => fn_Ref_store 78 (S.2 (i + 1)) (S.2 (i + 2)) I) (fun I => fr_SL_store 0 (S.2 (i + 1)) (S.2 (i + 2)) I sd_0) (fun I => fr_Ref_store 78 (S.2 (i + 1)) (S.2 (i + 2)) I sd_78) (rl_store (S.2 (i + 1)) (S.2 (i + 2))) h
      rw [if_pos e4, sl_t i1 j1 hS2, sl_t i2 j2 hS2, vi_t rfl f1, sl_t i1 j1 hS2, sl_t i2 j2 hS2, vi_t rfl f2, if_pos rfl, i5]
      exact ih J f3
    rw [if_neg e4]
    by_cases e5 : c = 5
    · obtain ⟨v, I', J, f1, f2, f3⟩ := lw_one (f := fun I => fn_SL_remove 0 (S.2 (i + 1)) I) (g := fun I => fn_Ref_remove 78 (S.2 (i + 1)) I) (fun I => fr_SL_remove 0 (S.2 (i + 1)) I sd_0) (fun I => fr_Ref_remove 78 (S.2 (i + 1)) I sd_78) (rl_remove (S.2 (i + 1))) h
      rw [if_pos e5, sl_t i1 j1 hS2, vi_t rfl f1, sl_t i1 j1 hS2, vi_t rfl f2, if_pos rfl, i5]
      exact ih J f3
    rw [if_neg e5]
    by_cases e6 : c = 6
    · obtain ⟨v, I', J, f1, f2, f3⟩ := lw_one (f := fun I => fn_SL_member 0 (S.2 (i + 1)) I) (g := fun I => fn_Ref_member 78 (S.2 (i + 1)) I) (fun I => fr_SL_member 0 (S.2 (i + 1)) I sd_0) (fun I => fr_Ref_member 78 (S.2 (i + 1)) I sd_78) (rl_member (S.2 (i + 1))) h
      rw [if_pos e6, sl_t i1 j1 hS2, vi_t rfl f1, sl_t i1 j1 hS2, vi_t rfl f2, if_pos rfl, i5]
      exact ih J f3
    rw [if_neg e6]
    by_cases e7 : c = 7
    · obtain ⟨v, I', J, f1, f2, f3⟩ := lw_one (f := fun I => fn_SL_item 0 (S.2 (i + 1)) I) (g := fun I => fn_Ref_item 78 (S.2 (i + 1)) I) (fun I => fr_SL_item 0 (S.2 (i + 1)) I sd_0) (fun I => fr_Ref_item 78 (S.2 (i + 1)) I sd_78) (rl_item (S.2 (i + 1))) h
      rw [if_pos e7, sl_t i1 j1 hS2, vi_t rfl f1, sl_t i1 j1 hS2, vi_t rfl f2, if_pos rfl, i5]
      exact ih J f3
    rw [if_neg e7]
    by_cases e8 : c = 8
    · obtain ⟨I', J, f1, f2, f3⟩ := lw_oneV (f := fun I => fn_SL_newLine 0 I) (g := fun I => fn_Ref_newLine 78 I) (fun I => fr_SL_newLine 0 I sd_0) (fun I => fr_Ref_newLine 78 I sd_78) (rl_newLine) h
      rw [if_pos e8, vv_t rfl f1, vv_t rfl f2, i5]
      exact ih J f3
    rw [if_neg e8]
    by_cases e9 : c = 9
    · obtain ⟨v, I', J, f1, f2, f3⟩ := lw_one (f := fun I => fn_SL_link 0 (S.2 (i + 1)) I) (g := fun I => fn_Ref_link 78 (S.2 (i + 1)) I) (fun I => fr_SL_link 0 (S.2 (i + 1)) I sd_0) (fun I => fr_Ref_link 78 (S.2 (i + 1)) I sd_78) (rl_link (S.2 (i + 1))) h
      rw [if_pos e9, sl_t i1 j1 hS2, vi_t rfl f1, sl_t i1 j1 hS2, vi_t rfl f2, if_pos rfl, i5]
      exact ih J f3
    rw [if_neg e9]
    by_cases e10 : c = 10
    · obtain ⟨v, I', J, f1, f2, f3⟩ := lw_one (f := fun I => fn_SL_included 0 (S.2 (i + 1)) I) (g := fun I => fn_Ref_included 78 (S.2 (i + 1)) I) (fun I => fr_SL_included 0 (S.2 (i + 1)) I sd_0) (fun I => fr_Ref_included 78 (S.2 (i + 1)) I sd_78) (rl_included (S.2 (i + 1))) h
      rw [if_pos e10, sl_t i1 j1 hS2, vi_t rfl f1, sl_t i1 j1 hS2, vi_t rfl f2, if_pos rfl, i5]
      exact ih J f3
    rw [if_neg e10]
    by_cases e11 : c = 11
    · obtain ⟨v, I', J, f1, f2, f3⟩ := lw_one (f := fun I => fn_SL_missing 0 I) (g := fun I => fn_Ref_missing 78 I) (fun I => fr_SL_missing 0 I sd_0) (fun I => fr_Ref_missing 78 I sd_78) (rl_missing) h
      rw [if_pos e11, vi_t rfl f1, vi_t rfl f2, if_pos rfl, i5]
      exact ih J f3
    rw [if_neg e11]
    by_cases e12 : c = 12
    · obtain ⟨v, I', J, f1, f2, f3⟩ := lw_one (f := fun I => fn_SL_size 0 (S.2 (i + 1)) I) (g := fun I => fn_Ref_size 78 (S.2 (i + 1)) I) (fun I => fr_SL_size 0 (S.2 (i + 1)) I sd_0) (fun I => fr_Ref_size 78 (S.2 (i + 1)) I sd_78) (rl_size (S.2 (i + 1))) h
      rw [if_pos e12, sl_t i1 j1 hS2, vi_t rfl f1, sl_t i1 j1 hS2, vi_t rfl f2, if_pos rfl, i5]
      exact ih J f3
    rw [if_neg e12]
    by_cases e13 : c = 13
    · obtain ⟨v, I', J, f1, f2, f3⟩ := lw_one (f := fun I => fn_SL_word 0 (S.2 (i + 1)) I) (g := fun I => fn_Ref_word 78 (S.2 (i + 1)) I) (fun I => fr_SL_word 0 (S.2 (i + 1)) I sd_0) (fun I => fr_Ref_word 78 (S.2 (i + 1)) I sd_78) (rl_word (S.2 (i + 1))) h
      rw [if_pos e13, sl_t i1 j1 hS2, vi_t rfl f1, sl_t i1 j1 hS2, vi_t rfl f2, if_pos rfl, i5]
      exact ih J f3
    rw [if_neg e13]
    by_cases e14 : c = 14
    · obtain ⟨v, I', J, f1, f2, f3⟩ := lw_one (f := fun I => fn_SL_symbol 0 (S.2 (i + 1)) I) (g := fun I => fn_Ref_symbol 78 (S.2 (i + 1)) I) (fun I => fr_SL_symbol 0 (S.2 (i + 1)) I sd_0) (fun I => fr_Ref_symbol 78 (S.2 (i + 1)) I sd_78) (rl_symbol (S.2 (i + 1))) h
      rw [if_pos e14, sl_t i1 j1 hS2, vi_t rfl f1, sl_t i1 j1 hS2, vi_t rfl f2, if_pos rfl, i5]
      exact ih J f3
    rw [if_neg e14]
    by_cases e15 : c = 15
    · obtain ⟨v, I', J, f1, f2, f3⟩ := lw_one (f := fun I => fn_SL_strip 0 I) (g := fun I => fn_Ref_strip 78 I) (fun I => fr_SL_strip 0 I sd_0) (fun I => fr_Ref_strip 78 I sd_78) (rl_strip) h
      rw [if_pos e15, vi_t rfl f1, vi_t rfl f2, if_pos rfl, i5]
      exact ih J f3
    rw [if_neg e15]
    by_cases e16 : c = 16
    · obtain ⟨v, I', J, f1, f2, f3⟩ := lw_one (f := fun I => fn_SL_start 0 I) (g := fun I => fn_Ref_start 78 I) (fun I => fr_SL_start 0 I sd_0) (fun I => fr_Ref_start 78 I sd_78) (rl_start) h
      rw [if_pos e16, vi_t rfl f1, vi_t rfl f2, if_pos rfl, i5]
      exact ih J f3
    rw [if_neg e16]
    by_cases e17 : c = 17
    · obtain ⟨v, I', J, f1, f2, f3⟩ := lw_one (f := fun I => fn_SL_feed 0 (S.2 (i + 1)) I) (g := fun I => fn_Ref_feed 78 (S.2 (i + 1)) I) (fun I => fr_SL_feed 0 (S.2 (i + 1)) I sd_0) (fun I => fr_Ref_feed 78 (S.2 (i + 1)) I sd_78) (rl_feed (S.2 (i + 1))) h
      rw [if_pos e17, sl_t i1 j1 hS2, vi_t rfl f1, sl_t i1 j1 hS2, vi_t rfl f2, if_pos rfl, i5]
      exact ih J f3
    rw [if_neg e17]
    by_cases e18 : c = 18
    · obtain ⟨v, I', J, f1, f2, f3⟩ := lw_one (f := fun I => fn_SL_run 0 (S.2 (i + 1)) I) (g := fun I => fn_Ref_run 78 (S.2 (i + 1)) I) (fun I => fr_SL_run 0 (S.2 (i + 1)) I sd_0) (fun I => fr_Ref_run 78 (S.2 (i + 1)) I sd_78) (rl_run (S.2 (i + 1))) h
      rw [if_pos e18, sl_t i1 j1 hS2, vi_t rfl f1, sl_t i1 j1 hS2, vi_t rfl f2, if_pos rfl, i5]
      exact ih J f3
    rw [if_neg e18]
    by_cases e19 : c = 19
    · obtain ⟨v, I', J, f1, f2, f3⟩ := lw_one (f := fun I => fn_SL_register 0 (S.2 (i + 1)) I) (g := fun I => fn_Ref_register 78 (S.2 (i + 1)) I) (fun I => fr_SL_register 0 (S.2 (i + 1)) I sd_0) (fun I => fr_Ref_register 78 (S.2 (i + 1)) I sd_78) (rl_register (S.2 (i + 1))) h
      rw [if_pos e19, sl_t i1 j1 hS2, vi_t rfl f1, sl_t i1 j1 hS2, vi_t rfl f2, if_pos rfl, i5]
      exact ih J f3
    rw [if_neg e19]
    by_cases e20 : c = 20
    · obtain ⟨v, I', J, f1, f2, f3⟩ := lw_one (f := fun I => fn_SL_memory 0 (S.2 (i + 1)) I) (g := fun I => fn_Ref_memory 78 (S.2 (i + 1)) I) (fun I => fr_SL_memory 0 (S.2 (i + 1)) I sd_0) (fun I => fr_Ref_memory 78 (S.2 (i + 1)) I sd_78) (rl_memory (S.2 (i + 1))) h
      rw [if_pos e20, sl_t i1 j1 hS2, vi_t rfl f1, sl_t i1 j1 hS2, vi_t rfl f2, if_pos rfl, i5]
      exact ih J f3
    rw [if_neg e20]
    rw [i5]
    exact ih I h
