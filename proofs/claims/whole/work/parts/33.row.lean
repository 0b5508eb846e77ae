-- printed by wip/whole/gen/gen_row.py: rows of numbers on both sides
def ro (o : Option Nat) : Int32 := match o with
  | some p => nI p
  | none => -1
/-- a Row of the class stands at b, with room for N -/
def isRow (b N : Nat) : Prop := sh_o 3 b = true ∧ sh_i 3 b 1 = true ∧ sh_r 3 b 0 = some (b + 1) ∧ sh_n 0 (b + 1) = some N ∧ N ≤ 8
theorem isRow_57 : isRow 57 6 := ⟨rfl, rfl, rfl, rfl, by decide⟩
theorem isRow_59 : isRow 59 6 := ⟨rfl, rfl, rfl, rfl, by decide⟩
theorem isRow_61 : isRow 61 8 := ⟨rfl, rfl, rfl, rfl, by decide⟩
theorem fu_ge : 4096 ≤ FU := Nat.le_refl _
theorem ro_neg {o : Option Nat} (h : ∀ p, o = some p → p < 2147483648) : ro o = -1 ↔ o = none := by
  cases o with
  | none => exact ⟨fun _ => rfl, fun _ => rfl⟩
  | some p =>
    refine ⟨fun e => ?_, fun e => by cases e⟩
    have h1 := congrArg Int32.toInt e
    rw [show ro (some p) = nI p from rfl, nI_toInt (h p rfl)] at h1
    have h2 : (-1 : Int32).toInt = -1 := by decide
    omega
theorem ro_lt {o : Option Nat} (h : ∀ p, o = some p → p < 2147483648) : ro o < 0 ↔ o = none := by
  cases o with
  | none => exact ⟨fun _ => rfl, fun _ => by decide⟩
  | some p => exact ⟨fun e => absurd e (nI_pos (h p rfl)), fun e => by cases e⟩
theorem rFind_b {f : Nat → Int32} {x : Int32} {n : Nat} (hn : n < 2147483648) : ∀ p, rFind f x n = some p → p < 2147483648 := fun p h => Nat.lt_trans (rFind_some h).1 hn
theorem row_placeOf_lp {I : fm_I} {x : Int32} {b N c : Nat} (hb : isRow b N) (hc : I b 1 = nI c) (hcN : c ≤ N) : ∀ (n k : Nat), k ≤ c → c < n + k → (∀ j, j < k → I (b + 1) j ≠ x) → fn_Row_placeOf_2 n b x (nI k) I = ri (ro (rFind (I (b + 1)) x c)) I
  | 0, k, h1, h2, _ => by omega
  | n + 1, k, h1, h2, h3 => by
    have hN8 := hb.2.2.2.2
    unfold fn_Row_placeOf_2
    rw [gi_t hb.2.1, hc]
    by_cases hk : k = c
    · subst hk
      rw [if_pos (nI_le (Nat.le_refl _) (by omega)), rFind_no h3]
      rfl
    · rw [if_neg (nI_ge (show k < c by omega) (by omega)), gr_t hb.2.2.1, ld_t hb.2.2.2.1 rfl (show k < _ by omega)]
      by_cases hx : I (b + 1) k = x
      · rw [if_pos hx, rFind_is (show k < c by omega) hx h3]
        rfl
      · rw [if_neg hx, nI_1]
        exact row_placeOf_lp hb hc hcN n (k + 1) (by omega) (by omega) (lt_s h3 hx)
theorem row_placeOf {I : fm_I} {x : Int32} {b N c : Nat} (hb : isRow b N) (hc : I b 1 = nI c) (hcN : c ≤ N) : fn_Row_placeOf b x I = ri (ro (rFind (I (b + 1)) x c)) I := by
  have hN8 := hb.2.2.2.2
  exact row_placeOf_lp hb hc hcN FU 0 (Nat.zero_le _) (by have := fu_ge; omega) lt_0
theorem ref_inArchive_lp {I : fm_I} {x : Int32} {c : Nat} (hc : I 78 6 = nI c) (hcN : c ≤ 6) : ∀ (n k : Nat), k ≤ c → c < n + k → (∀ j, j < k → I 85 j ≠ x) → fn_Ref_inArchive_2 n 78 x (nI k) I = ri (ro (rFind (I 85) x c)) I
  | 0, k, h1, h2, _ => by omega
  | n + 1, k, h1, h2, h3 => by
    have hN8 := hcN
    unfold fn_Ref_inArchive_2
    rw [gi_t rfl, hc]
    by_cases hk : k = c
    · subst hk
      rw [if_pos (nI_le (Nat.le_refl _) (by omega)), rFind_no h3]
      rfl
    · rw [if_neg (nI_ge (show k < c by omega) (by omega)), gr_t (q := 85) rfl, ld_t (N := 6) rfl rfl (show k < _ by omega)]
      by_cases hx : I 85 k = x
      · rw [if_pos hx, rFind_is (show k < c by omega) hx h3]
        rfl
      · rw [if_neg hx, nI_1]
        exact ref_inArchive_lp hc hcN n (k + 1) (by omega) (by omega) (lt_s h3 hx)
theorem ref_inArchive {I : fm_I} {x : Int32} {c : Nat} (hc : I 78 6 = nI c) (hcN : c ≤ 6) : fn_Ref_inArchive 78 x I = ri (ro (rFind (I 85) x c)) I := by
  have hN8 := hcN
  exact ref_inArchive_lp hc hcN FU 0 (Nat.zero_le _) (by have := fu_ge; omega) lt_0
theorem row_shift_lp {x : Int32} {b N c : Nat} (hb : isRow b N) (hcN : c < N) : ∀ (n k : Nat) (I : fm_I), I b 1 = nI c → k ≤ c → c < n + k → ∃ J, fn_Row_takeOut_25 n b (nI k) I = ri 1 J ∧ (∀ j, J (b + 1) j = if k ≤ j ∧ j < c then I (b + 1) (j + 1) else I (b + 1) j) ∧ (∀ q, q ≠ (b + 1) → J q = I q)
  | 0, k, I, hc, h1, h2 => by omega
  | n + 1, k, I, hc, h1, h2 => by
    have hN8 := hb.2.2.2.2
    unfold fn_Row_takeOut_25
    rw [gi_t hb.2.1, hc]
    by_cases hk : k = c
    · subst hk
      rw [if_pos (nI_le (Nat.le_refl _) (by omega)), rz_1]
      exact ⟨I, rfl, fun j => by rw [if_neg (by omega)], fun q _ => rfl⟩
    · rw [if_neg (nI_ge (show k < c by omega) (by omega)), gr_t hb.2.2.1, gr_t hb.2.2.1, nI_1, ld_t hb.2.2.2.1 rfl (show k + 1 < _ by omega), sI_t hb.2.2.2.1 rfl (show k < _ by omega)]
      obtain ⟨J, e, h3, h4⟩ := row_shift_lp (x := x) hb hcN n (k + 1) (fm_up I (b + 1) k (I (b + 1) (k + 1))) (by rw [fm_up_p _ _ _ (by omega)]; exact hc) (by omega) (by omega)
      refine ⟨J, e, fun j => ?_, fun q hq => ?_⟩
      · rw [h3 j]
        by_cases hj : j = k
        · subst hj
          rw [if_neg (by omega), if_pos (by omega), fm_up_s]
        · by_cases hj2 : k + 1 ≤ j ∧ j < c
          · rw [if_pos hj2, if_pos (by omega), fm_up_k _ _ (by omega)]
          · rw [if_neg hj2, if_neg (by omega), fm_up_k _ _ hj]
      · rw [h4 q hq]
        exact funext fun j => fm_up_p _ _ _ hq
theorem ref_shift_lp {x : Int32} {c : Nat} (hcN : c < 6) : ∀ (n k : Nat) (I : fm_I), I 78 6 = nI c → k ≤ c → c < n + k → ∃ J, fn_Ref_remove_24 n 78 (nI k) I = ri 1 J ∧ (∀ j, J 85 j = if k ≤ j ∧ j < c then I 85 (j + 1) else I 85 j) ∧ (∀ q, q ≠ 85 → J q = I q)
  | 0, k, I, hc, h1, h2 => by omega
  | n + 1, k, I, hc, h1, h2 => by
    have hN8 := hcN
    unfold fn_Ref_remove_24
    rw [gi_t rfl, hc]
    by_cases hk : k = c
    · subst hk
      rw [if_pos (nI_le (Nat.le_refl _) (by omega)), rz_1]
      exact ⟨I, rfl, fun j => by rw [if_neg (by omega)], fun q _ => rfl⟩
    · rw [if_neg (nI_ge (show k < c by omega) (by omega)), gr_t (q := 85) rfl, gr_t (q := 85) rfl, nI_1, ld_t (N := 6) rfl rfl (show k + 1 < _ by omega), sI_t (N := 6) rfl rfl (show k < _ by omega)]
      obtain ⟨J, e, h3, h4⟩ := ref_shift_lp (x := x) hcN n (k + 1) (fm_up I 85 k (I 85 (k + 1))) (by rw [fm_up_p _ _ _ (by omega)]; exact hc) (by omega) (by omega)
      refine ⟨J, e, fun j => ?_, fun q hq => ?_⟩
      · rw [h3 j]
        by_cases hj : j = k
        · subst hj
          rw [if_neg (by omega), if_pos (by omega), fm_up_s]
        · by_cases hj2 : k + 1 ≤ j ∧ j < c
          · rw [if_pos hj2, if_pos (by omega), fm_up_k _ _ (by omega)]
          · rw [if_neg hj2, if_neg (by omega), fm_up_k _ _ hj]
      · rw [h4 q hq]
        exact funext fun j => fm_up_p _ _ _ hq
theorem row_ins_lp {b N c p : Nat} {x : Int32} (hb : isRow b N) (hcN : c < N) : ∀ (n k : Nat) (I : fm_I), I b 1 = nI c → p ≤ k → k ≤ c → k < n + p → ∃ J, fn_Row_insert_31 n b (nI p) x (nI k) I = ri 1 J ∧ J b 1 = nI (c + 1) ∧ (∀ j, J (b + 1) j = if j < p then I (b + 1) j else if j = p then x else if j ≤ k then I (b + 1) (j - 1) else I (b + 1) j) ∧ (∀ q, q ≠ b → q ≠ (b + 1) → J q = I q) ∧ (∀ j, j ≠ 1 → J b j = I b j)
  | 0, k, I, hc, h1, h2, h3 => by omega
  | n + 1, k, I, hc, h1, h2, h3 => by
    have hN8 := hb.2.2.2.2
    unfold fn_Row_insert_31
    by_cases hk : k = p
    · subst hk
      rw [if_pos (nI_le (Nat.le_refl _) (by omega)), gr_t hb.2.2.1, sI_t hb.2.2.2.1 rfl (show k < _ by omega), gi_t hb.2.1, pI_t hb.2.1, rz_1, fm_up_p _ _ _ (by omega), hc, nI_1]
      refine ⟨_, rfl, fm_up_s _ _ _ _, fun j => ?_, fun q h4 h5 => ?_, fun j hj => ?_⟩
      · rw [fm_up_p _ _ _ (by omega)]
        by_cases hj : j = k
        · subst hj
          rw [fm_up_s, if_neg (by omega), if_pos rfl]
        · rw [fm_up_k _ _ hj]
          by_cases h4 : j < k
          · rw [if_pos h4]
          · rw [if_neg h4, if_neg hj, if_neg (by omega)]
      · exact funext fun j => by rw [fm_up_p _ _ _ h4, fm_up_p _ _ _ h5]
      · rw [fm_up_k _ _ hj, fm_up_p _ _ _ (by omega)]
    · obtain ⟨k, rfl⟩ : ∃ k', k = k' + 1 := ⟨k - 1, by omega⟩
      rw [if_neg (nI_ge (show p < k + 1 by omega) (by omega)), gr_t hb.2.2.1, gr_t hb.2.2.1, nI_pred, ld_t hb.2.2.2.1 rfl (show k < _ by omega), sI_t hb.2.2.2.1 rfl (show k + 1 < _ by omega), pk_m1]
      obtain ⟨J, e, h4, h5, h6, h7⟩ := row_ins_lp (p := p) (x := x) hb hcN n k (fm_up I (b + 1) (k + 1) (I (b + 1) k)) (by rw [fm_up_p _ _ _ (by omega)]; exact hc) (by omega) (by omega) (by omega)
      refine ⟨J, e, h4, fun j => ?_, fun q h8 h9 => ?_, fun j hj => ?_⟩
      · rw [h5 j]
        by_cases c1 : j < p
        · rw [if_pos c1, if_pos c1, fm_up_k _ _ (by omega)]
        · rw [if_neg c1, if_neg c1]
          by_cases c2 : j = p
          · rw [if_pos c2, if_pos c2]
          · rw [if_neg c2, if_neg c2]
            by_cases c3 : j ≤ k
            · rw [if_pos c3, if_pos (by omega), fm_up_k _ _ (by omega)]
            · rw [if_neg c3]
              by_cases c4 : j = k + 1
              · subst c4
                rw [fm_up_s, if_pos (Nat.le_refl _)]
                rfl
              · rw [fm_up_k _ _ c4, if_neg (by omega)]
      · rw [h6 q h8 h9]
        exact funext fun j => fm_up_p _ _ _ h9
      · rw [h7 j hj]
        exact fm_up_p _ _ _ (by omega)
theorem ref_ins_lp {c p : Nat} {x : Int32} (hcN : c < 6) : ∀ (n k : Nat) (I : fm_I), I 78 6 = nI c → p ≤ k → k ≤ c → k < n + p → ∃ J, fn_Ref_store_66 n 78 x (nI p) (nI k) I = ri 1 J ∧ J 78 6 = nI (c + 1) ∧ (∀ j, J 85 j = if j < p then I 85 j else if j = p then x else if j ≤ k then I 85 (j - 1) else I 85 j) ∧ (∀ q, q ≠ 78 → q ≠ 85 → J q = I q) ∧ (∀ j, j ≠ 6 → J 78 j = I 78 j)
  | 0, k, I, hc, h1, h2, h3 => by omega
  | n + 1, k, I, hc, h1, h2, h3 => by
    have hN8 := hcN
    unfold fn_Ref_store_66
    by_cases hk : k = p
    · subst hk
      rw [if_pos (nI_le (Nat.le_refl _) (by omega)), gr_t (q := 85) rfl, sI_t (N := 6) rfl rfl (show k < _ by omega), gi_t rfl, pI_t rfl, rz_1, fm_up_p _ _ _ (by omega), hc, nI_1]
      refine ⟨_, rfl, fm_up_s _ _ _ _, fun j => ?_, fun q h4 h5 => ?_, fun j hj => ?_⟩
      · rw [fm_up_p _ _ _ (by omega)]
        by_cases hj : j = k
        · subst hj
          rw [fm_up_s, if_neg (by omega), if_pos rfl]
        · rw [fm_up_k _ _ hj]
          by_cases h4 : j < k
          · rw [if_pos h4]
          · rw [if_neg h4, if_neg hj, if_neg (by omega)]
      · exact funext fun j => by rw [fm_up_p _ _ _ h4, fm_up_p _ _ _ h5]
      · rw [fm_up_k _ _ hj, fm_up_p _ _ _ (by omega)]
    · obtain ⟨k, rfl⟩ : ∃ k', k = k' + 1 := ⟨k - 1, by omega⟩
      rw [if_neg (nI_ge (show p < k + 1 by omega) (by omega)), gr_t (q := 85) rfl, gr_t (q := 85) rfl, nI_pred, ld_t (N := 6) rfl rfl (show k < _ by omega), sI_t (N := 6) rfl rfl (show k + 1 < _ by omega), pk_m1]
      obtain ⟨J, e, h4, h5, h6, h7⟩ := ref_ins_lp (p := p) (x := x) hcN n k (fm_up I 85 (k + 1) (I 85 k)) (by rw [fm_up_p _ _ _ (by omega)]; exact hc) (by omega) (by omega) (by omega)
      refine ⟨J, e, h4, fun j => ?_, fun q h8 h9 => ?_, fun j hj => ?_⟩
      · rw [h5 j]
        by_cases c1 : j < p
        · rw [if_pos c1, if_pos c1, fm_up_k _ _ (by omega)]
        · rw [if_neg c1, if_neg c1]
          by_cases c2 : j = p
          · rw [if_pos c2, if_pos c2]
          · rw [if_neg c2, if_neg c2]
            by_cases c3 : j ≤ k
            · rw [if_pos c3, if_pos (by omega), fm_up_k _ _ (by omega)]
            · rw [if_neg c3]
              by_cases c4 : j = k + 1
              · subst c4
                rw [fm_up_s, if_pos (Nat.le_refl _)]
                rfl
              · rw [fm_up_k _ _ c4, if_neg (by omega)]
      · rw [h6 q h8 h9]
        exact funext fun j => fm_up_p _ _ _ h9
      · rw [h7 j hj]
        exact fm_up_p _ _ _ (by omega)
theorem row_insert {b N c p : Nat} {x : Int32} {I : fm_I} (hb : isRow b N) (hc : I b 1 = nI c) (hcN : c < N) (hp : p ≤ c) : ∃ J, fn_Row_insert b (nI p) x I = ri 1 J ∧ J b 1 = nI (c + 1) ∧ (∀ j, J (b + 1) j = if j < p then I (b + 1) j else if j = p then x else if j ≤ c then I (b + 1) (j - 1) else I (b + 1) j) ∧ (∀ q, q ≠ b → q ≠ b + 1 → J q = I q) := by
  have hN := hb.2.2.2.2
  unfold fn_Row_insert
  rw [gi_t hb.2.1, gr_t hb.2.2.1, ln_t hb.2.2.2.1, hc, if_neg (nI_ge hcN (by omega)), if_neg (nI_pos (by omega)), gi_t hb.2.1, hc, if_pos (nI_le hp (by omega)), gi_t hb.2.1, hc]
  obtain ⟨J, e, h1, h2, h3, -⟩ := row_ins_lp hb hcN FU c I hc hp (Nat.le_refl _) (by have := fu_ge; omega)
  exact ⟨J, e, h1, h2, h3⟩
theorem row_full {b N c : Nat} {x y : Int32} {I : fm_I} (hb : isRow b N) (hc : I b 1 = nI c) (hcN : N ≤ c) (hc31 : c ≤ 8) : fn_Row_insert b y x I = ri 0 I := by
  unfold fn_Row_insert
  rw [gi_t hb.2.1, gr_t hb.2.2.1, ln_t hb.2.2.2.1, hc, if_pos (nI_le hcN (by omega)), rz_0]
theorem row_append {b N c : Nat} {x : Int32} {I : fm_I} (hb : isRow b N) (hc : I b 1 = nI c) (hcN : c < N) : ∃ J, fn_Row_append b x I = ri 1 J ∧ J b 1 = nI (c + 1) ∧ (∀ j, J (b + 1) j = if j = c then x else I (b + 1) j) ∧ (∀ q, q ≠ b → q ≠ b + 1 → J q = I q) := by
  obtain ⟨J, e, h1, h2, h3⟩ := row_insert (x := x) hb hc hcN (Nat.le_refl c)
  unfold fn_Row_append
  rw [gi_t hb.2.1, hc, vi_t hb.1 e, rz_1]
  refine ⟨J, rfl, h1, fun j => ?_, h3⟩
  rw [h2 j]
  by_cases c1 : j < c
  · rw [if_pos c1, if_neg (by omega)]
  · rw [if_neg c1]
    by_cases c2 : j = c
    · rw [if_pos c2, if_pos c2]
    · rw [if_neg c2, if_neg c2, if_neg (by omega)]
theorem row_appendFull {b N c : Nat} {x : Int32} {I : fm_I} (hb : isRow b N) (hc : I b 1 = nI c) (hcN : N ≤ c) (hc31 : c ≤ 8) : fn_Row_append b x I = ri 0 I := by
  unfold fn_Row_append
  rw [gi_t hb.2.1, vi_t hb.1 (row_full hb hc hcN hc31), rz_0]
theorem row_holds {b N c : Nat} {x : Int32} {I : fm_I} (hb : isRow b N) (hc : I b 1 = nI c) (hcN : c ≤ N) : fn_Row_holds b x I = ri (zb (rFind (I (b + 1)) x c ≠ none)) I := by
  have hN := hb.2.2.2.2
  unfold fn_Row_holds
  rw [vi_t hb.1 (row_placeOf hb hc hcN)]
  by_cases h : rFind (I (b + 1)) x c = none
  · rw [if_pos ((ro_neg (rFind_b (by omega))).mpr h), rz_0, zb_f (fun q => q h)]
  · rw [if_neg (fun q => h ((ro_neg (rFind_b (by omega))).mp q)), rz_1, zb_t h]
theorem row_takeOut {b N c p : Nat} {x : Int32} {I : fm_I} (hb : isRow b N) (hc : I b 1 = nI c) (hcN : c ≤ N) (hf : rFind (I (b + 1)) x c = some p) : ∃ J, fn_Row_takeOut b x I = ri 1 J ∧ J b 1 = nI (c - 1) ∧ (∀ j, j < c - 1 → J (b + 1) j = if j < p then I (b + 1) j else I (b + 1) (j + 1)) ∧ (∀ q, q ≠ b → q ≠ b + 1 → J q = I q) := by
  have hN := hb.2.2.2.2
  obtain ⟨hp, -, -⟩ := rFind_some hf
  obtain ⟨c, rfl⟩ : ∃ c', c = c' + 1 := ⟨c - 1, by omega⟩
  unfold fn_Row_takeOut
  rw [vi_t hb.1 (row_placeOf hb hc hcN), hf, if_neg (fun q => by have := (ro_neg (o := some p) (fun r e => by cases e; omega)).mp q; cases this), gi_t hb.2.1, pI_t hb.2.1, hc, nI_pred]
  obtain ⟨J, e, h1, h2⟩ := row_shift_lp (x := x) hb (show c < N by omega) FU p (fm_up I b 1 (nI c)) (fm_up_s _ _ _ _) (by omega) (by have := fu_ge; omega)
  refine ⟨J, e, ?_, fun j hj => ?_, fun q h3 h4 => ?_⟩
  · rw [h2 b (by omega)]
    exact fm_up_s _ _ _ _
  · rw [h1 j, fm_up_p _ _ _ (by omega), fm_up_p _ _ _ (by omega)]
    by_cases c1 : j < p
    · rw [if_pos c1, if_neg (by omega)]
    · rw [if_neg c1, if_pos (by omega)]
  · rw [h2 q h4]
    exact funext fun j => fm_up_p _ _ _ h3
theorem row_takeNot {b N c : Nat} {x : Int32} {I : fm_I} (hb : isRow b N) (hc : I b 1 = nI c) (hcN : c ≤ N) (hf : rFind (I (b + 1)) x c = none) : fn_Row_takeOut b x I = ri 0 I := by
  unfold fn_Row_takeOut
  rw [vi_t hb.1 (row_placeOf hb hc hcN), hf, if_pos (show ro none = -1 from rfl), rz_0]
theorem row_at {b N c : Nat} {x : Int32} {I : fm_I} (hb : isRow b N) (hc : I b 1 = nI c) (hcN : c ≤ N) : fn_Row_at b x I = ri (if 0 ≤ x ∧ x.toInt < c then I (b + 1) x.toNatClampNeg else -1) I := by
  have hN := hb.2.2.2.2
  unfold fn_Row_at
  rcases pk_ix x (n := c) (by omega) with h | h | ⟨j, hj, rfl⟩
  · rw [if_pos h, if_neg (fun q => Int32.not_le.mpr h q.1)]
  · rw [if_neg (fun q => by
      have h1 := Int32.lt_iff_toInt_lt.mp q
      have h2 := Int32.le_iff_toInt_le.mp h
      rw [nI_toInt (by omega)] at h2
      have h3 : (0 : Int32).toInt = 0 := by decide
      omega), gi_t hb.2.1, hc, if_pos h, if_neg (fun q => by
      have h2 := Int32.le_iff_toInt_le.mp h
      rw [nI_toInt (by omega)] at h2
      omega)]
  · rw [if_neg (nI_pos (by omega)), gi_t hb.2.1, hc, if_neg (nI_ge hj (by omega)), gr_t hb.2.2.1, ld_t hb.2.2.2.1 rfl (by omega), if_pos ⟨nI_pos' (by omega), by rw [nI_toInt (by omega)]; omega⟩, nI_clamp (by omega)]
