-- how the image is laid out: words of section s ahead of module k of the order, words ahead of section s
def sl_ (lw : Nat → Nat → Nat) (o : Nat → Nat) (s : Nat) : Nat → Nat
  | 0 => 0
  | k + 1 => sl_ lw o s k + lw (o k) s
def ss_ (lw : Nat → Nat → Nat) (o : Nat → Nat) (c : Nat) : Nat → Nat
  | 0 => 0
  | s + 1 => ss_ lw o c s + sl_ lw o s c
/-- what building an image leaves as it was -/
def FRI (A A' : fm_I) : Prop := ∀ q, q < 63 ∨ 73 < q → A' q = A q
theorem FRI.rf (A : fm_I) : FRI A A := fun _ _ => rfl
theorem FRI.tr {A A' A'' : fm_I} (h : FRI A A') (h' : FRI A' A'') : FRI A A'' := fun q hq => (h' q hq).trans (h q hq)
/-- the class's order and the lengths of its modules -/
def LA (A : fm_I) (o : Nat → Nat) (c : Nat) (lw : Nat → Nat → Nat) : Prop := A 57 1 = nI c ∧ c ≤ 6 ∧ (∀ k, k < c → o k < 6 ∧ A 58 k = nI (o k)) ∧ (∀ i j, i < c → j < c → o i = o j → i = j) ∧ (∀ m s, m < 6 → s < 3 → A (2 + 9 * m + 7) s = nI (lw m s) ∧ lw m s ≤ 320)
theorem LA.fr {A A' : fm_I} {o : Nat → Nat} {c : Nat} {lw : Nat → Nat → Nat} (h : LA A o c lw) (hf : FRI A A') : LA A' o c lw := by
  obtain ⟨h1, h2, h3, h4, h5⟩ := h
  refine ⟨by rw [hf 57 (by decide)]; exact h1, h2, fun k hk => ?_, h4, fun m s hm hs => ?_⟩
  · rw [hf 58 (by decide)]; exact h3 k hk
  · rw [hf (2 + 9 * m + 7) (by omega)]; exact h5 m s hm hs
theorem sh_64 : ∀ m, m < 6 → sh_a 3 64 m = some (65 + m) := by decide
theorem sh_6570 : ∀ m, m < 6 → sh_n 0 (65 + m) = some 3 := by decide
section LY
variable {o : Nat → Nat} {c : Nat} {lw : Nat → Nat → Nat}
theorem c_hmI {A : fm_I} (h : LA A o c lw) : fn_Inc_howMany 56 A = ri (nI c) A := by
  unfold fn_Inc_howMany fn_Row_howMany
  rw [r56_1, gi_t rfl, h.1, vi_t rfl rfl]
theorem c_maI {A : fm_I} (h : LA A o c lw) {k : Nat} (hk : k < c) : fn_Inc_moduleAt 56 (nI k) A = ri (nI (o k)) A := by
  obtain ⟨h1, h2, h3, -⟩ := h
  unfold fn_Inc_moduleAt
  rw [r56_1, vi_t rfl (row_at isRow_57 h1 h2), if_pos ⟨nI_pos' (by omega), by rw [nI_toInt (by omega)]; omega⟩, nI_clamp (by omega), (h3 k hk).2]
/-- sections laid out as far as (s, k) -/
def IS (A : fm_I) (o : Nat → Nat) (c : Nat) (lw : Nat → Nat → Nat) (s k : Nat) : Prop := A 63 6 = nI (ss_ lw o c s + sl_ lw o s k) ∧ (∀ s' k', s' < 3 → k' < c → (s' < s ∨ (s' = s ∧ k' < k)) → A (65 + o k') s' = nI (ss_ lw o c s' + sl_ lw o s' k')) ∧ (∀ s', s' < s → A 72 s' = nI (sl_ lw o s' c)) ∧ A 63 8 = 0
theorem c_lay19 (K : Nat → Int32 → fm_I → pR) {s : Nat} (hs : s < 3) : ∀ (n k : Nat) (A : fm_I), LA A o c lw → IS A o c lw s k → k ≤ c → c < n + k → ∃ A', fn_Img_layOutSections_19 K n 63 (nI s) (nI (ss_ lw o c s)) (nI k) A = K 63 (nI (s + 1)) A' ∧ FRI A A' ∧ IS A' o c lw (s + 1) 0
  | 0, k, A, _, _, h1, h2 => by omega
  | n + 1, k, A, h, hi, h1, h2 => by
    obtain ⟨i1, i2, i3, i4⟩ := id hi
    have hc6 := h.2.1
    unfold fn_Img_layOutSections_19
    rw [r63_1, vi_t rfl (c_hmI h)]
    by_cases hk : k = c
    · subst hk
      rw [if_pos (nI_le (Nat.le_refl _) (by omega)), r63_4, g63_6, i1, sI_t (N := 3) rfl rfl hs, nI_1, pk_sub (Nat.le_add_right _ _), Nat.add_sub_cancel_left]
      refine ⟨_, rfl, fun q hq => fm_up_q _ (by omega), ?_, fun s' k' q1 q2 q3 => ?_, fun s' q1 => ?_, by rw [fm_up_p _ _ _ (by decide)]; exact i4⟩
      · rw [fm_up_p _ _ _ (by decide), i1]; rfl
      · have h6 := (h.2.2.1 k' q2).1
        rw [fm_up_p _ _ _ (by omega)]
        exact i2 s' k' q1 q2 (by omega)
      · by_cases e : s' = s
        · subst e; rw [fm_up_s]
        · rw [fm_up_k _ _ e]; exact i3 s' (by omega)
    · have hk' : k < c := by omega
      have h6 := (h.2.2.1 k hk').1
      obtain ⟨hb, ha⟩ := isMod_m (o k) h6
      have hW : fn_Mod_wordsIn (2 + 9 * o k) (nI s) (fm_up A (65 + o k) s (nI (ss_ lw o c s + sl_ lw o s k))) = ri (nI (lw (o k) s)) (fm_up A (65 + o k) s (nI (ss_ lw o c s + sl_ lw o s k))) := by
        unfold fn_Mod_wordsIn
        rw [mr6 hb, ld_t (mn7 hb) rfl hs, fm_up_p _ _ _ (by omega), (h.2.2.2.2 (o k) s h6 hs).1]
      rw [if_neg (nI_ge hk' (by omega)), r63_1, vi_t rfl (c_maI h hk'), r63_2, la_t (sh_64 (o k) h6) rfl, g63_6, i1, sI_t (sh_6570 (o k) h6) rfl hs, g63_6, fm_up_p _ _ _ (by omega), i1, r63_0, la_t ha rfl, vi_t hb.1 hW, p63_6, nI_1, nI_add]
      have hfr : FRI A (fm_up (fm_up A (65 + o k) s (nI (ss_ lw o c s + sl_ lw o s k))) 63 6 (nI (ss_ lw o c s + sl_ lw o s k + lw (o k) s))) := fun q hq => by rw [fm_up_q _ (by omega), fm_up_q _ (by omega)]
      obtain ⟨A', e1, e2, e3⟩ := c_lay19 K hs n (k + 1) _ (h.fr hfr) (by
        refine ⟨?_, fun s' k' q1 q2 q3 => ?_, fun s' q1 => ?_, by rw [fm_up_k _ _ (by decide), fm_up_p _ _ _ (by omega)]; exact i4⟩
        · rw [fm_up_s, Nat.add_assoc]; rfl
        · have h6' := (h.2.2.1 k' q2).1
          rw [fm_up_p _ _ _ (by omega)]
          by_cases e : k' = k
          · subst e
            by_cases es : s' = s
            · subst es; rw [fm_up_s]
            · rw [fm_up_k _ _ es]; exact i2 s' k' q1 q2 (by omega)
          · have hne : o k' ≠ o k := fun q => e (h.2.2.2.1 k' k q2 hk' q)
            rw [fm_up_p _ _ _ (by omega)]
            exact i2 s' k' q1 q2 (by omega)
        · rw [fm_up_p _ _ _ (by decide), fm_up_p _ _ _ (by omega)]; exact i3 s' q1) (by omega) (by omega)
      exact ⟨A', e1, hfr.tr e2, e3⟩
theorem c_lay7 : ∀ (n s : Nat) (A : fm_I), LA A o c lw → IS A o c lw s 0 → s ≤ 3 → 3 < n + s → ∃ A', fn_Img_layOutSections_7 n 63 (nI s) A = rv A' ∧ FRI A A' ∧ IS A' o c lw 3 0
  | 0, s, A, _, _, h1, h2 => by omega
  | n + 1, s, A, h, hi, h1, h2 => by
    unfold fn_Img_layOutSections_7
    by_cases hs : s = 3
    · subst hs
      rw [if_pos (show (3 : Int32) ≤ nI 3 by decide)]
      exact ⟨A, rfl, FRI.rf A, hi⟩
    · rw [if_neg (show ¬ (3 : Int32) ≤ nI s from nI_ge (b := 3) (by omega) (by decide)), g63_6, hi.1]
      obtain ⟨A', e1, e2, e3⟩ := c_lay19 (fun a0 a1 I => fn_Img_layOutSections_7 n a0 a1 I) (show s < 3 by omega) FU 0 A h hi (Nat.zero_le _) (by have := h.2.1; have := fu_ge; omega)
      have e1' : fn_Img_layOutSections_19 (fun a0 a1 I => fn_Img_layOutSections_7 n a0 a1 I) FU 63 (nI s) (nI (ss_ lw o c s + sl_ lw o s 0)) 0 A = fn_Img_layOutSections_7 n 63 (nI (s + 1)) A' := e1
      rw [e1']
      obtain ⟨A2, f1, f2, f3⟩ := c_lay7 n (s + 1) A' (h.fr e2) e3 (by omega) (by omega)
      exact ⟨A2, f1, e2.tr f2, f3⟩
theorem c_sections {A : fm_I} (h : LA A o c lw) (h8 : A 63 8 = 0) : ∃ A', fn_Img_layOutSections 63 A = rv A' ∧ FRI A A' ∧ IS A' o c lw 3 0 := by
  unfold fn_Img_layOutSections
  rw [p63_6]
  have hfr : FRI A (fm_up A 63 6 0) := fun q hq => fm_up_q _ (by omega)
  obtain ⟨A', e1, e2, e3⟩ := c_lay7 FU 0 (fm_up A 63 6 0) (h.fr hfr) ⟨fm_up_s _ _ _ _, fun s' k' _ _ q => absurd q (by omega), fun s' q => absurd q (by omega), by rw [fm_up_k _ _ (by decide)]; exact h8⟩ (Nat.zero_le _) (by have := fu_ge; omega)
  exact ⟨A', e1, hfr.tr e2, e3⟩
-- COMMONs: words of those below the name a; lone: no export has the name
def cb_ (lo : Nat → Prop) [DecidablePred lo] (lgN : Nat → Nat) : Nat → Nat
  | 0 => 0
  | a + 1 => cb_ lo lgN a + (if lo a then lgN a else 0)
/-- COMMONs laid out as far as the name a, T words ahead of them -/
def IC_ (A : fm_I) (T t2 : Nat) (lo : Nat → Prop) [DecidablePred lo] (lgN : Nat → Nat) (a : Nat) : Prop := A 63 6 = nI (T + cb_ lo lgN a) ∧ A 72 2 = nI (t2 + cb_ lo lgN a) ∧ (∀ a', a' < a → A 73 a' = if lo a' then nI (T + cb_ lo lgN a') else -1) ∧ A 63 8 = 0
theorem c_com2 {T t2 : Nat} {lo : Nat → Prop} [DecidablePred lo] {lgN : Nat → Nat} {A0 : fm_I} (hl : ∀ a, a < 16 → ∀ A, FRI A0 A → (lo a → fn_Inc_isLoneCommon 56 (nI a) A = ri 1 A ∧ fn_Img_largestCommon 63 (nI a) A = ri (nI (lgN a)) A) ∧ (¬ lo a → fn_Inc_isLoneCommon 56 (nI a) A = ri 0 A)) : ∀ (n a : Nat) (A : fm_I), FRI A0 A → IC_ A T t2 lo lgN a → a ≤ 16 → 16 < n + a → ∃ A', fn_Img_layOutCommons_2 n 63 (nI a) A = rv A' ∧ FRI A A' ∧ IC_ A' T t2 lo lgN 16 ∧ (∀ q, q ≠ 63 → q ≠ 72 → q ≠ 73 → A' q = A q) ∧ A' 72 0 = A 72 0 ∧ A' 72 1 = A 72 1
  | 0, a, A, _, _, h1, h2 => by omega
  | n + 1, a, A, h, hi, h1, h2 => by
    obtain ⟨i1, i2, i3, i4⟩ := id hi
    unfold fn_Img_layOutCommons_2
    by_cases ha : a = 16
    · subst ha
      rw [if_pos (show (16 : Int32) ≤ nI 16 by decide)]
      exact ⟨A, rfl, FRI.rf A, hi, fun _ _ _ _ => rfl, rfl, rfl⟩
    · have ha' : a < 16 := by omega
      have hs : cb_ lo lgN (a + 1) = cb_ lo lgN a + (if lo a then lgN a else 0) := rfl
      rw [if_neg (show ¬ (16 : Int32) ≤ nI a from nI_ge (b := 16) ha' (by decide)), r63_5, sI_t (N := 16) rfl rfl ha', r63_1, nI_1]
      have hf1 : FRI A (fm_up A 73 a (-1)) := fun q hq => fm_up_q _ (by omega)
      by_cases hlo : lo a
      · obtain ⟨l1, l2⟩ := (hl a ha' _ (h.tr hf1)).1 hlo
        rw [vi_t rfl l1, if_neg (by decide), vi_t rfl l2, r63_5, g63_6, sI_t (N := 16) rfl rfl ha', fm_up_up, g63_6, fm_up_p _ _ _ (by decide), fm_up_p _ _ _ (by decide), i1, p63_6, r63_4, ld_t (N := 3) (j := 2) rfl (by decide) (by decide), fm_up_p _ _ _ (by decide), fm_up_p _ _ _ (by decide), i2, sI_t (N := 3) (j := 2) rfl (by decide) (by decide), nI_add, nI_add]
        have hf2 : FRI A (fm_up (fm_up (fm_up A 73 a (nI (T + cb_ lo lgN a))) 63 6 (nI (T + cb_ lo lgN a + lgN a))) 72 2 (nI (t2 + cb_ lo lgN a + lgN a))) := fun q hq => by rw [fm_up_q _ (by omega), fm_up_q _ (by omega), fm_up_q _ (by omega)]
        obtain ⟨A', e1, e2, e3, e4, e5, e6⟩ := c_com2 hl n (a + 1) _ (h.tr hf2) (by
          refine ⟨?_, ?_, fun a' q => ?_, by rw [fm_up_p _ _ _ (by decide), fm_up_k _ _ (by decide), fm_up_p _ _ _ (by decide)]; exact i4⟩
          · rw [fm_up_p _ _ _ (by decide), fm_up_s, hs, if_pos hlo, Nat.add_assoc]
          · rw [fm_up_s, hs, if_pos hlo, Nat.add_assoc]
          · rw [fm_up_p _ _ _ (by decide), fm_up_p _ _ _ (by decide)]
            by_cases e : a' = a
            · subst e; rw [fm_up_s, if_pos hlo]
            · rw [fm_up_k _ _ e]; exact i3 a' (by omega)) (by omega) (by omega)
        refine ⟨A', e1, hf2.tr e2, e3, fun q q1 q2 q3 => ?_, ?_, ?_⟩
        · rw [e4 q q1 q2 q3, fm_up_q _ q2, fm_up_q _ q1, fm_up_q _ q3]
        · rw [e5, fm_up_k _ _ (by decide), fm_up_p _ _ _ (by decide), fm_up_p _ _ _ (by decide)]
        · rw [e6, fm_up_k _ _ (by decide), fm_up_p _ _ _ (by decide), fm_up_p _ _ _ (by decide)]
      · rw [vi_t rfl ((hl a ha' _ (h.tr hf1)).2 hlo), if_pos (by decide)]
        obtain ⟨A', e1, e2, e3, e4, e5, e6⟩ := c_com2 hl n (a + 1) _ (h.tr hf1) (by
          refine ⟨?_, ?_, fun a' q => ?_, by rw [fm_up_p _ _ _ (by decide)]; exact i4⟩
          · rw [fm_up_p _ _ _ (by decide), hs, if_neg hlo, Nat.add_zero]; exact i1
          · rw [fm_up_p _ _ _ (by decide), hs, if_neg hlo, Nat.add_zero]; exact i2
          · by_cases e : a' = a
            · subst e; rw [fm_up_s, if_neg hlo]
            · rw [fm_up_k _ _ e]; exact i3 a' (by omega)) (by omega) (by omega)
        refine ⟨A', e1, hf1.tr e2, e3, fun q q1 q2 q3 => ?_, ?_, ?_⟩
        · rw [e4 q q1 q2 q3, fm_up_q _ q3]
        · rw [e5, fm_up_p _ _ _ (by decide)]
        · rw [e6, fm_up_p _ _ _ (by decide)]
end LY
