-- image and machine: the promises that read them, start, feed and run, side by side
def MI (A B : fm_I) : Prop := (∀ j, j < 4 → B 92 j = A 77 j) ∧ ((A 74 12 = 1 ∧ B 78 21 = 1 ∧ ∃ s, MX A B A B s) ∨ (A 74 12 = 0 ∧ B 78 21 = 0))
def IX (A B : fm_I) : Prop := ∃ T, T ≤ 200 ∧ A 63 6 = nI T ∧ B 78 18 = nI T ∧ (∀ j, j < 3 → B 89 j = A 72 j) ∧ (∀ j, j < 200 → B 88 j = A 71 j ∧ wd (A 71 j)) ∧ (∀ j, j < 16 → B 90 j = A 73 j) ∧ B 78 20 = A 63 7 ∧ wd (A 63 7) ∧ B 78 15 = A 63 9 ∧ (A 63 9 = 0 ∨ A 63 9 = 1)
def IR (A B : fm_I) : Prop := (A 63 8 = 0 ∧ B 78 14 = 0) ∨ (A 63 8 = 1 ∧ B 78 14 = 1 ∧ IX A B)
theorem MX.L {A0 B0 A B : fm_I} {s : Int32} (h : MX A0 B0 A B s) : ∀ j, j < 4 → B 92 j = A 77 j := by
  obtain ⟨T, f, t, x, a, r, p, o, w, tp, L, hA, hB, -⟩ := h
  intro j hj
  rw [hA.2.2.2.1 j hj, hB.2.2.2.1 j hj]
theorem MX.re {A0 B0 A B : fm_I} {s : Int32} (h : MX A0 B0 A B s) : MX A B A B s := by
  obtain ⟨T, f, t, x, a, r, p, o, w, tp, L, ⟨a1, a2, a3, a4, -, -⟩, ⟨b1, b2, b3, b4, -, -⟩, hR⟩ := h
  exact ⟨T, f, t, x, a, r, p, o, w, tp, L, ⟨a1, a2, a3, a4, fun _ _ _ _ => rfl, rfl⟩, ⟨b1, b2, b3, b4, fun _ _ _ _ => rfl, fun _ _ => rfl⟩, hR⟩
theorem MX.fA {A0 B0 A B : fm_I} {s : Int32} (h : MX A0 B0 A B s) : (∀ q, q ≠ 74 → q ≠ 75 → q ≠ 77 → A q = A0 q) ∧ A 74 12 = A0 74 12 := by
  obtain ⟨T, f, t, x, a, r, p, o, w, tp, L, ⟨a1, a2, a3, a4, a5, a6⟩, -, -⟩ := h
  exact ⟨a5, a6⟩
theorem MX.fB {A0 B0 A B : fm_I} {s : Int32} (h : MX A0 B0 A B s) : (∀ q, q ≠ 78 → q ≠ 91 → q ≠ 92 → B q = B0 q) ∧ (∀ j, j < 23 → B 78 j = B0 78 j) := by
  obtain ⟨T, f, t, x, a, r, p, o, w, tp, L, -, ⟨a1, a2, a3, a4, a5, a6⟩, -⟩ := h
  exact ⟨a5, a6⟩
theorem op_run {A B : fm_I} (h : MI A B) (n : Int32) : ∃ v A' B', fn_SL_run 0 n A = ri v A' ∧ fn_Ref_run 78 n B = ri v B' ∧ MI A' B' ∧ (∀ q, q ≠ 74 → q ≠ 75 → q ≠ 77 → A' q = A q) ∧ (∀ q, q ≠ 78 → q ≠ 91 → q ≠ 92 → B' q = B q) ∧ (∀ j, j < 23 → B' 78 j = B 78 j) := by
  have h0 := h
  obtain ⟨hL, ⟨a1, b1, s, hX⟩ | ⟨a1, b1⟩⟩ := h
  · have hth : fn_Mac_isThere 74 A = ri 1 A := by
      unfold fn_Mac_isThere
      rw [g74_12, a1, rz_1]
    have hno : ¬ (0 ≤ n ∧ n ≤ 1000) → ∃ v A' B', fn_SL_run 0 n A = ri v A' ∧ fn_Ref_run 78 n B = ri v B' ∧ MI A' B' ∧ (∀ q, q ≠ 74 → q ≠ 75 → q ≠ 77 → A' q = A q) ∧ (∀ q, q ≠ 78 → q ≠ 91 → q ≠ 92 → B' q = B q) ∧ (∀ j, j < 23 → B' 78 j = B 78 j) := fun hq => by
      refine ⟨-1, A, B, ?_, ?_, h0, fun _ _ _ _ => rfl, fun _ _ _ _ => rfl, fun _ _ => rfl⟩
      · unfold fn_SL_run
        rw [r0_5, vi_t rfl hth, if_neg (by decide), bi_t (px_within _ _ _ _), zb_f hq, if_pos (by decide)]
      · unfold fn_Ref_run
        rw [g78_21, b1, if_neg (by decide)]
        by_cases n1 : n < 0
        · rw [if_pos n1]
        · rw [if_neg n1, if_neg (fun q => hq ⟨Int32.not_lt.mp n1, q⟩)]
    by_cases hq : 0 ≤ n ∧ n ≤ 1000
    · obtain ⟨N, hN, rfl⟩ := nI_of2 (x := n) (M := 1000) (n := 1000) (by decide) (fun q => Int32.not_le.mpr q hq.1) hq.2
      obtain ⟨v, A', B', s', e1, e2, hX'⟩ := m_run (A0 := A) (B0 := B) hN FU FU 0 A B s (Nat.zero_le _) (by have := fu_ge; omega) (by have := fu_ge; omega) hX
      refine ⟨v, A', B', ?_, ?_, ⟨hX'.L, Or.inl ⟨hX'.fA.2.trans a1, (hX'.fB.2 21 (by decide)).trans b1, s', hX'.re⟩⟩, hX'.fA.1, hX'.fB.1, hX'.fB.2⟩
      · unfold fn_SL_run
        rw [r0_5, vi_t rfl hth, if_neg (by decide), bi_t (px_within _ _ _ _), zb_t hq, if_neg (by decide), r0_5, vi_t rfl (show fn_Mac_doSteps 74 (nI N) A = ri v A' from e1)]
      · unfold fn_Ref_run
        rw [g78_21, b1, if_neg (by decide), if_neg (Int32.not_lt.mpr hq.1), if_pos hq.2]
        exact e2
    · exact hno hq
  · refine ⟨-1, A, B, ?_, ?_, h0, fun _ _ _ _ => rfl, fun _ _ _ _ => rfl, fun _ _ => rfl⟩
    · have hth : fn_Mac_isThere 74 A = ri 0 A := by
        unfold fn_Mac_isThere
        rw [g74_12, a1, rz_0]
      unfold fn_SL_run
      rw [r0_5, vi_t rfl hth, if_pos (by decide)]
    · unfold fn_Ref_run
      rw [g78_21, b1, if_pos (by decide)]
theorem ref_isWord {I : fm_I} {x : Int32} : fn_Ref_isWord 78 x I = ri (zb (0 ≤ x ∧ x ≤ 65535)) I := by
  unfold fn_Ref_isWord
  by_cases h1 : x < 0
  · rw [if_pos h1, rz_0, zb_f (fun h => Int32.not_le.mpr h1 h.1)]
  · rw [if_neg h1]
    by_cases h2 : 65535 < x
    · rw [if_pos h2, rz_0, zb_f (fun h => Int32.not_le.mpr h2 h.2)]
    · rw [if_neg h2, rz_1, zb_t ⟨Int32.not_lt.mp h1, Int32.not_lt.mp h2⟩]
theorem ref_name {I : fm_I} {x : Int32} : fn_Ref_name 78 x I = ri (zb (0 ≤ x ∧ x ≤ 15)) I := by
  unfold fn_Ref_name
  by_cases h1 : x < 0
  · rw [if_pos h1, rz_0, zb_f (fun h => Int32.not_le.mpr h1 h.1)]
  · rw [if_neg h1]
    by_cases h2 : 15 < x
    · rw [if_pos h2, rz_0, zb_f (fun h => Int32.not_le.mpr h2 h.2)]
    · rw [if_neg h2, rz_1, zb_t ⟨Int32.not_lt.mp h1, Int32.not_lt.mp h2⟩]
theorem op_feed {A B : fm_I} (h : MI A B) (v : Int32) : ∃ z A' B', fn_SL_feed 0 v A = ri z A' ∧ fn_Ref_feed 78 v B = ri z B' ∧ MI A' B' ∧ (∀ q, q ≠ 74 → q ≠ 76 → A' q = A q) ∧ (∀ q, q ≠ 78 → q ≠ 93 → B' q = B q) ∧ (∀ j, j < 23 → B' 78 j = B 78 j) := by
  have h0 := h
  obtain ⟨hL, ⟨a1, b1, s, hX⟩ | ⟨a1, b1⟩⟩ := h
  · obtain ⟨T, f, t, x, a, r, p, o, w, tp, L, ⟨⟨h1, h2, h3, h4, h5, h6, h7, h8, h9⟩, h10, h11, h12, -, -⟩, ⟨⟨k1, k2, k3, k4, k5, k6, k7, k8, k9⟩, k10, k11, k12, -, -⟩, hT, hf, htf, ha, hr, hp, hw, htp⟩ := hX
    by_cases hv : 0 ≤ v ∧ v ≤ 65535
    · by_cases hf8 : f < 8
      · refine ⟨1, fm_up (fm_up A 76 f v) 74 9 (nI (f + 1)), fm_up (fm_up B 93 f v) 78 30 (nI (f + 1)), ?_, ?_, ⟨fun j hj => ?_, Or.inl ⟨?_, ?_, s, T, f + 1, t, x, a, r, p, o, w, upd tp f v, L, ⟨⟨?_, ?_, ?_, ?_, ?_, ?_, fm_up_s _ _ _ _, ?_, ?_⟩, fun j hj => ?_, fun j hj => ?_, fun j hj => ?_, fun _ _ _ _ => rfl, rfl⟩, ⟨⟨?_, ?_, ?_, ?_, ?_, ?_, fm_up_s _ _ _ _, ?_, ?_⟩, fun j hj => ?_, fun j hj => ?_, fun j hj => ?_, fun _ _ _ _ => rfl, fun _ _ => rfl⟩, hT, by omega, by omega, ha, hr, hp, hw, fun j hj => ?_⟩⟩, fun q q1 q2 => funext fun j => ?_, fun q q1 q2 => funext fun j => ?_, fun j hj => ?_⟩
        all_goals try (rw [fm_up_k _ _ (by decide), fm_up_p _ _ _ (by decide)]; assumption)
        · unfold fn_SL_feed fn_Mac_putOnTape
          rw [r0_5, g74_12, a1, if_neg (by decide), bi_t (px_isWord v A), zb_t hv, if_neg (by decide), g74_9, h7, if_pos (show nI f < 8 from nI_lt (b := 8) hf8 (by decide)), r74_1, g74_9, h7, sI_t (N := 8) rfl rfl hf8, g74_9, p74_9, fm_up_p _ _ _ (by decide), h7, nI_1, rz_1, vi_t rfl rfl, rz_1]
        · unfold fn_Ref_feed
          rw [g78_21, b1, if_neg (by decide), vi_t rfl ref_isWord, zb_t hv, if_neg (by decide), g78_30, k7, if_pos (show nI f < 8 from nI_lt (b := 8) hf8 (by decide)), r78_29, g78_30, k7, sI_t (N := 8) rfl rfl hf8, g78_30, p78_30, fm_up_p _ _ _ (by decide), k7, nI_1, rz_1]
        · rw [fm_up_p _ _ _ (by decide), fm_up_p _ _ _ (by decide), fm_up_p _ _ _ (by decide), fm_up_p _ _ _ (by decide)]; exact hL j hj
        · rw [fm_up_p _ _ _ (by decide), fm_up_p _ _ _ (by decide)]; exact h10 j hj
        · rw [fm_up_p _ _ _ (by decide)]
          by_cases e : j = f
          · subst e; rw [fm_up_s, pk_us]
          · rw [fm_up_k _ _ e, pk_un e]; exact h11 j (by omega)
        · rw [fm_up_p _ _ _ (by decide), fm_up_p _ _ _ (by decide)]; exact h12 j hj
        · rw [fm_up_p _ _ _ (by decide), fm_up_p _ _ _ (by decide)]; exact k2
        · rw [fm_up_p _ _ _ (by decide), fm_up_p _ _ _ (by decide)]; exact k10 j hj
        · rw [fm_up_p _ _ _ (by decide)]
          by_cases e : j = f
          · subst e; rw [fm_up_s, pk_us]
          · rw [fm_up_k _ _ e, pk_un e]; exact k11 j (by omega)
        · rw [fm_up_p _ _ _ (by decide), fm_up_p _ _ _ (by decide)]; exact k12 j hj
        · by_cases e : j = f
          · subst e
            rw [pk_us]
            obtain ⟨k, hk, ek⟩ := nI_of2 (x := v) (M := 65535) (n := 65535) (by decide) (fun q => Int32.not_le.mpr q hv.1) hv.2
            exact ⟨k, by omega, ek⟩
          · rw [pk_un e]; exact htp j (by omega)
        · rw [fm_up_p _ _ _ q1, fm_up_p _ _ _ q2]
        · rw [fm_up_p _ _ _ q1, fm_up_p _ _ _ q2]
        · rw [fm_up_k _ _ (by omega), fm_up_p _ _ _ (by decide)]
      · refine ⟨0, A, B, ?_, ?_, h0, fun _ _ _ => rfl, fun _ _ _ => rfl, fun _ _ => rfl⟩
        · unfold fn_SL_feed fn_Mac_putOnTape
          rw [r0_5, g74_12, a1, if_neg (by decide), bi_t (px_isWord v A), zb_t hv, if_neg (by decide), g74_9, h7, if_neg (show ¬ nI f < 8 from nI_nlt (b := 8) (by omega) (by omega)), rz_0, vi_t rfl rfl, rz_0]
        · unfold fn_Ref_feed
          rw [g78_21, b1, if_neg (by decide), vi_t rfl ref_isWord, zb_t hv, if_neg (by decide), g78_30, k7, if_neg (show ¬ nI f < 8 from nI_nlt (b := 8) (by omega) (by omega)), rz_0]
    · refine ⟨0, A, B, ?_, ?_, h0, fun _ _ _ => rfl, fun _ _ _ => rfl, fun _ _ => rfl⟩
      · unfold fn_SL_feed fn_Mac_putOnTape
        rw [r0_5, g74_12, a1, if_neg (by decide), bi_t (px_isWord v A), zb_f hv, if_pos (by decide), rz_0, vi_t rfl rfl, rz_0]
      · unfold fn_Ref_feed
        rw [g78_21, b1, if_neg (by decide), vi_t rfl ref_isWord, zb_f hv, if_pos (by decide), rz_0]
  · refine ⟨0, A, B, ?_, ?_, h0, fun _ _ _ => rfl, fun _ _ _ => rfl, fun _ _ => rfl⟩
    · unfold fn_SL_feed fn_Mac_putOnTape
      rw [r0_5, g74_12, a1, if_pos (by decide), rz_0, vi_t rfl rfl, rz_0]
    · unfold fn_Ref_feed
      rw [g78_21, b1, if_pos (by decide), rz_0]
