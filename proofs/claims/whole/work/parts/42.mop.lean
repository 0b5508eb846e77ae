def MX (A0 B0 A B : fm_I) (s : Int32) : Prop := ∃ T f t x a r p o w tp L, MA A0 A T f t x a r p s o w tp L ∧ MB B0 B T f t x a r p s o w tp L ∧ RG T f t a r p w tp
def MStep (A0 B0 A' B : fm_I) : Prop := (∃ z, (z = 2 ∨ z = 3) ∧ fn_Ref_hindrance 78 B = ri z B ∧ MX A0 B0 A' (fm_up B 78 26 z) z) ∨ (fn_Ref_hindrance 78 B = ri 0 B ∧ ∃ pn v s' B', B 78 25 = nI pn ∧ pn < 200 ∧ B 91 pn = nI v ∧ v < 65536 ∧ (two (v / 4096) → fn_Ref_two 78 (nI (v / 4096)) (nI (v % 4096)) B = rv B') ∧ (¬ two (v / 4096) → fn_Ref_single 78 (nI (v / 4096)) (nI (v % 4096)) B = rv B') ∧ (s' = 0 ∨ s' = 1) ∧ MX A0 B0 A' B' s')
theorem m_step {A0 B0 A B : fm_I} (h : MX A0 B0 A B 0) : ∃ A', fn_Mac_doStep 74 A = rv A' ∧ MStep A0 B0 A' B := by
  obtain ⟨T, f, t, x, a, r, pp, o, w, tp, L, hA, hB, hR⟩ := h
  obtain ⟨hT, hf, htf, ⟨ma, hma, rfl⟩, hr, ⟨p, hp6, rfl⟩, hw, htp⟩ := id hR
  by_cases hp : p < T
  rotate_left
  · exact ⟨_, c_stepx hA hT hp hp6, Or.inl ⟨3, Or.inr rfl, r_hx hB hT hp hp6, T, f, t, x, nI ma, r, nI p, o, w, tp, L, ma_8 hA, mb_26 hB, hR⟩⟩
  obtain ⟨v, hv6, hv⟩ := hw p hp
  have hst := c_step hA hT hp hv hv6
  have hm : ∃ m : Nat, p + 1 < T → w (p + 1) = nI m ∧ m < 65536 := by
    by_cases e : p + 1 < T
    · obtain ⟨m, h1, h2⟩ := hw (p + 1) e
      exact ⟨m, fun _ => ⟨h2, h1⟩⟩
    · exact ⟨0, fun q => absurd q e⟩
  obtain ⟨m, hm⟩ := hm
  obtain ⟨z, hz, hze⟩ := r_h hB hT hp hv hv6 rfl hma hm
  have hB25 : B 78 25 = nI p := hB.1.2.2.2.2.1
  have hB91 : B 91 p = nI v := (hB.2.1 p hp).trans hv
  have ho : v / 4096 < 16 := by omega
  have hn : v % 4096 < 4096 := by omega
  -- from what both sides do to the step
  have fin : ∀ (A' B' : fm_I) (t' : Nat) (a' r' p' s' o' : Int32) (w' L' : Nat → Int32), fn_Mac_doStep 74 A = rv A' → z = 0 → (two (v / 4096) → fn_Ref_two 78 (nI (v / 4096)) (nI (v % 4096)) B = rv B') → (¬ two (v / 4096) → fn_Ref_single 78 (nI (v / 4096)) (nI (v % 4096)) B = rv B') → (s' = 0 ∨ s' = 1) → MA A0 A' T f t' x a' r' p' s' o' w' tp L' → MB B0 B' T f t' x a' r' p' s' o' w' tp L' → t' ≤ f → wd a' → wd r' → wd p' → (∀ j, j < T → wd (w' j)) → ∃ A', fn_Mac_doStep 74 A = rv A' ∧ MStep A0 B0 A' B := by
    intro A' B' t' a' r' p' s' o' w' L' e1 e2 e3 e4 e5 e6 e7 e8 e9 e10 e11 e12
    subst e2
    exact ⟨A', e1, Or.inr ⟨hz, p, v, s', B', hB25, by omega, hB91, hv6, e3, e4, e5, T, f, t', x, a', r', p', o', w', tp, L', e6, e7, hT, hf, e8, e9, e10, e11, e12, htp⟩⟩
  have hin : ∀ z', (z' = 2 ∨ z' = 3) → z = z' → fn_Mac_doStep 74 A = rv (fm_up A 74 8 z') → ∃ A', fn_Mac_doStep 74 A = rv A' ∧ MStep A0 B0 A' B := by
    intro z' e1 e2 e3
    subst e2
    exact ⟨_, e3, Or.inl ⟨z, e1, hz, T, f, t, x, nI ma, r, nI p, o, w, tp, L, ma_8 hA, mb_26 hB, hR⟩⟩
  by_cases e13 : 13 < v / 4096
  · exact hin 2 (Or.inl rfl) (by rw [hze, if_pos e13]) (by rw [hst, if_pos e13])
  rw [if_neg e13] at hst hze
  by_cases e12 : v / 4096 = 12
  · have n2 : ¬ two (v / 4096) := by omega
    rw [if_neg n2, e12] at hst
    rw [if_pos e12] at hze
    by_cases em : ma < T
    · obtain ⟨A', a1, a2⟩ := c_one12 hA hT hp hn rfl em
      obtain ⟨B', b1, b2⟩ := r_one12 hB hT hp hn rfl em
      rw [if_pos em] at hze
      exact fin A' B' _ _ _ _ _ _ _ _ (hst.trans (vv_id rfl a1)) hze (fun q => absurd q n2) (fun _ => by rw [e12]; exact b1) (Or.inl rfl) a2 b2 htf (hw ma em) hr (wd_n (by omega)) hw
    · obtain ⟨A', a1, a2⟩ := c_one12x hA hT hp hn rfl em hma
      rw [if_neg em] at hze
      subst hze
      exact ⟨A', hst.trans (vv_id rfl a1), Or.inl ⟨3, Or.inr rfl, hz, T, f, t, x, nI ma, r, nI p, o, w, tp, L, a2, mb_26 hB, hR⟩⟩
  rw [if_neg e12] at hze
  by_cases e2 : two (v / 4096)
  · rw [if_pos e2] at hst hze
    by_cases hp1 : p + 1 < T
    rotate_left
    · exact hin 3 (Or.inr rfl) (by rw [hze, if_neg (fun q => hp1 q.1)]) (hst.trans (vv_id rfl (c_twox1 hA hT hp hp1)))
    obtain ⟨hm1, hm6⟩ := hm hp1
    by_cases hb : blk (v / 4096) m T x
    · exact hin 3 (Or.inr rfl) (by rw [hze, if_neg (fun q => q.2 hb)]) (hst.trans (vv_id rfl (c_twox2 hA hT hp1 hm1 hm6 ho hb)))
    rw [if_pos ⟨hp1, hb⟩] at hze
    rcases (show v / 4096 = 1 ∨ v / 4096 = 2 ∨ v / 4096 = 3 ∨ v / 4096 = 4 ∨ v / 4096 = 5 ∨ v / 4096 = 6 ∨ v / 4096 = 8 by omega) with k | k | k | k | k | k | k
    · rw [k] at hst hb
      obtain ⟨A', a1, a2⟩ := c_two1 hA hT hp1 hm1 hm6 hn hb
      obtain ⟨B', b1, b2⟩ := r_two1 hB hT hp1 hm1 hm6 hn
      exact fin A' B' _ _ _ _ _ _ _ _ (hst.trans (vv_id rfl a1)) hze (fun _ => by rw [k]; exact b1) (fun q => absurd e2 q) (Or.inl rfl) a2 b2 htf (wd_n hm6) hr (wd_n (by omega)) hw
    · rw [k] at hst hb
      have hmT : m < T := Classical.byContradiction fun q => hb (Or.inl ⟨by decide, by decide, q⟩)
      obtain ⟨A', a1, a2⟩ := c_two2 hA hT hp1 hm1 hm6 hn hb hmT
      obtain ⟨B', b1, b2⟩ := r_two2 hB hT hp1 hm1 hm6 hn hmT
      exact fin A' B' _ _ _ _ _ _ _ _ (hst.trans (vv_id rfl a1)) hze (fun _ => by rw [k]; exact b1) (fun q => absurd e2 q) (Or.inl rfl) a2 b2 htf (hw m hmT) hr (wd_n (by omega)) hw
    · rw [k] at hst hb
      have hmT : m < T := Classical.byContradiction fun q => hb (Or.inl ⟨by decide, by decide, q⟩)
      obtain ⟨A', a1, a2⟩ := c_two3 hA hT hp1 hm1 hm6 hn hb hmT
      obtain ⟨B', b1, b2⟩ := r_two3 hB hT hp1 hm1 hm6 hn hmT
      exact fin A' B' _ _ _ _ _ _ _ _ (hst.trans (vv_id rfl a1)) hze (fun _ => by rw [k]; exact b1) (fun q => absurd e2 q) (Or.inl rfl) a2 b2 htf (wd_n hma) hr (wd_n (by omega)) (wd_upd hw (wd_n hma))
    · rw [k] at hst hb
      have hmT : m < T := Classical.byContradiction fun q => hb (Or.inl ⟨by decide, by decide, q⟩)
      obtain ⟨A', a1, a2⟩ := c_two4 hA hT hp1 hm1 hm6 hn hb hmT
      obtain ⟨B', b1, b2⟩ := r_two4 hB hT hp1 hm1 hm6 hn hmT
      exact fin A' B' _ _ _ _ _ _ _ _ (hst.trans (vv_id rfl a1)) hze (fun _ => by rw [k]; exact b1) (fun q => absurd e2 q) (Or.inl rfl) a2 b2 htf (n_wd _) hr (wd_n (by omega)) hw
    · rw [k] at hst hb
      have hmT : m < T := Classical.byContradiction fun q => hb (Or.inl ⟨by decide, by decide, q⟩)
      obtain ⟨A', a1, a2⟩ := c_two5 hA hT hp1 hm1 hm6 hn hb hmT
      obtain ⟨B', b1, b2⟩ := r_two5 hB hT hp1 hm1 hm6 hn hmT
      exact fin A' B' _ _ _ _ _ _ _ _ (hst.trans (vv_id rfl a1)) hze (fun _ => by rw [k]; exact b1) (fun q => absurd e2 q) (Or.inl rfl) a2 b2 htf (n_wd _) hr (wd_n (by omega)) hw
    · rw [k] at hst hb
      obtain ⟨A', a1, a2⟩ := c_two6 hA hT hp1 hm1 hm6 hn hb
      obtain ⟨B', b1, b2⟩ := r_two6 hB hT hp1 hm1 hm6 hn
      exact fin A' B' _ _ _ _ _ _ _ _ (hst.trans (vv_id rfl a1)) hze (fun _ => by rw [k]; exact b1) (fun q => absurd e2 q) (Or.inl rfl) a2 b2 htf (wd_n hma) (wd_n (by omega)) (wd_n hm6) hw
    · rw [k] at hst hb
      obtain ⟨A', a1, a2⟩ := c_two8 hA hT hp1 hm1 hm6 hn hb
      obtain ⟨B', b1, b2⟩ := r_two8 hB hT hp1 hm1 hm6 hn
      exact fin A' B' _ _ _ _ _ _ _ _ (hst.trans (vv_id rfl a1)) hze (fun _ => by rw [k]; exact b1) (fun q => absurd e2 q) (Or.inl rfl) a2 b2 htf (wd_n hma) hr (by split; exact wd_n hm6; exact wd_n (by omega)) hw
  · rw [if_neg e2] at hst hze
    rcases (show v / 4096 = 0 ∨ v / 4096 = 7 ∨ v / 4096 = 9 ∨ v / 4096 = 10 ∨ v / 4096 = 11 ∨ v / 4096 = 13 by omega) with k | k | k | k | k | k
    · rw [k] at hst
      obtain ⟨A', a1, a2⟩ := c_one0 hA hT hp hn
      obtain ⟨B', b1, b2⟩ := r_one0 hB hT hp hn
      exact fin A' B' _ _ _ _ _ _ _ _ (hst.trans (vv_id rfl a1)) hze (fun q => absurd q e2) (fun _ => by rw [k]; exact b1) (Or.inr rfl) a2 b2 htf (wd_n hma) hr (wd_n hp6) hw
    · rw [k] at hst
      obtain ⟨A', a1, a2⟩ := c_one7 hA hT hp hn
      obtain ⟨B', b1, b2⟩ := r_one7 hB hT hp hn
      exact fin A' B' _ _ _ _ _ _ _ _ (hst.trans (vv_id rfl a1)) hze (fun q => absurd q e2) (fun _ => by rw [k]; exact b1) (Or.inl rfl) a2 b2 htf (wd_n hma) hr hr hw
    · rw [k] at hst
      obtain ⟨A', a1, a2⟩ := c_one9 hA hT hp hn
      obtain ⟨B', b1, b2⟩ := r_one9 hB hT hp hn
      exact fin A' B' _ _ _ _ _ _ _ _ (hst.trans (vv_id rfl a1)) hze (fun q => absurd q e2) (fun _ => by rw [k]; exact b1) (Or.inl rfl) a2 b2 htf (wd_n hma) hr (by split; exact n_wd _; exact wd_n (by omega)) hw
    · rw [k] at hst
      obtain ⟨A', a1, a2⟩ := c_one10 hA hT hp hn
      obtain ⟨B', b1, b2⟩ := r_one10 hB hT hp hn
      exact fin A' B' _ _ _ _ _ _ _ _ (hst.trans (vv_id rfl a1)) hze (fun q => absurd q e2) (fun _ => by rw [k]; exact b1) (Or.inl rfl) a2 b2 htf (wd_n hma) hr (wd_n (by omega)) hw
    · rw [k] at hst
      obtain ⟨A', a1, a2⟩ := c_one11 hA hT hp hn hf htf
      obtain ⟨B', b1, b2⟩ := r_one11 hB hT hp hn hf htf
      exact fin A' B' _ _ _ _ _ _ _ _ (hst.trans (vv_id rfl a1)) hze (fun q => absurd q e2) (fun _ => by rw [k]; exact b1) (Or.inl rfl) a2 b2 (by split <;> omega) (by split; exact htp t (by assumption); exact wd_0) hr (wd_n (by omega)) hw
    · rw [k] at hst
      obtain ⟨A', a1, a2⟩ := c_one13 hA hT hp hn rfl hma
      obtain ⟨B', b1, b2⟩ := r_one13 hB hT hp hn rfl hma
      exact fin A' B' _ _ _ _ _ _ _ _ (hst.trans (vv_id rfl a1)) hze (fun q => absurd q e2) (fun _ => by rw [k]; exact b1) (Or.inl rfl) a2 b2 htf (wd_n (Nat.lt_of_le_of_lt (Nat.div_le_self _ _) hma)) hr (wd_n (by omega)) hw
theorem m_run {A0 B0 : fm_I} {N : Nat} (hN : N ≤ 1000) : ∀ (n n' k : Nat) (A B : fm_I) (s : Int32), k ≤ N → N < n + k → N < n' + k → MX A0 B0 A B s → ∃ v A' B' s', fn_Mac_doSteps_2 n 74 (nI N) (nI k) A = ri v A' ∧ fn_Ref_run_22 n' 78 (nI N) (nI k) B = ri v B' ∧ MX A0 B0 A' B' s'
  | 0, _, k, _, _, _, h1, h2, _, _ => by omega
  | n + 1, 0, k, _, _, _, h1, _, h3, _ => by omega
  | n + 1, n' + 1, k, A, B, s, h1, h2, h3, hX => by
    unfold fn_Mac_doSteps_2 fn_Ref_run_22
    by_cases hk : k = N
    · subst hk
      rw [if_pos (nI_le (Nat.le_refl _) (by omega)), if_pos (nI_le (Nat.le_refl _) (by omega))]
      exact ⟨_, A, B, s, rfl, rfl, hX⟩
    · rw [if_neg (nI_ge (show k < N by omega) (by omega)), if_neg (nI_ge (show k < N by omega) (by omega)), g74_8, g78_26]
      have hsA : A 74 8 = s := by obtain ⟨_, _, _, _, _, _, _, _, _, _, _, hA, -⟩ := hX; exact hA.1.2.2.2.2.2.1
      have hsB : B 78 26 = s := by obtain ⟨_, _, _, _, _, _, _, _, _, _, _, -, hB, -⟩ := hX; exact hB.1.2.2.2.2.2.1
      rw [hsA, hsB]
      by_cases h0 : s = 0
      · subst h0
        rw [if_pos rfl, if_pos rfl]
        obtain ⟨A', a1, ⟨z, hz, hh, hX'⟩ | ⟨hh, pn, v, s', B', b1, b2, b3, b4, b5, b6, b7, hX'⟩⟩ := m_step hX
        · have hzA : A' 74 8 = z := by obtain ⟨_, _, _, _, _, _, _, _, _, _, _, hA, -⟩ := hX'; exact hA.1.2.2.2.2.2.1
          rw [vv_t rfl a1, g74_8, hzA, g74_8, hzA, vi_t rfl hh, p78_26]
          rcases hz with rfl | rfl
          · rw [if_pos rfl, if_neg (by decide)]
            exact ⟨_, A', _, _, rfl, rfl, hX'⟩
          · rw [if_neg (by decide), if_pos rfl, if_neg (by decide)]
            exact ⟨_, A', _, _, rfl, rfl, hX'⟩
        · have hzA : A' 74 8 = s' := by obtain ⟨_, _, _, _, _, _, _, _, _, _, _, hA, -⟩ := hX'; exact hA.1.2.2.2.2.2.1
          have hc : fn_Mac_doSteps_2 n 74 (nI N) (nI k + 1) A' = fn_Mac_doSteps_2 n 74 (nI N) (nI (k + 1)) A' := by rw [nI_1]
          rw [vv_t rfl a1, g74_8, hzA, g74_8, hzA, if_neg (by rcases b7 with rfl | rfl <;> decide), if_neg (by rcases b7 with rfl | rfl <;> decide), vi_t rfl hh, if_pos rfl, r78_22, g78_25, b1, ld_t (N := 200) rfl rfl b2, b3, bn_t, n_shr b4, n_and b4, hc]
          have hrec := m_run (A0 := A0) (B0 := B0) hN n n' (k + 1) A' B' s' (by omega) (by omega) (by omega) hX'
          have ho : v / 4096 < 16 := by omega
          have go81 : ¬ (1 ≤ v / 4096 ∧ v / 4096 ≤ 6) → fn_Ref_run_81 (fun a0 a1 a2 I => fn_Ref_run_22 n' a0 a1 a2 I) 78 (nI N) (nI k) (nI v) (nI (v / 4096)) B = fn_Ref_run_22 n' 78 (nI N) (nI (k + 1)) B' := fun hq => by
            unfold fn_Ref_run_81
            rw [n_and b4]
            by_cases e8 : v / 4096 = 8
            · rw [if_pos (show nI (v / 4096) = 8 by rw [e8]; rfl), vv_t rfl (b5 (Or.inr e8)), nI_1]
            · rw [if_neg (show ¬ nI (v / 4096) = 8 from fun q => e8 ((nI_eq (b := 8) (by omega) (by decide)).mp q)), vv_t rfl (b6 (fun q => q.elim hq e8)), nI_1]
          by_cases e1 : v / 4096 < 1
          · rw [if_pos (show nI (v / 4096) < 1 from nI_lt (b := 1) e1 (by decide)), go81 (by omega)]
            exact hrec
          · rw [if_neg (show ¬ nI (v / 4096) < 1 from nI_nlt (b := 1) (by omega) (by omega))]
            by_cases e6 : v / 4096 ≤ 6
            · rw [if_pos (show nI (v / 4096) ≤ 6 from nI_le (b := 6) e6 (by decide)), vv_t rfl (b5 (Or.inl ⟨by omega, e6⟩)), nI_1]
              exact hrec
            · rw [if_neg (show ¬ nI (v / 4096) ≤ 6 from nI_ge (a := 6) (by omega) (by omega)), go81 (by omega)]
              exact hrec
      · rw [if_neg h0, if_neg h0]
        exact ⟨_, A, B, s, rfl, rfl, hX⟩
