/-- condition c of a jump holds for the number a -/
abbrev cnd (c : Nat) (a : Int32) : Prop := c = 0 ∨ (c = 1 ∧ a = 0) ∨ (c = 2 ∧ 32768 ≤ a) ∨ (c = 3 ∧ a ≠ 0)
/-- operation op may not touch word m -/
abbrev blk (op m T : Nat) (x : Int32) : Prop := (2 ≤ op ∧ op ≤ 5 ∧ ¬ m < T) ∨ (op = 3 ∧ ¬ x ≤ nI m)
theorem bn_t {x : Int32} {kk : Int32 → pR} : bn x kk = kk x := rfl
section STP
variable {A0 A B0 B : fm_I} {T f t : Nat} {x a r s o : Int32} {w tp L : Nat → Int32} {p : Nat}
theorem c_in {pp : Int32} (hA : MA A0 A T f t x a r pp s o w tp L) (hT : T ≤ 200) (n : Nat) (hn : n < 2147483648) : fn_Mac_isInside 74 (nI n) A = ri (zb (n < T)) A := by
  unfold fn_Mac_isInside
  rw [if_neg (nI_pos hn), g74_3, hA.1.1]
  by_cases h : n < T
  · rw [if_neg (nI_ge h (by omega)), rz_1, zb_t h]
  · rw [if_pos (nI_le (by omega) hn), rz_0, zb_f h]
theorem r_in {pp : Int32} (hB : MB B0 B T f t x a r pp s o w tp L) (hT : T ≤ 200) (n : Nat) (hn : n < 2147483648) : fn_Ref_there 78 (nI n) B = ri (zb (n < T)) B := by
  unfold fn_Ref_there
  rw [if_neg (nI_pos hn), g78_18, hB.1.1]
  by_cases h : n < T
  · rw [if_neg (nI_ge h (by omega)), rz_1, zb_t h]
  · rw [if_pos (nI_le (by omega) hn), rz_0, zb_f h]
theorem cnd_4 {c : Nat} (h : c < 4) : c = 0 ∨ c = 1 ∨ c = 2 ∨ c = 3 := by omega
theorem c_cond {pp : Int32} (hA : MA A0 A T f t x a r pp s o w tp L) {n : Nat} (hn : n < 4096) : fn_Mac_conditionHolds 74 (nI n) A = ri (zb (cnd (n / 256 % 4) a)) A := by
  have h3 := hA.1.2.2.1
  unfold fn_Mac_conditionHolds
  rw [bn_t, n_c1 hn]
  have hc : n / 256 % 4 < 4 := by omega
  generalize n / 256 % 4 = c at hc
  rcases cnd_4 hc with rfl | rfl | rfl | rfl
  · rw [if_pos (by decide), rz_1, zb_t (Or.inl rfl)]
  · rw [if_neg (by decide), if_pos (by decide), g74_5, h3]
    by_cases e : a = 0
    · rw [if_pos e, rz_1, zb_t (Or.inr (Or.inl ⟨rfl, e⟩))]
    · rw [if_neg e, rz_0, zb_f (by rintro (h | ⟨-, h⟩ | ⟨h, -⟩ | ⟨h, -⟩) <;> first | exact absurd h (by decide) | exact e h)]
  · rw [if_neg (by decide), if_neg (by decide), if_pos (by decide), g74_5, h3]
    by_cases e : a < 32768
    · rw [if_pos e, rz_0, zb_f (by rintro (h | ⟨h, -⟩ | ⟨-, h⟩ | ⟨h, -⟩) <;> first | exact absurd h (by decide) | exact Int32.not_le.mpr e h)]
    · rw [if_neg e, rz_1, zb_t (Or.inr (Or.inr (Or.inl ⟨rfl, Int32.not_lt.mp e⟩)))]
  · rw [if_neg (by decide), if_neg (by decide), if_neg (by decide), g74_5, h3]
    by_cases e : a = 0
    · rw [if_pos e, rz_0, zb_f (by rintro (h | ⟨h, -⟩ | ⟨h, -⟩ | ⟨-, h⟩) <;> first | exact absurd h (by decide) | exact h e)]
    · rw [if_neg e, rz_1, zb_t (Or.inr (Or.inr (Or.inr ⟨rfl, e⟩)))]
theorem r_cond {pp : Int32} (hB : MB B0 B T f t x a r pp s o w tp L) {n : Nat} (hn : n < 4096) : fn_Ref_holds 78 ((nI n >>> ((8 : Int32) &&& 31)) &&& 3) B = ri (zb (cnd (n / 256 % 4) a)) B := by
  have h3 := hB.1.2.2.1
  rw [n_c2 hn]
  have hc : n / 256 % 4 < 4 := by omega
  generalize n / 256 % 4 = c at hc
  unfold fn_Ref_holds fn_Ref_holds_16
  rcases cnd_4 hc with rfl | rfl | rfl | rfl
  · rw [if_pos (by decide), rz_1, zb_t (Or.inl rfl)]
  · rw [if_neg (by decide), if_pos (by decide), g78_23, h3]
    by_cases e : a = 0
    · rw [if_pos e, rz_1, zb_t (Or.inr (Or.inl ⟨rfl, e⟩))]
    · rw [if_neg e, if_neg (by decide), if_neg (by decide), rz_0, zb_f (by rintro (h | ⟨-, h⟩ | ⟨h, -⟩ | ⟨h, -⟩) <;> first | exact absurd h (by decide) | exact e h)]
  · rw [if_neg (by decide), if_neg (by decide), if_pos (by decide), g78_23, h3]
    by_cases e : 32768 ≤ a
    · rw [if_pos e, rz_1, zb_t (Or.inr (Or.inr (Or.inl ⟨rfl, e⟩)))]
    · rw [if_neg e, if_neg (by decide), rz_0, zb_f (by rintro (h | ⟨h, -⟩ | ⟨-, h⟩ | ⟨h, -⟩) <;> first | exact absurd h (by decide) | exact e h)]
  · rw [if_neg (by decide), if_neg (by decide), if_neg (by decide), if_pos (by decide), g78_23, h3]
    by_cases e : a = 0
    · rw [if_pos e, rz_0, zb_f (by rintro (h | ⟨h, -⟩ | ⟨h, -⟩ | ⟨-, h⟩) <;> first | exact absurd h (by decide) | exact h e)]
    · rw [if_neg e, rz_1, zb_t (Or.inr (Or.inr (Or.inr ⟨rfl, e⟩)))]
theorem c_touch {pp : Int32} (hA : MA A0 A T f t x a r pp s o w tp L) (hT : T ≤ 200) {op m : Nat} (ho : op < 16) (hm : m < 65536) : fn_Mac_mayTouch 74 (nI op) (nI m) A = ri (zb (¬ blk op m T x)) A := by
  have h2 := hA.1.2.1
  have h15 : ∀ (_ : ¬ (op = 3 ∧ ¬ x ≤ nI m)), fn_Mac_mayTouch_15 74 (nI op) (nI m) A = ri (zb (¬ blk op m T x)) A := by
    intro hn
    unfold fn_Mac_mayTouch_15
    rw [bi_t (px_within _ _ _ _)]
    by_cases e : 2 ≤ op ∧ op ≤ 5
    · rw [zb_t (show (2 : Int32) ≤ nI op ∧ nI op ≤ 5 from ⟨nI_le (a := 2) e.1 (by omega), nI_le (b := 5) e.2 (by omega)⟩), if_neg (by decide), vi_t rfl (c_in hA hT m (by omega))]
      by_cases e2 : m < T
      · rw [zb_t e2, if_neg (by decide), rz_1, zb_t (by rintro (h | h); exact h.2.2 e2; exact hn h)]
      · rw [zb_f e2, if_pos (by decide), rz_0, zb_f (fun q => q (Or.inl ⟨e.1, e.2, e2⟩))]
    · rw [zb_f (fun q => e ⟨(nI_leI (a := 2) (by decide) (by omega)).mp q.1, (nI_leI (b := 5) (by omega) (by decide)).mp q.2⟩), if_pos (by decide), rz_1, zb_t (by rintro (h | h); exact e ⟨h.1, h.2.1⟩; exact hn h)]
  unfold fn_Mac_mayTouch
  by_cases e3 : op = 3
  · rw [if_pos (show nI op = 3 by rw [e3]; rfl), g74_4, h2]
    by_cases e4 : x ≤ nI m
    · rw [if_pos e4]; exact h15 (fun q => q.2 e4)
    · rw [if_neg e4, rz_0, zb_f (fun q => q (Or.inr ⟨e3, e4⟩))]
  · rw [if_neg (show ¬ nI op = 3 from fun q => e3 ((nI_eq (a := op) (b := 3) (by omega) (by decide)).mp q))]
    exact h15 (fun q => e3 q.1)
theorem c_two1 {m n : Nat} (hA : MA A0 A T f t x a r (nI p) s o w tp L) (hT : T ≤ 200) (hp1 : p + 1 < T) (hm : w (p + 1) = nI m) (hm6 : m < 65536) (hn : n < 4096) (hb : ¬ blk 1 m T x) : ∃ A', fn_Mac_doTwoWords 74 (nI 1) (nI n) A = rv A' ∧ MA A0 A' T f t x (nI m) r (nI (p + 2)) s o w tp L := by
  obtain ⟨⟨h1, h2, h3, h4, h5, h6, h7, h8, h9⟩, h10, h11, h12, h13, h14⟩ := id hA
  unfold fn_Mac_doTwoWords
  rw [g74_7, h5, nI_1, vi_t rfl (c_in hA hT (p + 1) (by omega)), zb_t hp1, if_neg (by decide), r74_0, g74_7, h5, nI_1, ld_t (N := 200) rfl rfl (show p + 1 < 200 by omega), h10 (p + 1) hp1, hm, vi_t rfl (c_touch hA hT (by decide) hm6), zb_t hb, if_neg (by decide), r74_0, g74_7, h5, nI_1, ld_t (N := 200) rfl rfl (show p + 1 < 200 by omega), h10 (p + 1) hp1, hm, g74_7, h5, show nI p + 2 = nI (p + 2) from nI_add p 2, bi_t (show fn_SL_toWord (nI (p + 2)) A = ri (nI (p + 2)) A by unfold fn_SL_toWord; rw [n_w (by omega)]), if_pos (by decide), p74_5, p74_7]
  exact ⟨_, rfl, ma_7 (ma_5 hA)⟩
theorem r_two1 {m n : Nat} (hB : MB B0 B T f t x a r (nI p) s o w tp L) (hT : T ≤ 200) (hp1 : p + 1 < T) (hm : w (p + 1) = nI m) (hm6 : m < 65536) (hn : n < 4096) : ∃ B', fn_Ref_two 78 (nI 1) (nI n) B = rv B' ∧ MB B0 B' T f t x (nI m) r (nI (p + 2)) s o w tp L := by
  obtain ⟨⟨h1, h2, h3, h4, h5, h6, h7, h8, h9⟩, h10, h11, h12, h13, h14⟩ := id hB
  unfold fn_Ref_two
  rw [r78_22, g78_25, h5, nI_1, ld_t (N := 200) rfl rfl (show p + 1 < 200 by omega), h10 (p + 1) hp1, hm, g78_25, h5, show nI p + 2 = nI (p + 2) from nI_add p 2, if_pos (by decide), p78_23, p78_25]
  exact ⟨_, rfl, mb_25 (mb_23 hB)⟩
theorem c_two2 {m n : Nat} (hA : MA A0 A T f t x a r (nI p) s o w tp L) (hT : T ≤ 200) (hp1 : p + 1 < T) (hm : w (p + 1) = nI m) (hm6 : m < 65536) (hn : n < 4096) (hb : ¬ blk 2 m T x) (hmT : m < T) : ∃ A', fn_Mac_doTwoWords 74 (nI 2) (nI n) A = rv A' ∧ MA A0 A' T f t x (w m) r (nI (p + 2)) s o w tp L := by
  obtain ⟨⟨h1, h2, h3, h4, h5, h6, h7, h8, h9⟩, h10, h11, h12, h13, h14⟩ := id hA
  unfold fn_Mac_doTwoWords
  rw [g74_7, h5, nI_1, vi_t rfl (c_in hA hT (p + 1) (by omega)), zb_t hp1, if_neg (by decide), r74_0, g74_7, h5, nI_1, ld_t (N := 200) rfl rfl (show p + 1 < 200 by omega), h10 (p + 1) hp1, hm, vi_t rfl (c_touch hA hT (by decide) hm6), zb_t hb, if_neg (by decide), r74_0, g74_7, h5, nI_1, ld_t (N := 200) rfl rfl (show p + 1 < 200 by omega), h10 (p + 1) hp1, hm, g74_7, h5, show nI p + 2 = nI (p + 2) from nI_add p 2, bi_t (show fn_SL_toWord (nI (p + 2)) A = ri (nI (p + 2)) A by unfold fn_SL_toWord; rw [n_w (by omega)]), if_neg (by decide), if_pos (by decide), r74_0, ld_t (N := 200) rfl rfl (show m < 200 by omega), h10 m hmT, p74_5, p74_7]
  exact ⟨_, rfl, ma_7 (ma_5 hA)⟩
theorem r_two2 {m n : Nat} (hB : MB B0 B T f t x a r (nI p) s o w tp L) (hT : T ≤ 200) (hp1 : p + 1 < T) (hm : w (p + 1) = nI m) (hm6 : m < 65536) (hn : n < 4096) (hmT : m < T) : ∃ B', fn_Ref_two 78 (nI 2) (nI n) B = rv B' ∧ MB B0 B' T f t x (w m) r (nI (p + 2)) s o w tp L := by
  obtain ⟨⟨h1, h2, h3, h4, h5, h6, h7, h8, h9⟩, h10, h11, h12, h13, h14⟩ := id hB
  unfold fn_Ref_two
  rw [r78_22, g78_25, h5, nI_1, ld_t (N := 200) rfl rfl (show p + 1 < 200 by omega), h10 (p + 1) hp1, hm, g78_25, h5, show nI p + 2 = nI (p + 2) from nI_add p 2, if_neg (by decide), if_pos (by decide), r78_22, ld_t (N := 200) rfl rfl (show m < 200 by omega), h10 m hmT, p78_23, p78_25]
  exact ⟨_, rfl, mb_25 (mb_23 hB)⟩
theorem c_two3 {m n : Nat} (hA : MA A0 A T f t x a r (nI p) s o w tp L) (hT : T ≤ 200) (hp1 : p + 1 < T) (hm : w (p + 1) = nI m) (hm6 : m < 65536) (hn : n < 4096) (hb : ¬ blk 3 m T x) (hmT : m < T) : ∃ A', fn_Mac_doTwoWords 74 (nI 3) (nI n) A = rv A' ∧ MA A0 A' T f t x a r (nI (p + 2)) s o (upd w m a) tp L := by
  obtain ⟨⟨h1, h2, h3, h4, h5, h6, h7, h8, h9⟩, h10, h11, h12, h13, h14⟩ := id hA
  unfold fn_Mac_doTwoWords
  rw [g74_7, h5, nI_1, vi_t rfl (c_in hA hT (p + 1) (by omega)), zb_t hp1, if_neg (by decide), r74_0, g74_7, h5, nI_1, ld_t (N := 200) rfl rfl (show p + 1 < 200 by omega), h10 (p + 1) hp1, hm, vi_t rfl (c_touch hA hT (by decide) hm6), zb_t hb, if_neg (by decide), r74_0, g74_7, h5, nI_1, ld_t (N := 200) rfl rfl (show p + 1 < 200 by omega), h10 (p + 1) hp1, hm, g74_7, h5, show nI p + 2 = nI (p + 2) from nI_add p 2, bi_t (show fn_SL_toWord (nI (p + 2)) A = ri (nI (p + 2)) A by unfold fn_SL_toWord; rw [n_w (by omega)]), if_neg (by decide), if_neg (by decide), if_pos (by decide), r74_0, g74_5, h3, sI_t (N := 200) rfl rfl (show m < 200 by omega), p74_7]
  exact ⟨_, rfl, ma_7 (ma_75 hA)⟩
theorem r_two3 {m n : Nat} (hB : MB B0 B T f t x a r (nI p) s o w tp L) (hT : T ≤ 200) (hp1 : p + 1 < T) (hm : w (p + 1) = nI m) (hm6 : m < 65536) (hn : n < 4096) (hmT : m < T) : ∃ B', fn_Ref_two 78 (nI 3) (nI n) B = rv B' ∧ MB B0 B' T f t x a r (nI (p + 2)) s o (upd w m a) tp L := by
  obtain ⟨⟨h1, h2, h3, h4, h5, h6, h7, h8, h9⟩, h10, h11, h12, h13, h14⟩ := id hB
  unfold fn_Ref_two
  rw [r78_22, g78_25, h5, nI_1, ld_t (N := 200) rfl rfl (show p + 1 < 200 by omega), h10 (p + 1) hp1, hm, g78_25, h5, show nI p + 2 = nI (p + 2) from nI_add p 2, if_neg (by decide), if_neg (by decide), if_pos (by decide), r78_22, g78_23, h3, sI_t (N := 200) rfl rfl (show m < 200 by omega), p78_25]
  exact ⟨_, rfl, mb_25 (mb_91 hB)⟩
theorem c_two4 {m n : Nat} (hA : MA A0 A T f t x a r (nI p) s o w tp L) (hT : T ≤ 200) (hp1 : p + 1 < T) (hm : w (p + 1) = nI m) (hm6 : m < 65536) (hn : n < 4096) (hb : ¬ blk 4 m T x) (hmT : m < T) : ∃ A', fn_Mac_doTwoWords 74 (nI 4) (nI n) A = rv A' ∧ MA A0 A' T f t x ((a + w m) &&& 65535) r (nI (p + 2)) s o w tp L := by
  obtain ⟨⟨h1, h2, h3, h4, h5, h6, h7, h8, h9⟩, h10, h11, h12, h13, h14⟩ := id hA
  unfold fn_Mac_doTwoWords
  rw [g74_7, h5, nI_1, vi_t rfl (c_in hA hT (p + 1) (by omega)), zb_t hp1, if_neg (by decide), r74_0, g74_7, h5, nI_1, ld_t (N := 200) rfl rfl (show p + 1 < 200 by omega), h10 (p + 1) hp1, hm, vi_t rfl (c_touch hA hT (by decide) hm6), zb_t hb, if_neg (by decide), r74_0, g74_7, h5, nI_1, ld_t (N := 200) rfl rfl (show p + 1 < 200 by omega), h10 (p + 1) hp1, hm, g74_7, h5, show nI p + 2 = nI (p + 2) from nI_add p 2, bi_t (show fn_SL_toWord (nI (p + 2)) A = ri (nI (p + 2)) A by unfold fn_SL_toWord; rw [n_w (by omega)]), if_neg (by decide), if_neg (by decide), if_neg (by decide), if_pos (by decide), g74_5, h3, r74_0, ld_t (N := 200) rfl rfl (show m < 200 by omega), h10 m hmT, bi_t (show fn_SL_toWord (a + w m) A = ri ((a + w m) &&& 65535) A from rfl), p74_5, p74_7]
  exact ⟨_, rfl, ma_7 (ma_5 hA)⟩
theorem r_two4 {m n : Nat} (hB : MB B0 B T f t x a r (nI p) s o w tp L) (hT : T ≤ 200) (hp1 : p + 1 < T) (hm : w (p + 1) = nI m) (hm6 : m < 65536) (hn : n < 4096) (hmT : m < T) : ∃ B', fn_Ref_two 78 (nI 4) (nI n) B = rv B' ∧ MB B0 B' T f t x ((a + w m) &&& 65535) r (nI (p + 2)) s o w tp L := by
  obtain ⟨⟨h1, h2, h3, h4, h5, h6, h7, h8, h9⟩, h10, h11, h12, h13, h14⟩ := id hB
  unfold fn_Ref_two
  rw [r78_22, g78_25, h5, nI_1, ld_t (N := 200) rfl rfl (show p + 1 < 200 by omega), h10 (p + 1) hp1, hm, g78_25, h5, show nI p + 2 = nI (p + 2) from nI_add p 2, if_neg (by decide), if_neg (by decide), if_neg (by decide), if_pos (by decide), g78_23, h3, r78_22, ld_t (N := 200) rfl rfl (show m < 200 by omega), h10 m hmT, p78_23, p78_25]
  exact ⟨_, rfl, mb_25 (mb_23 hB)⟩
theorem c_two5 {m n : Nat} (hA : MA A0 A T f t x a r (nI p) s o w tp L) (hT : T ≤ 200) (hp1 : p + 1 < T) (hm : w (p + 1) = nI m) (hm6 : m < 65536) (hn : n < 4096) (hb : ¬ blk 5 m T x) (hmT : m < T) : ∃ A', fn_Mac_doTwoWords 74 (nI 5) (nI n) A = rv A' ∧ MA A0 A' T f t x ((a - w m) &&& 65535) r (nI (p + 2)) s o w tp L := by
  obtain ⟨⟨h1, h2, h3, h4, h5, h6, h7, h8, h9⟩, h10, h11, h12, h13, h14⟩ := id hA
  unfold fn_Mac_doTwoWords
  rw [g74_7, h5, nI_1, vi_t rfl (c_in hA hT (p + 1) (by omega)), zb_t hp1, if_neg (by decide), r74_0, g74_7, h5, nI_1, ld_t (N := 200) rfl rfl (show p + 1 < 200 by omega), h10 (p + 1) hp1, hm, vi_t rfl (c_touch hA hT (by decide) hm6), zb_t hb, if_neg (by decide), r74_0, g74_7, h5, nI_1, ld_t (N := 200) rfl rfl (show p + 1 < 200 by omega), h10 (p + 1) hp1, hm, g74_7, h5, show nI p + 2 = nI (p + 2) from nI_add p 2, bi_t (show fn_SL_toWord (nI (p + 2)) A = ri (nI (p + 2)) A by unfold fn_SL_toWord; rw [n_w (by omega)]), if_neg (by decide), if_neg (by decide), if_neg (by decide), if_neg (by decide), if_pos (by decide), g74_5, h3, r74_0, ld_t (N := 200) rfl rfl (show m < 200 by omega), h10 m hmT, bi_t (show fn_SL_toWord (a - w m) A = ri ((a - w m) &&& 65535) A from rfl), p74_5, p74_7]
  exact ⟨_, rfl, ma_7 (ma_5 hA)⟩
theorem r_two5 {m n : Nat} (hB : MB B0 B T f t x a r (nI p) s o w tp L) (hT : T ≤ 200) (hp1 : p + 1 < T) (hm : w (p + 1) = nI m) (hm6 : m < 65536) (hn : n < 4096) (hmT : m < T) : ∃ B', fn_Ref_two 78 (nI 5) (nI n) B = rv B' ∧ MB B0 B' T f t x ((a - w m) &&& 65535) r (nI (p + 2)) s o w tp L := by
  obtain ⟨⟨h1, h2, h3, h4, h5, h6, h7, h8, h9⟩, h10, h11, h12, h13, h14⟩ := id hB
  unfold fn_Ref_two
  rw [r78_22, g78_25, h5, nI_1, ld_t (N := 200) rfl rfl (show p + 1 < 200 by omega), h10 (p + 1) hp1, hm, g78_25, h5, show nI p + 2 = nI (p + 2) from nI_add p 2, if_neg (by decide), if_neg (by decide), if_neg (by decide), if_neg (by decide), if_pos (by decide), g78_23, h3, r78_22, ld_t (N := 200) rfl rfl (show m < 200 by omega), h10 m hmT, p78_23, p78_25]
  exact ⟨_, rfl, mb_25 (mb_23 hB)⟩
theorem c_two6 {m n : Nat} (hA : MA A0 A T f t x a r (nI p) s o w tp L) (hT : T ≤ 200) (hp1 : p + 1 < T) (hm : w (p + 1) = nI m) (hm6 : m < 65536) (hn : n < 4096) (hb : ¬ blk 6 m T x) : ∃ A', fn_Mac_doTwoWords 74 (nI 6) (nI n) A = rv A' ∧ MA A0 A' T f t x a (nI (p + 2)) (nI m) s o w tp L := by
  obtain ⟨⟨h1, h2, h3, h4, h5, h6, h7, h8, h9⟩, h10, h11, h12, h13, h14⟩ := id hA
  unfold fn_Mac_doTwoWords
  rw [g74_7, h5, nI_1, vi_t rfl (c_in hA hT (p + 1) (by omega)), zb_t hp1, if_neg (by decide), r74_0, g74_7, h5, nI_1, ld_t (N := 200) rfl rfl (show p + 1 < 200 by omega), h10 (p + 1) hp1, hm, vi_t rfl (c_touch hA hT (by decide) hm6), zb_t hb, if_neg (by decide), r74_0, g74_7, h5, nI_1, ld_t (N := 200) rfl rfl (show p + 1 < 200 by omega), h10 (p + 1) hp1, hm, g74_7, h5, show nI p + 2 = nI (p + 2) from nI_add p 2, bi_t (show fn_SL_toWord (nI (p + 2)) A = ri (nI (p + 2)) A by unfold fn_SL_toWord; rw [n_w (by omega)]), if_neg (by decide), if_neg (by decide), if_neg (by decide), if_neg (by decide), if_neg (by decide), if_pos (by decide), p74_6, p74_7]
  exact ⟨_, rfl, ma_7 (ma_6 hA)⟩
theorem r_two6 {m n : Nat} (hB : MB B0 B T f t x a r (nI p) s o w tp L) (hT : T ≤ 200) (hp1 : p + 1 < T) (hm : w (p + 1) = nI m) (hm6 : m < 65536) (hn : n < 4096) : ∃ B', fn_Ref_two 78 (nI 6) (nI n) B = rv B' ∧ MB B0 B' T f t x a (nI (p + 2)) (nI m) s o w tp L := by
  obtain ⟨⟨h1, h2, h3, h4, h5, h6, h7, h8, h9⟩, h10, h11, h12, h13, h14⟩ := id hB
  unfold fn_Ref_two
  rw [r78_22, g78_25, h5, nI_1, ld_t (N := 200) rfl rfl (show p + 1 < 200 by omega), h10 (p + 1) hp1, hm, g78_25, h5, show nI p + 2 = nI (p + 2) from nI_add p 2, if_neg (by decide), if_neg (by decide), if_neg (by decide), if_neg (by decide), if_neg (by decide), if_pos (by decide), p78_24, p78_25]
  exact ⟨_, rfl, mb_25 (mb_24 hB)⟩
theorem c_two8 {m n : Nat} (hA : MA A0 A T f t x a r (nI p) s o w tp L) (hT : T ≤ 200) (hp1 : p + 1 < T) (hm : w (p + 1) = nI m) (hm6 : m < 65536) (hn : n < 4096) (hb : ¬ blk 8 m T x) : ∃ A', fn_Mac_doTwoWords 74 (nI 8) (nI n) A = rv A' ∧ MA A0 A' T f t x a r (if cnd (n / 256 % 4) a then nI m else nI (p + 2)) s o w tp L := by
  obtain ⟨⟨h1, h2, h3, h4, h5, h6, h7, h8, h9⟩, h10, h11, h12, h13, h14⟩ := id hA
  unfold fn_Mac_doTwoWords
  rw [g74_7, h5, nI_1, vi_t rfl (c_in hA hT (p + 1) (by omega)), zb_t hp1, if_neg (by decide), r74_0, g74_7, h5, nI_1, ld_t (N := 200) rfl rfl (show p + 1 < 200 by omega), h10 (p + 1) hp1, hm, vi_t rfl (c_touch hA hT (by decide) hm6), zb_t hb, if_neg (by decide), r74_0, g74_7, h5, nI_1, ld_t (N := 200) rfl rfl (show p + 1 < 200 by omega), h10 (p + 1) hp1, hm, g74_7, h5, show nI p + 2 = nI (p + 2) from nI_add p 2, bi_t (show fn_SL_toWord (nI (p + 2)) A = ri (nI (p + 2)) A by unfold fn_SL_toWord; rw [n_w (by omega)]), if_neg (by decide), if_neg (by decide), if_neg (by decide), if_neg (by decide), if_neg (by decide), if_neg (by decide), vi_t rfl (c_cond hA hn)]
  by_cases hc : cnd (n / 256 % 4) a
  · rw [zb_t hc, if_neg (by decide), if_pos hc, p74_7]
    exact ⟨_, rfl, ma_7 hA⟩
  · rw [zb_f hc, if_pos (by decide), if_neg hc, p74_7]
    exact ⟨_, rfl, ma_7 hA⟩
theorem r_two8 {m n : Nat} (hB : MB B0 B T f t x a r (nI p) s o w tp L) (hT : T ≤ 200) (hp1 : p + 1 < T) (hm : w (p + 1) = nI m) (hm6 : m < 65536) (hn : n < 4096) : ∃ B', fn_Ref_two 78 (nI 8) (nI n) B = rv B' ∧ MB B0 B' T f t x a r (if cnd (n / 256 % 4) a then nI m else nI (p + 2)) s o w tp L := by
  obtain ⟨⟨h1, h2, h3, h4, h5, h6, h7, h8, h9⟩, h10, h11, h12, h13, h14⟩ := id hB
  unfold fn_Ref_two
  rw [r78_22, g78_25, h5, nI_1, ld_t (N := 200) rfl rfl (show p + 1 < 200 by omega), h10 (p + 1) hp1, hm, g78_25, h5, show nI p + 2 = nI (p + 2) from nI_add p 2, if_neg (by decide), if_neg (by decide), if_neg (by decide), if_neg (by decide), if_neg (by decide), if_neg (by decide), vi_t rfl (r_cond hB hn)]
  by_cases hc : cnd (n / 256 % 4) a
  · rw [zb_t hc, if_neg (by decide), if_pos hc, p78_25]
    exact ⟨_, rfl, mb_25 hB⟩
  · rw [zb_f hc, if_pos (by decide), if_neg hc, p78_25]
    exact ⟨_, rfl, mb_25 hB⟩
end STP
