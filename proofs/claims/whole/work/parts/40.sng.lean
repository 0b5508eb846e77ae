section SNG
variable {A0 A B0 B : fm_I} {T f t : Nat} {x a r s o : Int32} {w tp L : Nat → Int32} {p : Nat}
theorem c_one0 {n : Nat} (hA : MA A0 A T f t x a r (nI p) s o w tp L) (hT : T ≤ 200) (hp : p < T) (hn : n < 4096) : ∃ A', fn_Mac_doOneWord 74 (nI 0) (nI n) A = rv A' ∧ MA A0 A' T f t x a r (nI p) 1 o w tp L := by
  obtain ⟨⟨h1, h2, h3, h4, h5, h6, h7, h8, h9⟩, h10, h11, h12, h13, h14⟩ := id hA
  unfold fn_Mac_doOneWord
  rw [if_neg (by decide)]
  unfold fn_Mac_doOneWord_23
  rw [g74_7, h5, show nI p + 1 = nI (p + 1) from nI_add p 1, bi_t (show fn_SL_toWord (nI (p + 1)) A = ri (nI (p + 1)) A by unfold fn_SL_toWord; rw [n_w (by omega)]), if_pos (by decide), p74_8, g74_7, fm_up_k _ _ (by decide), h5, p74_7]
  exact ⟨_, rfl, ma_7 (ma_8 hA)⟩
theorem r_one0 {n : Nat} (hB : MB B0 B T f t x a r (nI p) s o w tp L) (hT : T ≤ 200) (hp : p < T) (hn : n < 4096) : ∃ B', fn_Ref_single 78 (nI 0) (nI n) B = rv B' ∧ MB B0 B' T f t x a r (nI p) 1 o w tp L := by
  obtain ⟨⟨h1, h2, h3, h4, h5, h6, h7, h8, h9⟩, h10, h11, h12, h13, h14⟩ := id hB
  unfold fn_Ref_single
  rw [g78_25, h5, if_pos (by decide), p78_26, g78_25, fm_up_k _ _ (by decide), h5, p78_25]
  exact ⟨_, rfl, mb_25 (mb_26 hB)⟩
theorem c_one7 {n : Nat} (hA : MA A0 A T f t x a r (nI p) s o w tp L) (hT : T ≤ 200) (hp : p < T) (hn : n < 4096) : ∃ A', fn_Mac_doOneWord 74 (nI 7) (nI n) A = rv A' ∧ MA A0 A' T f t x a r r s o w tp L := by
  obtain ⟨⟨h1, h2, h3, h4, h5, h6, h7, h8, h9⟩, h10, h11, h12, h13, h14⟩ := id hA
  unfold fn_Mac_doOneWord
  rw [if_neg (by decide)]
  unfold fn_Mac_doOneWord_23
  rw [g74_7, h5, show nI p + 1 = nI (p + 1) from nI_add p 1, bi_t (show fn_SL_toWord (nI (p + 1)) A = ri (nI (p + 1)) A by unfold fn_SL_toWord; rw [n_w (by omega)]), if_neg (by decide), if_neg (by decide), if_neg (by decide), if_neg (by decide), if_neg (by decide), if_neg (by decide), if_neg (by decide), if_pos (by decide), g74_6, h4, p74_7]
  exact ⟨_, rfl, ma_7 hA⟩
theorem r_one7 {n : Nat} (hB : MB B0 B T f t x a r (nI p) s o w tp L) (hT : T ≤ 200) (hp : p < T) (hn : n < 4096) : ∃ B', fn_Ref_single 78 (nI 7) (nI n) B = rv B' ∧ MB B0 B' T f t x a r r s o w tp L := by
  obtain ⟨⟨h1, h2, h3, h4, h5, h6, h7, h8, h9⟩, h10, h11, h12, h13, h14⟩ := id hB
  unfold fn_Ref_single
  rw [g78_25, h5, if_neg (by decide), if_pos (by decide), g78_24, h4, p78_25]
  exact ⟨_, rfl, mb_25 hB⟩
/-- how far a short jump goes -/
def sg (n : Nat) : Int32 := if n % 256 ≤ 127 then nI (n % 256) else nI (n % 256) - 256
theorem c_one9 {n : Nat} (hA : MA A0 A T f t x a r (nI p) s o w tp L) (hT : T ≤ 200) (hp : p < T) (hn : n < 4096) : ∃ A', fn_Mac_doOneWord 74 (nI 9) (nI n) A = rv A' ∧ MA A0 A' T f t x a r (if cnd (n / 256 % 4) a then (nI (p + 1) + sg n) &&& 65535 else nI (p + 1)) s o w tp L := by
  obtain ⟨⟨h1, h2, h3, h4, h5, h6, h7, h8, h9⟩, h10, h11, h12, h13, h14⟩ := id hA
  have hs : fn_Mac_signed (nI n - nI n / 256 * 256) A = ri (sg n) A := by
    unfold fn_Mac_signed sg
    rw [n_l1 hn]
    by_cases e : n % 256 ≤ 127
    · rw [if_pos (show nI (n % 256) ≤ 127 from nI_le (b := 127) e (by decide)), if_pos e]
    · rw [if_neg (show ¬ nI (n % 256) ≤ 127 from nI_ge (a := 127) (by omega) (by omega)), if_neg e]
  unfold fn_Mac_doOneWord
  rw [if_neg (by decide)]
  unfold fn_Mac_doOneWord_23
  rw [g74_7, h5, show nI p + 1 = nI (p + 1) from nI_add p 1, bi_t (show fn_SL_toWord (nI (p + 1)) A = ri (nI (p + 1)) A by unfold fn_SL_toWord; rw [n_w (by omega)]), if_neg (by decide), if_neg (by decide), if_neg (by decide), if_neg (by decide), if_neg (by decide), if_neg (by decide), if_neg (by decide), if_neg (by decide), if_neg (by decide), if_pos (by decide), vi_t rfl (c_cond hA hn)]
  by_cases hc : cnd (n / 256 % 4) a
  · rw [zb_t hc, if_neg (by decide), if_pos hc, bi_t hs, bi_t (show fn_SL_toWord (nI (p + 1) + sg n) A = ri ((nI (p + 1) + sg n) &&& 65535) A from rfl), p74_7]
    exact ⟨_, rfl, ma_7 hA⟩
  · rw [zb_f hc, if_pos (by decide), if_neg hc, p74_7]
    exact ⟨_, rfl, ma_7 hA⟩
theorem r_one9 {n : Nat} (hB : MB B0 B T f t x a r (nI p) s o w tp L) (hT : T ≤ 200) (hp : p < T) (hn : n < 4096) : ∃ B', fn_Ref_single 78 (nI 9) (nI n) B = rv B' ∧ MB B0 B' T f t x a r (if cnd (n / 256 % 4) a then (nI (p + 1) + sg n) &&& 65535 else nI (p + 1)) s o w tp L := by
  obtain ⟨⟨h1, h2, h3, h4, h5, h6, h7, h8, h9⟩, h10, h11, h12, h13, h14⟩ := id hB
  have key : fn_Ref_single_71 78 (nI n) (nI (p + 1)) (sg n) B = if cnd (n / 256 % 4) a then rv (fm_up B 78 25 ((nI (p + 1) + sg n) &&& 65535)) else rv (fm_up B 78 25 (nI (p + 1))) := by
    unfold fn_Ref_single_71
    rw [vi_t rfl (r_cond hB hn)]
    by_cases hc : cnd (n / 256 % 4) a
    · rw [zb_t hc, if_neg (by decide), if_pos hc, p78_25]
    · rw [zb_f hc, if_pos (by decide), if_neg hc, p78_25]
  have h71 : fn_Ref_single 78 (nI 9) (nI n) B = fn_Ref_single_71 78 (nI n) (nI (p + 1)) (sg n) B := by
    unfold fn_Ref_single sg
    rw [g78_25, h5, if_neg (by decide), if_neg (by decide), if_pos (by decide), n_l2 hn, show nI p + 1 = nI (p + 1) from nI_add p 1]
    by_cases e : n % 256 ≤ 127
    · rw [if_pos (show nI (n % 256) ≤ 127 from nI_le (b := 127) e (by decide)), if_pos e]
    · rw [if_neg (show ¬ nI (n % 256) ≤ 127 from nI_ge (a := 127) (by omega) (by omega)), if_neg e]
  rw [h71, key]
  by_cases hc : cnd (n / 256 % 4) a
  · rw [if_pos hc, if_pos hc]
    exact ⟨_, rfl, mb_25 hB⟩
  · rw [if_neg hc, if_neg hc]
    exact ⟨_, rfl, mb_25 hB⟩
/-- the latest words behind one more -/
def lsh (L : Nat → Int32) (a : Int32) : Nat → Int32 := upd (upd (upd (upd L 3 (L 2)) 2 (L 1)) 1 (L 0)) 0 a
theorem c_out (n : Nat) : fn_Mac_putOutA_2 (n + 4) 74 3 A = rv (fm_up (fm_up (fm_up (fm_up (fm_up A 77 3 (A 77 2)) 77 2 (A 77 1)) 77 1 (A 77 0)) 77 0 (A 74 5)) 74 11 (A 74 11 + 1)) := by
  unfold fn_Mac_putOutA_2
  rw [if_neg (by decide), r74_2, r74_2, ld_t (N := 4) (j := 2) rfl (by decide) (by decide), sI_t (N := 4) (j := 3) rfl (by decide) (by decide)]
  unfold fn_Mac_putOutA_2
  rw [if_neg (by decide), r74_2, r74_2, ld_t (N := 4) (j := 1) rfl (by decide) (by decide), sI_t (N := 4) (j := 2) rfl (by decide) (by decide), fm_up_k _ _ (by decide)]
  unfold fn_Mac_putOutA_2
  rw [if_neg (by decide), r74_2, r74_2, ld_t (N := 4) (j := 0) rfl (by decide) (by decide), sI_t (N := 4) (j := 1) rfl (by decide) (by decide), fm_up_k _ _ (by decide), fm_up_k _ _ (by decide)]
  unfold fn_Mac_putOutA_2
  rw [if_pos (by decide), r74_2, g74_5, sI_t (N := 4) (j := 0) rfl (by decide) (by decide), g74_11, p74_11, fm_up_p _ _ _ (by decide), fm_up_p _ _ _ (by decide), fm_up_p _ _ _ (by decide), fm_up_p _ _ _ (by decide), fm_up_p _ _ _ (by decide), fm_up_p _ _ _ (by decide), fm_up_p _ _ _ (by decide)]
theorem c_one10 {n : Nat} (hA : MA A0 A T f t x a r (nI p) s o w tp L) (hT : T ≤ 200) (hp : p < T) (hn : n < 4096) : ∃ A', fn_Mac_doOneWord 74 (nI 10) (nI n) A = rv A' ∧ MA A0 A' T f t x a r (nI (p + 1)) s (o + 1) w tp (lsh L a) := by
  obtain ⟨⟨h1, h2, h3, h4, h5, h6, h7, h8, h9⟩, h10, h11, h12, h13, h14⟩ := id hA
  unfold fn_Mac_doOneWord
  rw [if_neg (by decide)]
  unfold fn_Mac_doOneWord_23
  rw [g74_7, h5, show nI p + 1 = nI (p + 1) from nI_add p 1, bi_t (show fn_SL_toWord (nI (p + 1)) A = ri (nI (p + 1)) A by unfold fn_SL_toWord; rw [n_w (by omega)]), if_neg (by decide), if_neg (by decide), if_neg (by decide), if_neg (by decide), if_neg (by decide), if_neg (by decide), if_neg (by decide), if_neg (by decide), if_neg (by decide), if_neg (by decide), if_pos (by decide), vv_t rfl (show fn_Mac_putOutA 74 A = _ from c_out 4092), p74_7, h3, h9, h12 0 (by decide), h12 1 (by decide), h12 2 (by decide)]
  exact ⟨_, rfl, ma_7 (ma_11 (ma_77 (ma_77 (ma_77 (ma_77 hA)))))⟩
theorem r_one10 {n : Nat} (hB : MB B0 B T f t x a r (nI p) s o w tp L) (hT : T ≤ 200) (hp : p < T) (hn : n < 4096) : ∃ B', fn_Ref_single 78 (nI 10) (nI n) B = rv B' ∧ MB B0 B' T f t x a r (nI (p + 1)) s (o + 1) w tp (lsh L a) := by
  obtain ⟨⟨h1, h2, h3, h4, h5, h6, h7, h8, h9⟩, h10, h11, h12, h13, h14⟩ := id hB
  unfold fn_Ref_single
  rw [g78_25, h5, if_neg (by decide), if_neg (by decide), if_neg (by decide), if_pos (by decide), r78_28, r78_28, ld_t (N := 4) (j := 2) rfl (by decide) (by decide), sI_t (N := 4) (j := 3) rfl (by decide) (by decide), r78_28, r78_28, ld_t (N := 4) (j := 1) rfl (by decide) (by decide), sI_t (N := 4) (j := 2) rfl (by decide) (by decide), fm_up_k _ _ (by decide), r78_28, r78_28, ld_t (N := 4) (j := 0) rfl (by decide) (by decide), sI_t (N := 4) (j := 1) rfl (by decide) (by decide), fm_up_k _ _ (by decide), fm_up_k _ _ (by decide), r78_28, g78_23, sI_t (N := 4) (j := 0) rfl (by decide) (by decide), g78_27, p78_27, p78_25, fm_up_p _ _ _ (by decide), fm_up_p _ _ _ (by decide), fm_up_p _ _ _ (by decide), fm_up_p _ _ _ (by decide), fm_up_p _ _ _ (by decide), fm_up_p _ _ _ (by decide), fm_up_p _ _ _ (by decide), h3, h9, h12 0 (by decide), h12 1 (by decide), h12 2 (by decide), show nI p + 1 = nI (p + 1) from nI_add p 1]
  exact ⟨_, rfl, mb_25 (mb_27 (mb_92 (mb_92 (mb_92 (mb_92 hB)))))⟩
theorem c_one11 {n : Nat} (hA : MA A0 A T f t x a r (nI p) s o w tp L) (hT : T ≤ 200) (hp : p < T) (hn : n < 4096) (hft : f ≤ 8) (htf : t ≤ f) : ∃ A', fn_Mac_doOneWord 74 (nI 11) (nI n) A = rv A' ∧ MA A0 A' T f (if t < f then t + 1 else t) x (if t < f then tp t else 0) r (nI (p + 1)) s o w tp L := by
  obtain ⟨⟨h1, h2, h3, h4, h5, h6, h7, h8, h9⟩, h10, h11, h12, h13, h14⟩ := id hA
  unfold fn_Mac_doOneWord
  rw [if_neg (by decide)]
  unfold fn_Mac_doOneWord_23
  rw [g74_7, h5, show nI p + 1 = nI (p + 1) from nI_add p 1, bi_t (show fn_SL_toWord (nI (p + 1)) A = ri (nI (p + 1)) A by unfold fn_SL_toWord; rw [n_w (by omega)]), if_neg (by decide), if_neg (by decide), if_neg (by decide), if_neg (by decide), if_neg (by decide), if_neg (by decide), if_neg (by decide), if_neg (by decide), if_neg (by decide), if_neg (by decide), if_neg (by decide), if_pos (by decide)]
  by_cases e : t < f
  · have ht : fn_Mac_nextOfTape 74 A = ri (tp t) (fm_up A 74 10 (nI (t + 1))) := by
      unfold fn_Mac_nextOfTape
      rw [g74_10, g74_9, h7, h8, if_pos (nI_lt e (by omega)), r74_1, g74_10, h8, ld_t (N := 8) rfl rfl (by omega), h11 t e, g74_10, h8, p74_10, nI_1]
    rw [vi_t rfl ht, p74_5, p74_7, if_pos e, if_pos e]
    exact ⟨_, rfl, ma_7 (ma_5 (ma_10 hA))⟩
  · have ht : fn_Mac_nextOfTape 74 A = ri 0 A := by
      unfold fn_Mac_nextOfTape
      rw [g74_10, g74_9, h7, h8, if_neg (nI_nlt (by omega) (by omega))]
    rw [vi_t rfl ht, p74_5, p74_7, if_neg e, if_neg e]
    exact ⟨_, rfl, ma_7 (ma_5 hA)⟩
theorem r_one11 {n : Nat} (hB : MB B0 B T f t x a r (nI p) s o w tp L) (hT : T ≤ 200) (hp : p < T) (hn : n < 4096) (hft : f ≤ 8) (htf : t ≤ f) : ∃ B', fn_Ref_single 78 (nI 11) (nI n) B = rv B' ∧ MB B0 B' T f (if t < f then t + 1 else t) x (if t < f then tp t else 0) r (nI (p + 1)) s o w tp L := by
  obtain ⟨⟨h1, h2, h3, h4, h5, h6, h7, h8, h9⟩, h10, h11, h12, h13, h14⟩ := id hB
  unfold fn_Ref_single
  rw [g78_25, h5, if_neg (by decide), if_neg (by decide), if_neg (by decide), if_neg (by decide), if_pos (by decide), g78_31, g78_30, h7, h8]
  by_cases e : t < f
  · rw [if_neg (nI_ge e (by omega)), r78_29, g78_31, h8, ld_t (N := 8) rfl rfl (by omega), h11 t e, if_pos e, if_pos e]
    unfold fn_Ref_single_197
    rw [p78_23, g78_31, g78_30, fm_up_k _ _ (by decide), fm_up_k _ _ (by decide), h7, h8, if_neg (nI_ge e (by omega)), g78_31, fm_up_k _ _ (by decide), h8, p78_31, p78_25, nI_1, show nI p + 1 = nI (p + 1) from nI_add p 1]
    exact ⟨_, rfl, mb_25 (mb_31 (mb_23 hB))⟩
  · rw [if_pos (nI_le (by omega) (by omega)), if_neg e, if_neg e]
    unfold fn_Ref_single_197
    rw [p78_23, g78_31, g78_30, fm_up_k _ _ (by decide), fm_up_k _ _ (by decide), h7, h8, if_pos (nI_le (by omega) (by omega)), g78_31, fm_up_k _ _ (by decide), h8, p78_31, p78_25, show nI p + 1 = nI (p + 1) from nI_add p 1]
    exact ⟨_, rfl, mb_25 (mb_31 (mb_23 hB))⟩
theorem c_one12 {n : Nat} (hA : MA A0 A T f t x a r (nI p) s o w tp L) (hT : T ≤ 200) (hp : p < T) (hn : n < 4096) {m : Nat} (ha : a = nI m) (hm : m < T) : ∃ A', fn_Mac_doOneWord 74 (nI 12) (nI n) A = rv A' ∧ MA A0 A' T f t x (w m) r (nI (p + 1)) s o w tp L := by
  obtain ⟨⟨h1, h2, h3, h4, h5, h6, h7, h8, h9⟩, h10, h11, h12, h13, h14⟩ := id hA
  unfold fn_Mac_doOneWord
  rw [if_pos (by decide), g74_5, h3, ha, vi_t rfl (c_in hA hT m (by omega)), zb_t hm, if_neg (by decide)]
  unfold fn_Mac_doOneWord_23
  rw [g74_7, h5, show nI p + 1 = nI (p + 1) from nI_add p 1, bi_t (show fn_SL_toWord (nI (p + 1)) A = ri (nI (p + 1)) A by unfold fn_SL_toWord; rw [n_w (by omega)]), if_neg (by decide), if_neg (by decide), if_neg (by decide), if_neg (by decide), if_neg (by decide), if_neg (by decide), if_neg (by decide), if_neg (by decide), if_neg (by decide), if_neg (by decide), if_neg (by decide), if_neg (by decide), if_pos (by decide), r74_0, g74_5, h3, ha, ld_t (N := 200) rfl rfl (show m < 200 by omega), h10 m hm, p74_5, p74_7]
  exact ⟨_, rfl, ma_7 (ma_5 hA)⟩
theorem c_one12x {n : Nat} (hA : MA A0 A T f t x a r (nI p) s o w tp L) (hT : T ≤ 200) (hp : p < T) (hn : n < 4096) {m : Nat} (ha : a = nI m) (hm : ¬ m < T) (hm6 : m < 65536) : ∃ A', fn_Mac_doOneWord 74 (nI 12) (nI n) A = rv A' ∧ MA A0 A' T f t x a r (nI p) 3 o w tp L := by
  obtain ⟨⟨h1, h2, h3, h4, h5, h6, h7, h8, h9⟩, h10, h11, h12, h13, h14⟩ := id hA
  unfold fn_Mac_doOneWord
  rw [if_pos (by decide), g74_5, h3, ha, vi_t rfl (c_in hA hT m (by omega)), zb_f hm, if_pos (by decide), p74_8]
  exact ⟨_, rfl, by rw [← ha]; exact ma_8 hA⟩
theorem r_one12 {n : Nat} (hB : MB B0 B T f t x a r (nI p) s o w tp L) (hT : T ≤ 200) (hp : p < T) (hn : n < 4096) {m : Nat} (ha : a = nI m) (hm : m < T) : ∃ B', fn_Ref_single 78 (nI 12) (nI n) B = rv B' ∧ MB B0 B' T f t x (w m) r (nI (p + 1)) s o w tp L := by
  obtain ⟨⟨h1, h2, h3, h4, h5, h6, h7, h8, h9⟩, h10, h11, h12, h13, h14⟩ := id hB
  unfold fn_Ref_single
  rw [g78_25, h5, if_neg (by decide), if_neg (by decide), if_neg (by decide), if_neg (by decide), if_neg (by decide), if_pos (by decide), r78_22, g78_23, h3, ha, ld_t (N := 200) rfl rfl (show m < 200 by omega), h10 m hm, p78_23, p78_25, show nI p + 1 = nI (p + 1) from nI_add p 1]
  exact ⟨_, rfl, mb_25 (mb_23 hB)⟩
theorem c_one13 {n : Nat} (hA : MA A0 A T f t x a r (nI p) s o w tp L) (hT : T ≤ 200) (hp : p < T) (hn : n < 4096) {m : Nat} (ha : a = nI m) (hm6 : m < 65536) : ∃ A', fn_Mac_doOneWord 74 (nI 13) (nI n) A = rv A' ∧ MA A0 A' T f t x (nI (m / 2 ^ (n % 16))) r (nI (p + 1)) s o w tp L := by
  obtain ⟨⟨h1, h2, h3, h4, h5, h6, h7, h8, h9⟩, h10, h11, h12, h13, h14⟩ := id hA
  unfold fn_Mac_doOneWord
  rw [if_neg (by decide)]
  unfold fn_Mac_doOneWord_23
  rw [g74_7, h5, show nI p + 1 = nI (p + 1) from nI_add p 1, bi_t (show fn_SL_toWord (nI (p + 1)) A = ri (nI (p + 1)) A by unfold fn_SL_toWord; rw [n_w (by omega)]), if_neg (by decide), if_neg (by decide), if_neg (by decide), if_neg (by decide), if_neg (by decide), if_neg (by decide), if_neg (by decide), if_neg (by decide), if_neg (by decide), if_neg (by decide), if_neg (by decide), if_neg (by decide), if_neg (by decide), g74_5, h3, ha, n_h1 hn, n_u hm6 (by omega), p74_5, p74_7]
  exact ⟨_, rfl, ma_7 (ma_5 hA)⟩
theorem r_one13 {n : Nat} (hB : MB B0 B T f t x a r (nI p) s o w tp L) (hT : T ≤ 200) (hp : p < T) (hn : n < 4096) {m : Nat} (ha : a = nI m) (hm6 : m < 65536) : ∃ B', fn_Ref_single 78 (nI 13) (nI n) B = rv B' ∧ MB B0 B' T f t x (nI (m / 2 ^ (n % 16))) r (nI (p + 1)) s o w tp L := by
  obtain ⟨⟨h1, h2, h3, h4, h5, h6, h7, h8, h9⟩, h10, h11, h12, h13, h14⟩ := id hB
  unfold fn_Ref_single
  rw [g78_25, h5, if_neg (by decide), if_neg (by decide), if_neg (by decide), if_neg (by decide), if_neg (by decide), if_neg (by decide), g78_23, h3, ha, n_h2 hn, n_v hm6 (by omega), p78_23, p78_25, show nI p + 1 = nI (p + 1) from nI_add p 1]
  exact ⟨_, rfl, mb_25 (mb_23 hB)⟩
end SNG
