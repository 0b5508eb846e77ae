section WS
variable {A B : fm_I} {o : Nat → Nat} {c : Nat} {lw : Nat → Nat → Nat} {want : Int32}
theorem w_step (h : LB A B o c lw) (hdb : ∀ a, a < 16 → ∀ i j, i < j → j < c → ¬ (exB A (o i) a ∧ exB A (o j) a)) (hw : ∀ a, a < 16 → ¬ wnt A o c want a) (hT : ss_ lw o c 3 ≤ 200) {v : Nat → Int32} (hv : VS A o c lw c v) {k cm d : Nat} (hk : k < c) (hc : MRc A B (o k) cm) (hd : d < cm) {A' : fm_I} (hf : FRI A A') (hbs : ∀ s k, s < 3 → k < c → A' (65 + o k) s = nI (ss_ lw o c s + sl_ lw o s k)) (h73 : A' 73 = v) (hW : WR A' B) (n : Nat) : ∃ A'' B'', fn_Img_writeModule_9 (n + 1) 63 (nI (o k)) (2 + 9 * o k) (nI d) A' = fn_Img_writeModule_9 n 63 (nI (o k)) (2 + 9 * o k) (nI (d + 1)) A'' ∧ fn_Ref_write 78 (nI (o k)) (nI (20 * o k + d)) B = rv B'' ∧ WR A'' B'' ∧ (∀ q, q ≠ 71 → A'' q = A' q) ∧ (∀ q, q ≠ 88 → B'' q = B q) := by
  obtain ⟨s, s1, s2, s3, s4, s5⟩ := r_adr h hk hc hd
  have h6 := (h.2.1.2.2.2.1 k hk).1
  obtain ⟨hb, hq⟩ := isMod_m (o k) h6
  have hc20 := hc.1.2.1
  have hi : 20 * o k + d < 120 := by omega
  obtain ⟨kq, aq, bq, sq⟩ := hc.2.2.2.2.1 d hd
  replace kq : B 80 (20 * o k + d) = A (2 + 9 * o k + 1) d := kq
  replace aq : B 81 (20 * o k + d) = A (2 + 9 * o k + 2) d := aq
  replace bq : B 82 (20 * o k + d) = A (2 + 9 * o k + 3) d := bq
  have hal := adr_le h hk hc hd
  have hHM : fn_Mod_howMany (2 + 9 * o k) A' = ri (nI cm) A' := by
    unfold fn_Mod_howMany
    rw [mg8 hb, hf _ (by omega), hc.1.1]
  have hK : fn_Mod_kindOf (2 + 9 * o k) (nI d) A' = ri (A (2 + 9 * o k + 1) d) A' := by
    unfold fn_Mod_kindOf
    rw [mr0 hb, ld_t (mn1 hb) rfl (by omega), hf _ (by omega)]
  have hF : ∀ I, FRI A I → fn_Mod_firstOf (2 + 9 * o k) (nI d) I = ri (A (2 + 9 * o k + 2) d) I := fun I hI => by
    unfold fn_Mod_firstOf
    rw [mr1 hb, ld_t (mn2 hb) rfl (by omega), hI _ (by omega)]
  have hS : fn_Mod_secondOf (2 + 9 * o k) (nI d) A' = ri (A (2 + 9 * o k + 3) d) A' := by
    unfold fn_Mod_secondOf
    rw [mr2 hb, ld_t (mn3 hb) rfl (by omega), hf _ (by omega)]
  have hL : fn_Mod_isLongJump (2 + 9 * o k) (nI d) A' = (if A (2 + 9 * o k + 6) d = 0 then ri 0 A' else ri 1 A') := by
    unfold fn_Mod_isLongJump
    rw [if_neg (nI_pos (by omega)), mg8 hb, hf (2 + 9 * o k) (by omega), hc.1.1, if_neg (nI_ge hd (by omega)), mr5 hb, ld_t (mn6 hb) rfl (by omega), hf _ (by omega)]
    by_cases eg : A (2 + 9 * o k + 6) d = 0
    · rw [if_pos eg, if_pos eg, rz_0]
    · rw [if_neg eg, if_neg eg, rz_1]
  have hfu : ∀ i w, FRI A (fm_up A' 71 i w) := fun i w => hf.tr (fun q hq => fm_up_q _ (by omega))
  have hst : ∀ a, a < 16 → ∀ I, FRI A I → (∀ q, q ≠ 71 → I q = A' q) → fn_Img_standsFor 63 (nI (o k)) (nI a) I = ri (std A o c lw v k a) I := fun a ha I hI hq => by
    have := c_stands h hI (fun s k' hs hk' => by
      have h6 := (h.2.1.2.2.2.1 k' hk').1
      rw [hq _ (by omega)]; exact hbs s k' hs hk') hk hc ha
    rw [hq 73 (by decide), h73] at this
    exact this
  by_cases e3 : A (2 + 9 * o k + 1) d = 3
  · have had : adr A o c lw k d < 200 := by
      unfold mw at hal
      rw [if_pos (Or.inl e3)] at hal
      omega
    refine ⟨_, _, ?_, ?_, hW.up ((hc.1.2.2.1 d hd).2.2.2.2.2.1 e3) (adr A o c lw k d), fun q hq => fm_up_q _ hq, fun q hq => fm_up_q _ hq⟩
    · conv => lhs; unfold fn_Img_writeModule_9
      rw [vi_t hb.1 hHM, if_neg (nI_ge hd (by omega)), vi_t rfl (c_adr h hf hbs hk hc hd), vi_t hb.1 hK, if_pos e3, r63_3, vi_t hb.1 (hF A' hf), sI_t (N := 200) rfl rfl had, nI_1]
    · unfold fn_Ref_write
      rw [r78_4, ld_t (N := 120) rfl rfl hi, s2, vi_t rfl s3, r78_4, ld_t (N := 120) rfl rfl hi, s2, vi_t rfl s4, s5, r78_1, ld_t (N := 120) rfl rfl hi, kq, if_pos e3, r78_16, r78_2, ld_t (N := 120) rfl rfl hi, aq, sI_t (N := 200) rfl rfl had]
  by_cases e4 : A (2 + 9 * o k + 1) d = 4
  · have had : adr A o c lw k d < 200 := by
      unfold mw at hal
      rw [if_pos (Or.inr e4)] at hal
      omega
    obtain ⟨a, ha, ea⟩ := (hc.1.2.2.1 d hd).2.1 (by rw [e4]; decide)
    refine ⟨_, _, ?_, ?_, hW.up (n_wd (std A o c lw v k a + A (2 + 9 * o k + 3) d)) (adr A o c lw k d), fun q hq => fm_up_q _ hq, fun q hq => fm_up_q _ hq⟩
    · conv => lhs; unfold fn_Img_writeModule_9
      rw [vi_t hb.1 hHM, if_neg (nI_ge hd (by omega)), vi_t rfl (c_adr h hf hbs hk hc hd), vi_t hb.1 hK, if_neg e3, if_pos e4, vi_t hb.1 (hF A' hf), ea, vi_t rfl (hst a ha A' hf (fun _ _ => rfl)), r63_3, vi_t hb.1 hS, bi_t (show fn_SL_toWord _ _ = ri _ _ from rfl), sI_t (N := 200) rfl rfl had, nI_1]
    · unfold fn_Ref_write
      rw [r78_4, ld_t (N := 120) rfl rfl hi, s2, vi_t rfl s3, r78_4, ld_t (N := 120) rfl rfl hi, s2, vi_t rfl s4, s5, r78_1, ld_t (N := 120) rfl rfl hi, kq, if_neg e3, r78_1, ld_t (N := 120) rfl rfl hi, kq, if_pos e4, r78_16, r78_2, ld_t (N := 120) rfl rfl hi, aq, ea, vi_t rfl (r_stands h hdb hv hk hc ha), r78_3, ld_t (N := 120) rfl rfl hi, bq, sI_t (N := 200) rfl rfl had]
  by_cases e6 : A (2 + 9 * o k + 1) d = 6
  rotate_left
  · refine ⟨A', B, ?_, ?_, hW, fun _ _ => rfl, fun _ _ => rfl⟩
    · conv => lhs; unfold fn_Img_writeModule_9
      rw [vi_t hb.1 hHM, if_neg (nI_ge hd (by omega)), vi_t rfl (c_adr h hf hbs hk hc hd), vi_t hb.1 hK, if_neg e3, if_neg e4, if_neg e6, nI_1]
    · unfold fn_Ref_write
      rw [r78_4, ld_t (N := 120) rfl rfl hi, s2, vi_t rfl s3, r78_4, ld_t (N := 120) rfl rfl hi, s2, vi_t rfl s4, s5, r78_1, ld_t (N := 120) rfl rfl hi, kq, if_neg e3, r78_1, ld_t (N := 120) rfl rfl hi, kq, if_neg e4, r78_1, ld_t (N := 120) rfl rfl hi, kq, if_neg e6]
      unfold fn_Ref_write_158
      rw [r78_1, ld_t (N := 120) rfl rfl hi, kq, if_neg e6]
  obtain ⟨a, ha, ea⟩ := (hc.1.2.2.1 d hd).2.1 (by rw [e6]; decide)
  obtain ⟨sc, hsc, esc⟩ := (hc.1.2.2.1 d hd).2.2.2.2.2.2.2 e6
  have hsm := hc.same d hd
  by_cases eg : A (2 + 9 * o k + 6) d = 0
  · have had : adr A o c lw k d < 200 := by
      unfold mw at hal
      rw [if_neg (fun q => q.elim e3 e4), if_neg (by rw [e6]; decide), if_pos e6, if_pos eg] at hal
      omega
    have eg' : B 84 (20 * o k + d) = 0 := Classical.byContradiction fun q => (hsm.mp q) eg
    obtain ⟨x, x1, x2⟩ := w_dist hf h6 hc hd e6 eg
    rw [if_pos eg] at hL
    refine ⟨_, _, ?_, ?_, hW.up (n_jw hsc x) (adr A o c lw k d), fun q hq => fm_up_q _ hq, fun q hq => fm_up_q _ hq⟩
    · have hJ : fn_Img_writeJump 63 (nI (o k)) (nI d) (nI (adr A o c lw k d)) A' = rv (fm_up A' 71 (adr A o c lw k d) ((36864 + 256 * nI sc) + (x &&& 255))) := by
        unfold fn_Img_writeJump
        rw [r63_0, la_t hq rfl, vi_t hb.1 hS, esc, vi_t hb.1 hL, if_pos rfl, r63_3, vi_t hb.1 x1, sI_t (N := 200) rfl rfl had]
      conv => lhs; unfold fn_Img_writeModule_9
      rw [vi_t hb.1 hHM, if_neg (nI_ge hd (by omega)), vi_t rfl (c_adr h hf hbs hk hc hd), vi_t hb.1 hK, if_neg e3, if_neg e4, if_pos e6, vv_t rfl hJ, nI_1]
    · unfold fn_Ref_write
      rw [r78_4, ld_t (N := 120) rfl rfl hi, s2, vi_t rfl s3, r78_4, ld_t (N := 120) rfl rfl hi, s2, vi_t rfl s4, s5, r78_1, ld_t (N := 120) rfl rfl hi, kq, if_neg e3, r78_1, ld_t (N := 120) rfl rfl hi, kq, if_neg e4, r78_1, ld_t (N := 120) rfl rfl hi, kq, if_pos e6, r78_5, ld_t (N := 120) rfl rfl hi, if_pos eg']
      unfold fn_Ref_write_158
      rw [r78_1, ld_t (N := 120) rfl rfl hi, kq, if_pos e6, r78_16, r78_3, ld_t (N := 120) rfl rfl hi, bq, esc, vi_t rfl x2, sI_t (N := 200) rfl rfl had]
  · have had : adr A o c lw k d + 1 < 200 := by
      unfold mw at hal
      rw [if_neg (fun q => q.elim e3 e4), if_neg (by rw [e6]; decide), if_pos e6, if_neg eg] at hal
      omega
    have had0 : adr A o c lw k d < 200 := by omega
    have eg' : ¬ B 84 (20 * o k + d) = 0 := hsm.mpr eg
    rw [if_neg eg] at hL
    have hB1 : ∀ q, q ≠ 88 → fm_up B 88 (adr A o c lw k d) (32768 + 256 * nI sc) q = B q := fun q hq => fm_up_q _ hq
    refine ⟨_, _, ?_, ?_, (hW.up (n_jl hsc) (adr A o c lw k d)).up (std_wd h hw hT hv hk hc hd (Or.inr e6) ea ha) (adr A o c lw k d + 1), fun q hq => (fm_up_q _ hq).trans (fm_up_q _ hq), fun q hq => (fm_up_q _ hq).trans (fm_up_q _ hq)⟩
    · have hJ : fn_Img_writeJump 63 (nI (o k)) (nI d) (nI (adr A o c lw k d)) A' = rv (fm_up (fm_up A' 71 (adr A o c lw k d) (32768 + 256 * nI sc)) 71 (adr A o c lw k d + 1) (std A o c lw v k a)) := by
        unfold fn_Img_writeJump
        rw [r63_0, la_t hq rfl, vi_t hb.1 hS, esc, vi_t hb.1 hL, if_neg (by decide), r63_3, sI_t (N := 200) rfl rfl had0, r63_3, vi_t hb.1 (hF _ (hfu _ _)), ea, vi_t rfl (hst a ha _ (hfu _ _) (fun q hq => fm_up_q _ hq)), nI_1, sI_t (N := 200) rfl rfl had]
      conv => lhs; unfold fn_Img_writeModule_9
      rw [vi_t hb.1 hHM, if_neg (nI_ge hd (by omega)), vi_t rfl (c_adr h hf hbs hk hc hd), vi_t hb.1 hK, if_neg e3, if_neg e4, if_pos e6, vv_t rfl hJ, nI_1]
    · unfold fn_Ref_write
      rw [r78_4, ld_t (N := 120) rfl rfl hi, s2, vi_t rfl s3, r78_4, ld_t (N := 120) rfl rfl hi, s2, vi_t rfl s4, s5, r78_1, ld_t (N := 120) rfl rfl hi, kq, if_neg e3, r78_1, ld_t (N := 120) rfl rfl hi, kq, if_neg e4, r78_1, ld_t (N := 120) rfl rfl hi, kq, if_pos e6, r78_5, ld_t (N := 120) rfl rfl hi, if_neg eg', r78_16, r78_3, ld_t (N := 120) rfl rfl hi, bq, esc, sI_t (N := 200) rfl rfl had0, r78_16, r78_2, ld_t (N := 120) rfl rfl hi, hB1 81 (by decide), aq, ea, vi_t rfl (r_stands (h.cgB hB1) hdb hv hk (hc.cgB hB1) ha), nI_1, sI_t (N := 200) rfl rfl had]
end WS
