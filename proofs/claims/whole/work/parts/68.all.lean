section WA
variable {A : fm_I} {o : Nat → Nat} {c : Nat} {lw : Nat → Nat → Nat} {want : Int32}
theorem w_mod (hdb : ∀ a, a < 16 → ∀ i j, i < j → j < c → ¬ (exB A (o i) a ∧ exB A (o j) a)) (hw : ∀ a, a < 16 → ¬ wnt A o c want a) (hT : ss_ lw o c 3 ≤ 200) {v : Nat → Int32} (hv : VS A o c lw c v) {k cm : Nat} (hk : k < c) (K : Nat → Int32 → fm_I → pR) : ∀ (n d : Nat) (A' B : fm_I), LB A B o c lw → MRc A B (o k) cm → FRI A A' → (∀ s k, s < 3 → k < c → A' (65 + o k) s = nI (ss_ lw o c s + sl_ lw o s k)) → A' 73 = v → WR A' B → d ≤ cm → cm < n + d → ∃ A'' B'', fn_Img_writeModule_9 n 63 (nI (o k)) (2 + 9 * o k) (nI d) A' = rv A'' ∧ fn_Ref_layOut_44 K n 78 (nI k) (nI (o k)) (nI (20 * o k + d)) B = K 78 (nI (k + 1)) B'' ∧ WR A'' B'' ∧ (∀ q, q ≠ 71 → A'' q = A' q) ∧ (∀ q, q ≠ 88 → B'' q = B q)
  | 0, d, A', B, _, _, _, _, _, _, h1, h2 => by omega
  | n + 1, d, A', B, h, hc, hf, hbs, h73, hW, h1, h2 => by
    have h6 := (h.2.1.2.2.2.1 k hk).1
    obtain ⟨hb, hq⟩ := isMod_m (o k) h6
    have hc20 := hc.1.2.1
    by_cases hd : d = cm
    · subst hd
      have hHM : fn_Mod_howMany (2 + 9 * o k) A' = ri (nI d) A' := by
        unfold fn_Mod_howMany
        rw [mg8 hb, hf _ (by omega), hc.1.1]
      refine ⟨A', B, ?_, ?_, hW, fun _ _ => rfl, fun _ _ => rfl⟩
      · unfold fn_Img_writeModule_9
        rw [vi_t hb.1 hHM, if_pos (nI_le (Nat.le_refl _) (by omega))]
      · unfold fn_Ref_layOut_44
        rw [r78_0, ld_t (N := 6) rfl rfl h6, hc.2.2.2.1.2.2.1, n20, nI_add, if_pos (nI_le (Nat.le_refl _) (by omega)), nI_1]
    · have hd' : d < cm := by omega
      obtain ⟨A1, B1, e1, e2, e3, e4, e5⟩ := w_step h hdb hw hT hv hk hc hd' hf hbs h73 hW n
      obtain ⟨A2, B2, f1, f2, f3, f4, f5⟩ := w_mod hdb hw hT hv hk K n (d + 1) A1 B1 (h.cgB e5) (hc.cgB e5) (hf.tr (fun q hq => e4 q (by omega))) (fun s k' hs hk' => by
        have h6 := (h.2.1.2.2.2.1 k' hk').1
        rw [e4 _ (by omega)]; exact hbs s k' hs hk') ((e4 73 (by decide)).trans h73) e3 (by omega) (by omega)
      refine ⟨A2, B2, e1.trans f1, ?_, f3, fun q hq => (f4 q hq).trans (e4 q hq), fun q hq => (f5 q hq).trans (e5 q hq)⟩
      unfold fn_Ref_layOut_44
      rw [r78_0, ld_t (N := 6) rfl rfl h6, hc.2.2.2.1.2.2.1, n20, nI_add, if_neg (nI_ge (show 20 * o k + d < 20 * o k + cm by omega) (by omega)), vv_t rfl e2, nI_1]
      exact f2
theorem w_all (hdb : ∀ a, a < 16 → ∀ i j, i < j → j < c → ¬ (exB A (o i) a ∧ exB A (o j) a)) (hw : ∀ a, a < 16 → ¬ wnt A o c want a) (hT : ss_ lw o c 3 ≤ 200) {v : Nat → Int32} (hv : VS A o c lw c v) (hwant : want = -1 ∨ ∃ w, w < 16 ∧ want = nI w) : ∀ (n k : Nat) (A' B : fm_I), LB A B o c lw → FRI A A' → (∀ s k, s < 3 → k < c → A' (65 + o k) s = nI (ss_ lw o c s + sl_ lw o s k)) → A' 73 = v → WR A' B → k ≤ c → c < n + k → ∃ A'' B'', fn_Img_build_57 n 63 want (nI k) A' = ri 1 (fm_up (fm_up (fm_up A'' 63 7 (if want = -1 then 0 else v want.toNatClampNeg)) 63 8 1) 63 9 0) ∧ fn_Ref_layOut_24 n 78 (nI k) B = fn_Ref_layOut_79 FU 78 0 B'' ∧ WR A'' B'' ∧ (∀ q, q ≠ 71 → A'' q = A' q) ∧ (∀ q, q ≠ 88 → B'' q = B q)
  | 0, k, A', B, _, _, _, _, _, h1, h2 => by omega
  | n + 1, k, A', B, h, hf, hbs, h73, hW, h1, h2 => by
    have hla := h.la.fr hf
    have hc6 := h.2.1.2.2.1
    have h11 : B 78 11 = nI c := h.2.1.2.1
    by_cases hk : k = c
    · subst hk
      refine ⟨A', B, ?_, ?_, hW, fun _ _ => rfl, fun _ _ => rfl⟩
      · unfold fn_Img_build_57
        rw [r63_1, vi_t rfl (c_hmI hla), if_pos (nI_le (Nat.le_refl _) (by omega))]
        rcases hwant with e | ⟨w, hw1, e⟩
        · rw [if_pos e, if_pos e, p63_7, p63_8_1, p63_9_0, rz_1]
        · have hne : ¬ nI w = -1 := fun q => by
            have := congrArg Int32.toInt q
            rw [nI_toInt (by omega)] at this
            have h3 : (-1 : Int32).toInt = -1 := by decide
            omega
          subst e
          rw [if_neg hne, if_neg hne, r63_5, ld_t (N := 16) rfl rfl hw1, p63_7, p63_8_1, p63_9_0, rz_1, h73, nI_clamp (by omega)]
      · unfold fn_Ref_layOut_24
        rw [g78_11, h11, if_pos (nI_le (Nat.le_refl _) (by omega))]
    · have hk' : k < c := by omega
      obtain ⟨h6, -, ob⟩ := h.2.1.2.2.2.1 k hk'
      obtain ⟨hb, hq⟩ := isMod_m (o k) h6
      obtain ⟨cm, hc⟩ := h.1 (o k) h6
      have hc20 := hc.1.2.1
      obtain ⟨A1, B1, e1, e2, e3, e4, e5⟩ := w_mod hdb hw hT hv hk' (fun a0 a1 I => fn_Ref_layOut_24 n a0 a1 I) FU 0 A' B h hc hf hbs h73 hW (Nat.zero_le _) (by have := fu_ge; omega)
      obtain ⟨A2, B2, f1, f2, f3, f4, f5⟩ := w_all hdb hw hT hv hwant n (k + 1) A1 B1 (h.cgB e5) (hf.tr (fun q hq => e4 q (by omega))) (fun s k' hs hk' => by
        have h6 := (h.2.1.2.2.2.1 k' hk').1
        rw [e4 _ (by omega)]; exact hbs s k' hs hk') ((e4 73 (by decide)).trans h73) e3 (by omega) (by omega)
      have hwm : fn_Img_writeModule 63 (nI (o k)) A' = rv A1 := by
        unfold fn_Img_writeModule
        rw [r63_0, la_t hq rfl]
        exact e1
      refine ⟨A2, B2, ?_, ?_, f3, fun q hq => (f4 q hq).trans (e4 q hq), fun q hq => (f5 q hq).trans (e5 q hq)⟩
      · unfold fn_Img_build_57
        rw [r63_1, vi_t rfl (c_hmI hla), if_neg (nI_ge hk' (by omega)), r63_1, vi_t rfl (c_maI hla hk'), vv_t rfl hwm, nI_1]
        exact f1
      · unfold fn_Ref_layOut_24
        rw [g78_11, h11, if_neg (nI_ge hk' (by omega)), r78_12, ld_t (N := 6) rfl rfl (by omega), ob, n20]
        exact e2.trans f2
end WA
