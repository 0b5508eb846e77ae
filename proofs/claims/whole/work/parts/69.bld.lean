section BL
variable {A : fm_I} {o : Nat → Nat} {c : Nat} {lw : Nat → Nat → Nat} {want : Int32}
theorem LB.cgC {B B' : fm_I} (h : LB A B o c lw) (hB : ∀ q, 79 ≤ q → q ≤ 87 → B' q = B q) (h11 : B' 78 11 = B 78 11) : LB A B' o c lw := by
  obtain ⟨h1, ⟨l1, l2, l3, l4, l5⟩, h3⟩ := h
  exact ⟨MRl.cgB h1 (fun q q1 q2 => hB q q1 (by omega)), ⟨l1, h11.trans l2, l3, fun k hk => by rw [hB 87 (by decide) (by decide)]; exact l4 k hk, l5⟩, h3⟩
theorem want_ne {w : Nat} (h : w < 16) : ¬ nI w = -1 := fun q => by
  have := congrArg Int32.toInt q
  rw [nI_toInt (by omega)] at this
  have h3 : (-1 : Int32).toInt = -1 := by decide
  omega
theorem r_79 (hdb : ∀ a, a < 16 → ∀ i j, i < j → j < c → ¬ (exB A (o i) a ∧ exB A (o j) a)) {v : Nat → Int32} (hv : VS A o c lw c v) (hwant : want = -1 ∨ ∃ w, w < 16 ∧ want = nI w) : ∀ (n a : Nat) (B : fm_I), LB A B o c lw → B 78 10 = want → (∀ j, j < a → B 90 j = v j) → a ≤ 16 → 16 < n + a → ∃ B'', fn_Ref_layOut_79 n 78 (nI a) B = rv B'' ∧ (∀ j, j < 16 → B'' 90 j = v j) ∧ B'' 89 0 = nI (sl_ lw o 0 c) ∧ B'' 89 1 = nI (sl_ lw o 1 c) ∧ B'' 89 2 = B 78 18 - nI (sl_ lw o 0 c) - nI (sl_ lw o 1 c) ∧ B'' 78 20 = (if want = -1 then 0 else v want.toNatClampNeg) ∧ B'' 78 14 = 1 ∧ B'' 78 15 = 0 ∧ (∀ q, q ≠ 78 → q ≠ 89 → q ≠ 90 → B'' q = B q) ∧ (∀ j, j ≠ 14 → j ≠ 15 → j ≠ 20 → B'' 78 j = B 78 j)
  | 0, a, B, _, _, _, h1, h2 => by omega
  | n + 1, a, B, h, h10, h3, h1, h2 => by
    unfold fn_Ref_layOut_79
    by_cases ha : a = 16
    · subst ha
      have hB1 : LB A (fm_up B 89 0 (nI (sl_ lw o 0 c))) o c lw := h.cgC (fun q q1 q2 => fm_up_q _ (by omega)) (fm_up_p _ _ _ (by decide))
      rw [if_pos (show (16 : Int32) ≤ nI 16 by decide), r78_17, vi_t rfl (show fn_Ref_sum 78 0 B = _ from r_sum h (s := 0) (by decide)), sI_t (N := 3) (j := 0) rfl (by decide) (by decide), r78_17, vi_t rfl (show fn_Ref_sum 78 1 _ = _ from r_sum hB1 (s := 1) (by decide)), sI_t (N := 3) (j := 1) rfl (by decide) (by decide), r78_17, g78_18, r78_17, ld_t (N := 3) (j := 0) rfl (by decide) (by decide), r78_17, ld_t (N := 3) (j := 1) rfl (by decide) (by decide), sI_t (N := 3) (j := 2) rfl (by decide) (by decide), g78_10]
      generalize hT : fm_up (fm_up (fm_up B 89 0 (nI (sl_ lw o 0 c))) 89 1 (nI (sl_ lw o 1 c))) 89 2 _ = T
      have t0 : T 89 0 = nI (sl_ lw o 0 c) := by rw [← hT, fm_up_k _ _ (by decide), fm_up_k _ _ (by decide), fm_up_s]
      have t1 : T 89 1 = nI (sl_ lw o 1 c) := by rw [← hT, fm_up_k _ _ (by decide), fm_up_s]
      have t2 : T 89 2 = B 78 18 - nI (sl_ lw o 0 c) - nI (sl_ lw o 1 c) := by rw [← hT, fm_up_s, fm_up_p _ _ _ (by decide), fm_up_p _ _ _ (by decide), fm_up_k _ _ (by decide), fm_up_s, fm_up_s]
      have tq : ∀ q, q ≠ 89 → T q = B q := fun q hq => by rw [← hT, fm_up_q _ hq, fm_up_q _ hq, fm_up_q _ hq]
      rw [tq 78 (by decide), h10]
      have fin : ∀ e : Int32, e = (if want = -1 then 0 else v want.toNatClampNeg) → ∃ B'', rv (fm_up (fm_up (fm_up T 78 20 e) 78 14 1) 78 15 0) = rv B'' ∧ (∀ j, j < 16 → B'' 90 j = v j) ∧ B'' 89 0 = nI (sl_ lw o 0 c) ∧ B'' 89 1 = nI (sl_ lw o 1 c) ∧ B'' 89 2 = B 78 18 - nI (sl_ lw o 0 c) - nI (sl_ lw o 1 c) ∧ B'' 78 20 = (if want = -1 then 0 else v want.toNatClampNeg) ∧ B'' 78 14 = 1 ∧ B'' 78 15 = 0 ∧ (∀ q, q ≠ 78 → q ≠ 89 → q ≠ 90 → B'' q = B q) ∧ (∀ j, j ≠ 14 → j ≠ 15 → j ≠ 20 → B'' 78 j = B 78 j) := fun e he => by
        have uq : ∀ q, q ≠ 78 → fm_up (fm_up (fm_up T 78 20 e) 78 14 1) 78 15 0 q = T q := fun q hq => by rw [fm_up_q _ hq, fm_up_q _ hq, fm_up_q _ hq]
        refine ⟨_, rfl, fun j hj => ?_, ?_, ?_, ?_, ?_, ?_, fm_up_s _ _ _ _, fun q q1 q2 q3 => (uq q q1).trans (tq q q2), fun j j1 j2 j3 => ?_⟩
        · rw [uq 90 (by decide), tq 90 (by decide)]; exact h3 j hj
        · rw [uq 89 (by decide)]; exact t0
        · rw [uq 89 (by decide)]; exact t1
        · rw [uq 89 (by decide)]; exact t2
        · rw [fm_up_k _ _ (by decide), fm_up_k _ _ (by decide), fm_up_s]; exact he
        · rw [fm_up_k _ _ (by decide), fm_up_s]
        · rw [fm_up_k _ _ j2, fm_up_k _ _ j1, fm_up_k _ _ j3, tq 78 (by decide)]
      rcases hwant with e | ⟨w, hw1, e⟩
      · rw [if_neg (show ¬ (0 : Int32) ≤ want by rw [e]; decide), p78_20, p78_14_1, p78_15_0]
        exact fin 0 (by rw [if_pos e])
      · subst e
        rw [if_pos (nI_pos' (by omega)), r78_19, g78_10, tq 78 (by decide), h10, ld_t (N := 16) rfl rfl hw1, tq 90 (by decide), h3 w hw1, p78_20, p78_14_1, p78_15_0]
        exact fin (v w) (by rw [if_neg (want_ne hw1), nI_clamp (by omega)])
    · have ha' : a < 16 := by omega
      obtain ⟨y, hy, hV⟩ := r_outside h ha'
      have ey := VAL.uniq (hdb a ha') hV (hv a ha')
      subst ey
      rw [if_neg (show ¬ (16 : Int32) ≤ nI a from nI_ge (b := 16) ha' (by decide)), r78_19, vi_t rfl hy, sI_t (N := 16) rfl rfl ha', nI_1]
      obtain ⟨B2, e1, e2, e3, e4, e5, e6, e7, e8, e9, e10⟩ := r_79 hdb hv hwant n (a + 1) (fm_up B 90 a (v a)) (h.cgC (fun q q1 q2 => fm_up_q _ (by omega)) (fm_up_p _ _ _ (by decide))) (by rw [fm_up_p _ _ _ (by decide)]; exact h10) (fun j hj => by
        by_cases e : j = a
        · subst e; rw [fm_up_s]
        · rw [fm_up_k _ _ e]; exact h3 j (by omega)) (by omega) (by omega)
      refine ⟨B2, e1, e2, e3, e4, ?_, e6, e7, e8, fun q q1 q2 q3 => (e9 q q1 q2 q3).trans (fm_up_q _ q3), fun j j1 j2 j3 => ?_⟩
      · rw [e5, fm_up_p _ _ _ (by decide)]
      · rw [e10 j j1 j2 j3, fm_up_p _ _ _ (by decide)]
theorem ss_big {B : fm_I} (h : LB A B o c lw) : ss_ lw o c 3 ≤ 5760 := by
  have hb : ∀ s, s < 3 → ∀ k, k ≤ c → sl_ lw o s k ≤ 320 * k := fun s hs k => by
    induction k with
    | zero => exact fun _ => Nat.le_refl _
    | succ k ih =>
      intro hk
      have := ih (by omega)
      have := (h.2.2 (o k) s (h.2.1.2.2.2.1 k (by omega)).1 hs).2
      show sl_ lw o s k + lw (o k) s ≤ _
      omega
  have b0 := hb 0 (by decide) c (Nat.le_refl _)
  have b1 := hb 1 (by decide) c (Nat.le_refl _)
  have b2 := hb 2 (by decide) c (Nat.le_refl _)
  have hc6 := h.2.1.2.2.1
  show 0 + sl_ lw o 0 c + sl_ lw o 1 c + sl_ lw o 2 c ≤ _
  omega
theorem b_build {B : fm_I} (h : LB A B o c lw) (hm : LM A o c want) (h8 : A 63 8 = 0) (hwant : want = -1 ∨ ∃ w, w < 16 ∧ want = nI w) (h10 : B 78 10 = want) (hdb : ∀ a, a < 16 → ∀ i j, i < j → j < c → ¬ (exB A (o i) a ∧ exB A (o j) a)) (hw : ∀ a, a < 16 → ¬ wnt A o c want a) (h18 : B 78 18 = nI (ss_ lw o c 3 + cbA A o c 16)) : (ss_ lw o c 3 + cbA A o c 16 ≤ 200 → ∃ A'' B'', fn_Img_build 63 want A = ri 1 A'' ∧ fn_Ref_layOut 78 B = rv B'' ∧ FRI A A'' ∧ A'' 63 8 = 1 ∧ B'' 78 14 = 1 ∧ IX A'' B'' ∧ (∀ q, q ≠ 78 → q ≠ 88 → q ≠ 89 → q ≠ 90 → B'' q = B q) ∧ (∀ j, j ≠ 14 → j ≠ 15 → j ≠ 20 → B'' 78 j = B 78 j)) ∧ (200 < ss_ lw o c 3 + cbA A o c 16 → ∃ A'', fn_Img_build 63 want A = ri 0 A'' ∧ FRI A A'' ∧ A'' 63 8 = 0) := by
  obtain ⟨A1, A2, e1, e2, hf2, t6, z0, z1, z2, hbs, hv0, h82⟩ := c_layout h hm h8
  have hcb := cbA_le h 16 (Nat.le_refl _)
  have hss := ss_big h
  have hbd : fn_Img_build 63 want A = (if nI (ss_ lw o c 3 + cbA A o c 16) ≤ 200 then (fn_Img_build_22 FU 63 want 0 A2) else (rz 0 A2)) := by
    unfold fn_Img_build
    rw [vv_t rfl e1, vv_t rfl e2, g63_6, t6]
  refine ⟨fun hT => ?_, fun hT => ?_⟩
  rotate_left
  · rw [if_neg (show ¬ nI (ss_ lw o c 3 + cbA A o c 16) ≤ 200 from nI_ge (a := 200) hT (by omega)), rz_0] at hbd
    exact ⟨A2, hbd, hf2, h82⟩
  · rw [if_pos (show nI (ss_ lw o c 3 + cbA A o c 16) ≤ 200 from nI_le (b := 200) hT (by decide))] at hbd
    obtain ⟨A3, f1, f2, hv⟩ := c_b22 h want FU 0 A2 hf2 hbs hv0 (Nat.zero_le _) (by have := h.2.1.2.2.1; have := fu_ge; omega)
    obtain ⟨A4, g1, g2, g3⟩ := c_zero FU 0 A3 (Nat.zero_le _) (by have := fu_ge; omega) lt_0
    obtain ⟨B1, k1, k2, k3⟩ := r_zero FU 0 B (Nat.zero_le _) (by have := fu_ge; omega) lt_0
    have hmz : fn_Img_makeWordsZero 63 A3 = rv A4 := g1
    rw [vv_t rfl hmz] at f1
    obtain ⟨A5, B5, m1, m2, m3, m4, m5⟩ := w_all (want := want) hdb hw (by omega) hv hwant FU 0 A4 B1 (h.cgB k2) ((hf2.tr (fun q hq => f2 q (by omega))).tr (fun q hq => g2 q (by omega))) (fun s k hs hk => by
      have h6 := (h.2.1.2.2.2.1 k hk).1
      rw [g2 _ (by omega), f2 _ (by omega)]; exact hbs s k hs hk) (g2 73 (by decide)) (fun i hi => by rw [g3 i hi, k3 i hi]; exact ⟨rfl, wd_0⟩) (Nat.zero_le _) (by have := h.2.1.2.2.1; have := fu_ge; omega)
    have hB5 : ∀ q, q ≠ 88 → B5 q = B q := fun q hq => (m5 q hq).trans (k2 q hq)
    obtain ⟨B6, p1, p2, p3, p4, p5, p6, p7, p8, p9, p10⟩ := r_79 hdb hv hwant FU 0 B5 (h.cgB hB5) (by rw [hB5 78 (by decide)]; exact h10) lt_0 (Nat.zero_le _) (by have := fu_ge; omega)
    have hA5 : ∀ q, q ≠ 71 → q ≠ 73 → A5 q = A2 q := fun q q1 q2 => (m4 q q1).trans ((g2 q q1).trans (f2 q q2))
    have uq : ∀ q, q ≠ 63 → fm_up (fm_up (fm_up A5 63 7 (if want = -1 then 0 else A3 73 want.toNatClampNeg)) 63 8 1) 63 9 0 q = A5 q := fun q hq => by rw [fm_up_q _ hq, fm_up_q _ hq, fm_up_q _ hq]
    refine ⟨_, B6, hbd.trans (f1.trans m1), (k1.trans m2).trans p1, fun q hq => ?_, ?_, p7, ?_, fun q q1 q2 q3 q4 => (p9 q q1 q3 q4).trans (hB5 q q2), fun j j1 j2 j3 => by rw [p10 j j1 j2 j3, hB5 78 (by decide)]⟩
    · rw [uq q (by omega), hA5 q (by omega) (by omega)]; exact hf2 q hq
    · rw [fm_up_k _ _ (by decide), fm_up_s]
    · refine ⟨_, hT, ?_, ?_, fun j hj => ?_, fun j hj => ?_, fun j hj => ?_, ?_, ?_, ?_, ?_⟩
      · rw [fm_up_k _ _ (by decide), fm_up_k _ _ (by decide), fm_up_k _ _ (by decide), hA5 63 (by decide) (by decide)]; exact t6
      · rw [p10 18 (by decide) (by decide) (by decide), hB5 78 (by decide)]; exact h18
      · rw [uq 72 (by decide), hA5 72 (by decide) (by decide)]
        match j, hj with
        | 0, _ => rw [p3, z0]
        | 1, _ => rw [p4, z1]
        | 2, _ =>
          rw [p5, z2, hB5 78 (by decide), h18]
          have hs3 : ss_ lw o c 3 = 0 + sl_ lw o 0 c + sl_ lw o 1 c + sl_ lw o 2 c := rfl
          rw [pk_sub (by omega), pk_sub (by omega)]
          exact congrArg nI (by omega)
      · rw [uq 71 (by decide), p9 88 (by decide) (by decide) (by decide)]
        exact m3 j hj
      · rw [uq 73 (by decide), p2 j hj, m4 73 (by decide), g2 73 (by decide)]
      · rw [p6, fm_up_k _ _ (by decide), fm_up_k _ _ (by decide), fm_up_s]
      · rw [fm_up_k _ _ (by decide), fm_up_k _ _ (by decide), fm_up_s]
        rcases hwant with e | ⟨w, hw1, e⟩
        · rw [if_pos e]; exact wd_0
        · subst e
          rw [if_neg (want_ne hw1), nI_clamp (by omega)]
          refine v_wd h (by omega) hv hw1 ?_
          by_cases e : ∃ k, k < c ∧ exB A (o k) w
          · exact Or.inl e
          · right
            have hlg := (lg_in h.1 (fun j hj => (h.2.1.2.2.2.1 j hj).1) hw1 c (Nat.le_refl _)).2
            have e0 : ec A o w c = 0 := ec_0.mpr (fun j hj z => e ⟨j, hj, z⟩)
            exact ⟨e0, fun z => hw w hw1 ⟨Or.inl rfl, ec_0.mp e0, hlg.mp z⟩⟩
      · rw [fm_up_s]; exact p8
      · rw [fm_up_s]; exact Or.inl rfl
end BL
