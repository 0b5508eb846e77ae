section OL
variable {A B : fm_I}
theorem op_link (hR : RIv A B) (hM : ∀ m, m < 6 → MRl A B m) (hK : LK A B) (hI : IR A B) (hMI : MI A B) (x : Int32) : ∃ v A' B', fn_SL_link 0 x A = ri v A' ∧ fn_Ref_link 78 x B = ri v B' ∧ LK A' B' ∧ IR A' B' ∧ MI A' B' ∧ (∀ q, q < 56 ∨ (58 < q ∧ q < 63) ∨ 74 < q → A' q = A q) ∧ (∀ q, q ≠ 78 → q ≠ 87 → q ≠ 88 → q ≠ 89 → q ≠ 90 → B' q = B q) ∧ B' 78 6 = B 78 6 ∧ B' 78 8 = B 78 8 := by
  by_cases hx : wok x
  rotate_left
  · exact ⟨-1, A, B, (lk_no (A := A) (B := B) hx).1, (lk_no (A := A) (B := B) hx).2, hK, hI, hMI, fun _ _ => rfl, fun _ _ _ _ _ _ => rfl, rfl, rfl⟩
  obtain ⟨A1, B1, ca, e, s1, s2, hLI, hLN, a63, a74, aq, b14, b21, bq, b6, b8⟩ := lk_begin hR hM hx
  have he8 : e ≤ 8 := hLN.2.2.1
  obtain ⟨A2, B2, o, c, t1, t2, ⟨hM2, hL2, hm2, h10, -, -⟩, hFA, hFB⟩ := b_line FU FU 0 A1 B1 (fun _ => 0) 0 hLI hLN (Nat.zero_le _) (by have := fu_ge; omega) (by have := fu_ge; omega)
  obtain ⟨n2, z', x', u1, u2, u3⟩ := r_86 hM2 hL2 h10 FU 0 0 0 (Nat.zero_le _) (by have := fu_ge; omega) (Or.inr ⟨rfl, lt_0⟩) (fun a ha => by
    rw [b_0]
    exact ⟨fun z => (by cases z), fun z => absurd z.1 (by omega)⟩)
  have t1' : fn_Inc_goOver_42 FU 56 61 59 0 A1 = rv A2 := t1
  have t2' : fn_Ref_link_35 FU 78 0 B1 = pI 6 78 13 0 B2 (fun J2 => fn_Ref_link_86 FU 78 0 0 J2) := t2
  have u1' : fn_Ref_link_86 FU 78 0 0 (fm_up B2 78 13 0) = fn_Ref_link_86 (n2 + 1) 78 z' (nI 16) (fm_up B2 78 13 x') := u1
  rw [t2', p78_13, u1'] at s2
  have o6 : ∀ k, k < c → o k < 6 := fun k hk => (hL2.2.2.2.1 k hk).1
  have w16 : ∀ a, a < 32 → wnt A2 o c x a → a < 16 := fun a ha hw => by
    rcases hw.1 with q | ⟨k, k1, k2⟩
    · rcases hx with z | ⟨w, w1, z⟩
      · rw [z] at q
        have := congrArg Int32.toInt q
        rw [nI_toInt (by omega)] at this
        have h3 : (-1 : Int32).toInt = -1 := by decide
        omega
      · have := (nI_eq (by omega) (by omega)).mp (z.symm.trans q)
        omega
    · obtain ⟨cm, hc⟩ := hM2 (o k) (o6 k k1)
      exact rf16 hc.1 ha k2
  have hmask : x' = (A2 56 2 &&& (A2 56 3 ^^^ (-1))) &&& (A2 56 4 ^^^ (-1)) := b_ext (fun a ha => by
    have h1 := u3 a ha
    have h2 := c_wm hm2 ha
    have h3 : bt x' a = true ↔ bt ((A2 56 2 &&& (A2 56 3 ^^^ (-1))) &&& (A2 56 4 ^^^ (-1))) a = true := by
      rw [h1, h2]
      exact ⟨fun q => q.2, fun q => ⟨w16 a ha q, q⟩⟩
    exact Bool.eq_iff_iff.mpr h3)
  have hdbl : A2 56 5 = 0 ↔ z' = 0 := by
    rw [bt_ne0]
    rcases u2 with ⟨rfl, a, a1, a2⟩ | ⟨rfl, hz⟩
    · refine ⟨fun q => absurd (ec_1.mpr (fun i j hij hj z => q a (by omega) ((hm2.2.2.2 a (by omega)).mpr ⟨i, j, hij, hj, z⟩))) (by omega), fun q => absurd q (by decide)⟩
    · refine ⟨fun _ => rfl, fun _ a ha q => ?_⟩
      obtain ⟨i, j, hij, hj, z1, z2⟩ := (hm2.2.2.2 a ha).mp q
      obtain ⟨cm, hc⟩ := hM2 (o i) (o6 i (by omega))
      exact ec_1.mp (hz a (ex16 hc.1 ha z1.1)) i j hij hj ⟨z1, z2⟩
  have A2q : ∀ q, q ≠ 56 → q ≠ 57 → q ≠ 58 → q ≠ 63 → q ≠ 74 → A2 q = A q := fun q q1 q2 q3 q4 q5 => (hFA q q1 q2 q3).trans (aq q q1 q2 q4 q5)
  have a638 : A2 63 8 = 0 := by rw [hFA 63 (by decide) (by decide) (by decide)]; exact a63
  have fin : ∀ v A' B', fn_SL_link 0 x A = ri v A' → fn_Ref_link 78 x B = ri v B' → FRI A2 A' → (∀ q, q ≠ 78 → q ≠ 88 → q ≠ 89 → q ≠ 90 → B' q = B2 q) → (∀ j, j ≠ 13 → j ≠ 14 → j ≠ 15 → j ≠ 18 → j ≠ 20 → B' 78 j = B2 78 j) → B' 78 13 = x' → IR A' B' → ∃ v A' B', fn_SL_link 0 x A = ri v A' ∧ fn_Ref_link 78 x B = ri v B' ∧ LK A' B' ∧ IR A' B' ∧ MI A' B' ∧ (∀ q, q < 56 ∨ (58 < q ∧ q < 63) ∨ 74 < q → A' q = A q) ∧ (∀ q, q ≠ 78 → q ≠ 87 → q ≠ 88 → q ≠ 89 → q ≠ 90 → B' q = B q) ∧ B' 78 6 = B 78 6 ∧ B' 78 8 = B 78 8 := fun v A' B' v1 v2 hF hB hj h13 hIR => by
    have hB0 : ∀ q, q ≠ 78 → q ≠ 87 → q ≠ 88 → q ≠ 89 → q ≠ 90 → B' q = B q := fun q q1 q2 q3 q4 q5 => (hB q q1 q3 q4 q5).trans ((hFB.1 q q1 q2).trans (bq q q1))
    refine ⟨v, A', B', v1, v2, ⟨⟨c, hL2.2.2.1, ?_, ?_, fun j hj' => ?_⟩, ?_⟩, hIR, ⟨fun j hj' => ?_, Or.inr ⟨?_, ?_⟩⟩, fun q hq => ?_, hB0, ?_, ?_⟩
    · rw [hF 57 (by decide)]; exact hL2.1
    · rw [hj 11 (by decide) (by decide) (by decide) (by decide) (by decide)]; exact hL2.2.1
    · rw [hB 87 (by decide) (by decide) (by decide) (by decide), hF 58 (by decide), (hL2.2.2.2.1 j hj').2.1, (hL2.2.2.2.1 j hj').2.2]
    · rw [hF 56 (by decide), h13]; exact hmask
    · rw [hB0 92 (by decide) (by decide) (by decide) (by decide) (by decide), hF 77 (by decide), A2q 77 (by decide) (by decide) (by decide) (by decide) (by decide)]
      exact hMI.1 j hj'
    · rw [hF 74 (by decide), hFA 74 (by decide) (by decide) (by decide)]; exact a74
    · rw [hj 21 (by decide) (by decide) (by decide) (by decide) (by decide), hFB.2 21 (by decide)]; exact b21
    · rw [hF q (by omega)]
      exact A2q q (by omega) (by omega) (by omega) (by omega) (by omega)
    · rw [hj 6 (by decide) (by decide) (by decide) (by decide) (by decide), hFB.2 6 (by decide)]; exact b6
    · rw [hj 8 (by decide) (by decide) (by decide) (by decide) (by decide), hFB.2 8 (by decide)]; exact b8
  have f3q : ∀ q, q ≠ 78 → fm_up B2 78 13 x' q = B2 q := fun q hq => fm_up_q _ hq
  have f3j : ∀ j, j ≠ 13 → fm_up B2 78 13 x' 78 j = B2 78 j := fun j hj => fm_up_k _ _ hj
  have hIR0 : IR A2 (fm_up B2 78 13 x') := Or.inl ⟨a638, by rw [f3j 14 (by decide), hFB.2 14 (by decide)]; exact b14⟩
  rw [vv_t rfl t1', r0_3] at s1
  unfold fn_Ref_link_86 at s2
  rw [if_pos (show (16 : Int32) ≤ nI 16 by decide)] at s2
  by_cases ez : z' = 0
  rotate_left
  · rw [if_neg ez] at s2
    have hd : fn_Inc_hasDouble 56 A2 = ri 1 A2 := by
      unfold fn_Inc_hasDouble
      rw [g56_5, if_neg (fun q => ez (hdbl.mp q)), rz_1]
    rw [vi_t rfl hd, if_neg (by decide)] at s1
    exact fin (-2) A2 _ s1 s2 (FRI.rf A2) (fun q q1 _ _ _ => f3q q q1) (fun j j1 _ _ _ _ => f3j j j1) (fm_up_s _ _ _ _) hIR0
  rw [if_pos ez, g78_13, fm_up_s] at s2
  have hd : fn_Inc_hasDouble 56 A2 = ri 0 A2 := by
    unfold fn_Inc_hasDouble
    rw [g56_5, if_pos (hdbl.mpr ez), rz_0]
  rw [vi_t rfl hd, if_pos (by decide), r0_3, vi_t rfl c_wantedN, ← hmask] at s1
  by_cases ew : x' = 0
  rotate_left
  · rw [if_neg ew] at s1 s2
    exact fin (-3) A2 _ s1 s2 (FRI.rf A2) (fun q q1 _ _ _ => f3q q q1) (fun j j1 _ _ _ _ => f3j j j1) (fm_up_s _ _ _ _) hIR0
  rw [if_pos ew, r0_4] at s1
  rw [if_pos ew] at s2
  have hdb : ∀ a, a < 16 → ∀ i j, i < j → j < c → ¬ (exB A2 (o i) a ∧ exB A2 (o j) a) := fun a ha => by
    rcases u2 with ⟨rfl, -⟩ | ⟨-, hz⟩
    · exact absurd ez (by decide)
    · exact ec_1.mp (hz a ha)
  have hnw : ∀ a, a < 16 → ¬ wnt A2 o c x a := fun a ha q => by
    have := (u3 a (by omega)).mpr ⟨ha, q⟩
    rw [ew, b_0] at this
    cases this
  have hLB : LB A2 (fm_up B2 78 13 x') o c (fun m s => (A2 (2 + 9 * m + 7) s).toNatClampNeg) := by
    refine ⟨MRl.cgB hM2 (fun q q1 q2 => f3q q (by omega)), ?_, fun m s hm hs => ?_⟩
    · obtain ⟨l1, l2, l3, l4, l5⟩ := hL2
      refine ⟨l1, by rw [f3j 11 (by decide)]; exact l2, l3, fun k hk => ?_, l5⟩
      rw [f3q 87 (by decide)]
      exact l4 k hk
    · obtain ⟨cm, hc⟩ := hM2 m hm
      have hp := hc.2.1.2.2.1 s hs
      have hc20 := hc.1.2.1
      have b1 := mp_16 (S := A2 (2 + 9 * m + 4)) (g := A2 (2 + 9 * m + 6)) (s := nI s) cm (fun j hj => hc.1.A5 j hj)
      show A2 (2 + 9 * m + 7) s = nI (A2 (2 + 9 * m + 7) s).toNatClampNeg ∧ (A2 (2 + 9 * m + 7) s).toNatClampNeg ≤ 320
      rw [hp, nI_clamp (by omega)]
      exact ⟨rfl, by omega⟩
  generalize (fun m s => (A2 (2 + 9 * m + 7) s).toNatClampNeg) = lw at hLB
  have htot : nI (sl_ lw o 0 c + sl_ lw o 1 c + sl_ lw o 2 c + cbA A2 o c 16) = nI (ss_ lw o c 3 + cbA A2 o c 16) := by
    show nI (sl_ lw o 0 c + sl_ lw o 1 c + sl_ lw o 2 c + cbA A2 o c 16) = nI (0 + sl_ lw o 0 c + sl_ lw o 1 c + sl_ lw o 2 c + cbA A2 o c 16)
    rw [Nat.zero_add]
  rw [vi_t rfl (show fn_Ref_sum 78 0 _ = _ from r_sum hLB (s := 0) (by decide)), vi_t rfl (show fn_Ref_sum 78 1 _ = _ from r_sum hLB (s := 1) (by decide)), vi_t rfl (show fn_Ref_sum 78 2 _ = _ from r_sum hLB (s := 2) (by decide)), vi_t rfl (show fn_Ref_commonsBelow 78 16 _ = _ from r_cb hLB (b := 16) (Nat.le_refl _)), nI_add, nI_add, nI_add, htot, p78_18, g78_18, fm_up_s] at s2
  generalize hB4 : fm_up (fm_up B2 78 13 x') 78 18 (nI (ss_ lw o c 3 + cbA A2 o c 16)) = B4 at s2
  have f4q : ∀ q, q ≠ 78 → B4 q = B2 q := fun q hq => by rw [← hB4, fm_up_q _ hq, fm_up_q _ hq]
  have f4j : ∀ j, j ≠ 13 → j ≠ 18 → B4 78 j = B2 78 j := fun j j1 j2 => by rw [← hB4, fm_up_k _ _ j2, fm_up_k _ _ j1]
  have f4x : B4 78 13 = x' := by rw [← hB4, fm_up_k _ _ (by decide), fm_up_s]
  have hLB4 : LB A2 B4 o c lw := hLB.cgC (fun q q1 q2 => by rw [f4q q (by omega), f3q q (by omega)]) (by rw [f4j 11 (by decide) (by decide), f3j 11 (by decide)])
  obtain ⟨bl1, bl2⟩ := b_build hLB4 hm2 a638 hx (by rw [f4j 10 (by decide) (by decide)]; exact h10) hdb hnw (by rw [← hB4, fm_up_s])
  by_cases hT : ss_ lw o c 3 + cbA A2 o c 16 ≤ 200
  · obtain ⟨A3, B5, g1, g2, g3, g4, g5, g6, g7, g8⟩ := bl1 hT
    rw [if_pos (show nI (ss_ lw o c 3 + cbA A2 o c 16) ≤ 200 from nI_le (b := 200) hT (by decide)), vv_t rfl g2] at s2
    rw [vi_t rfl g1, if_neg (by decide)] at s1
    exact fin 0 A3 B5 s1 s2 g3 (fun q q1 q2 q3 q4 => (g7 q q1 q2 q3 q4).trans (f4q q q1)) (fun j j1 j2 j3 j4 j5 => (g8 j j2 j3 j5).trans (f4j j j1 j4)) ((g8 13 (by decide) (by decide) (by decide)).trans f4x) (Or.inr ⟨g4, g5, g6⟩)
  · obtain ⟨A3, g1, g3, g4⟩ := bl2 (by omega)
    have hbig : ss_ lw o c 3 + cbA A2 o c 16 < 2147483648 := by
      have hcb := cbA_le hLB4 16 (Nat.le_refl _)
      have hss := ss_big hLB4
      omega
    rw [if_neg (show ¬ nI (ss_ lw o c 3 + cbA A2 o c 16) ≤ 200 from nI_ge (a := 200) (by omega) (by omega))] at s2
    rw [vi_t rfl g1, if_pos (by decide)] at s1
    exact fin (-4) A3 B4 s1 s2 g3 (fun q q1 _ _ _ => f4q q q1) (fun j j1 _ _ j4 _ => f4j j j1 j4) f4x (Or.inl ⟨g4, by rw [f4j 14 (by decide) (by decide), hFB.2 14 (by decide)]; exact b14⟩)
theorem op_included (h : LK A B) (x : Int32) : ∃ v, fn_SL_included 0 x A = ri v A ∧ fn_Ref_included 78 x B = ri v B := by
  obtain ⟨⟨c, c6, h1, h2, h3⟩, -⟩ := h
  have hc : fn_SL_included 0 x A = ri (if 0 ≤ x ∧ x.toInt < c then A 58 x.toNatClampNeg else -1) A := by
    unfold fn_SL_included fn_Inc_moduleAt
    rw [r0_3, r56_1, vi_t rfl (row_at isRow_57 h1 c6), vi_t rfl rfl]
  refine ⟨_, hc, ?_⟩
  unfold fn_Ref_included
  rcases pk_ix x (n := c) (by omega) with q | q | ⟨k, hk, rfl⟩
  · rw [if_pos q, if_neg (fun z => Int32.not_le.mpr q z.1)]
  · have y0 : ¬ x < 0 := fun z => by
      have a1 := Int32.lt_iff_toInt_lt.mp z
      have a2 := Int32.le_iff_toInt_le.mp q
      rw [nI_toInt (by omega)] at a2
      have a3 : (0 : Int32).toInt = 0 := by decide
      omega
    have y1 : ¬ x.toInt < c := fun z => by
      have a2 := Int32.le_iff_toInt_le.mp q
      rw [nI_toInt (by omega)] at a2
      omega
    rw [if_neg y0, g78_11, h2, if_pos q, if_neg (fun z => y1 z.2)]
  · rw [if_neg (nI_pos (by omega)), g78_11, h2, if_neg (nI_ge hk (by omega)), r78_12, ld_t (N := 6) rfl rfl (by omega), if_pos ⟨nI_pos' (by omega), by rw [nI_toInt (by omega)]; omega⟩, nI_clamp (by omega), h3 k hk]
theorem op_missing (h : LK A B) : ∃ v, fn_SL_missing 0 A = ri v A ∧ fn_Ref_missing 78 B = ri v B := by
  refine ⟨B 78 13, ?_, ?_⟩
  · unfold fn_SL_missing
    rw [r0_3, vi_t rfl c_wantedN, h.2]
  · unfold fn_Ref_missing
    rw [g78_13]
end OL
