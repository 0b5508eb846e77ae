/-- what the last link left to ask for -/
def LK (A B : fm_I) : Prop := (∃ c, c ≤ 6 ∧ A 57 1 = nI c ∧ B 78 11 = nI c ∧ ∀ j, j < c → B 87 j = A 58 j) ∧ B 78 13 = (A 56 2 &&& (A 56 3 ^^^ (-1))) &&& (A 56 4 ^^^ (-1))
def wok (x : Int32) : Prop := x = -1 ∨ ∃ w, w < 16 ∧ x = nI w
theorem wok_in {x : Int32} (h : ¬ wok x) : ¬ (0 ≤ x ∧ x ≤ 15) := fun q => by
  obtain ⟨j, hj, e⟩ := nI_of2 (x := x) (M := 15) (n := 15) (by decide) (fun z => Int32.not_le.mpr z q.1) q.2
  exact h (Or.inr ⟨j, by omega, e⟩)
theorem rf16 {A : fm_I} {m c' a : Nat} (h : CM0 A (2 + 9 * m) c') (ha : a < 32) (hb : rfB A m a) : a < 16 := by
  have key : ∃ k, k < c' ∧ (A (2 + 9 * m + 1) k = 1 ∨ A (2 + 9 * m + 1) k = 4 ∨ A (2 + 9 * m + 1) k = 6) ∧ A (2 + 9 * m + 2) k = nI a := by
    rcases hb.1 with q | q
    · obtain ⟨k, k1, k2, k3⟩ := (h.2.2.2.2.2.1 a ha).mp q
      exact ⟨k, k1, Or.inl k2, k3⟩
    · obtain ⟨k, k1, k2, k3⟩ := (h.2.2.2.2.2.2.1 a ha).mp q
      exact ⟨k, k1, Or.inr k2, k3⟩
  obtain ⟨k, k1, k2, k3⟩ := key
  obtain ⟨n, n1, n2⟩ := (h.2.2.1 k k1).2.1 (by rcases k2 with q | q | q <;> rw [q] <;> decide)
  have := (nI_eq (by omega) (by omega)).mp (k3.symm.trans n2)
  omega
section LK
variable {A B : fm_I}
theorem lk_no {x : Int32} (h : ¬ wok x) : fn_SL_link 0 x A = ri (-1) A ∧ fn_Ref_link 78 x B = ri (-1) B := by
  have hx : ¬ x = -1 := fun q => h (Or.inl q)
  constructor
  · unfold fn_SL_link
    rw [if_neg hx, bi_t (px_isName x A), zb_f (wok_in h), if_pos (by decide)]
  · unfold fn_Ref_link
    by_cases e : x < -1
    · rw [if_pos e]
    · rw [if_neg e, if_neg (fun q => wok_in h ⟨?_, q⟩)]
      have e1 : ¬ x.toInt < -1 := fun z => e (Int32.lt_iff_toInt_lt.mpr z)
      have e2 : x.toInt ≠ -1 := fun z => hx (Int32.toInt_inj.mp z)
      exact Int32.le_iff_toInt_le.mpr (by
        have : (0 : Int32).toInt = 0 := by decide
        omega)
/-- where both sides stand before the line is gone over -/
theorem lk_begin (hR : RIv A B) (hM : ∀ m, m < 6 → MRl A B m) {x : Int32} (h : wok x) : ∃ A1 B1 ca e, fn_SL_link 0 x A = vv 2 56 (fn_Inc_goOver_42 FU 56 61 59 0 A1) (fun J8 => gr 0 0 3 (fun v9 => vi 2 v9 (fn_Inc_hasDouble v9 J8) (fun v11 J10 => (if v11 = 0 then gr 0 0 3 (fun v12 => vi 2 v12 (fn_Inc_wantedNames v12 J10) (fun v14 J13 => (if v14 = 0 then gr 0 0 4 (fun v15 => vi 4 v15 (fn_Img_build v15 x J13) (fun v17 J16 => (if v17 = 0 then (ri (-4) J16) else (ri 0 J16)))) else (ri (-3) J13)))) else (ri (-2) J10))))) ∧ fn_Ref_link 78 x B = fn_Ref_link_35 FU 78 0 B1 ∧ LI A1 B1 (fun _ => 0) 0 x ca 0 ∧ LN A1 B1 e ca ∧ A1 63 8 = 0 ∧ A1 74 12 = 0 ∧ (∀ q, q ≠ 56 → q ≠ 57 → q ≠ 63 → q ≠ 74 → A1 q = A q) ∧ B1 78 14 = 0 ∧ B1 78 21 = 0 ∧ (∀ q, q ≠ 78 → B1 q = B q) ∧ B1 78 6 = B 78 6 ∧ B1 78 8 = B 78 8 := by
  obtain ⟨ca, e, c6, e8, r1, r2, r3, r4, r5, r6, r7, r8, r9⟩ := hR
  have hR2 : fn_Ref_link 78 x B = fn_Ref_link_35 FU 78 0 (fm_up (fm_up (fm_up (fm_up B 78 14 0) 78 21 0) 78 10 x) 78 11 0) := by
    unfold fn_Ref_link
    have h1 : ¬ x < -1 ∧ x ≤ 15 := by
      rcases h with q | ⟨w, w1, q⟩
      · rw [q]; decide
      · rw [q]
        refine ⟨fun z => ?_, nI_le (b := 15) (by omega) (by decide)⟩
        have a1 := Int32.lt_iff_toInt_lt.mp z
        rw [nI_toInt (by omega)] at a1
        have a3 : (-1 : Int32).toInt = -1 := by decide
        omega
    rw [if_neg h1.1, if_pos h1.2, p78_14_0, p78_21_0, p78_10, p78_11]
  have hS : ∃ y : Int32, fn_SL_link 0 x A = vv 2 56 (fn_Inc_goOver_42 FU 56 61 59 0 (fm_up (fm_up (fm_up (fm_up (fm_up (fm_up (fm_up A 63 8 0) 74 12 0) 57 1 0) 56 2 y) 56 3 0) 56 4 0) 56 5 0)) (fun J8 => gr 0 0 3 (fun v9 => vi 2 v9 (fn_Inc_hasDouble v9 J8) (fun v11 J10 => (if v11 = 0 then gr 0 0 3 (fun v12 => vi 2 v12 (fn_Inc_wantedNames v12 J10) (fun v14 J13 => (if v14 = 0 then gr 0 0 4 (fun v15 => vi 4 v15 (fn_Img_build v15 x J13) (fun v17 J16 => (if v17 = 0 then (ri (-4) J16) else (ri 0 J16)))) else (ri (-3) J13)))) else (ri (-2) J10))))) ∧ ∀ a, a < 32 → (bt y a = true ↔ x = nI a) := by
    have t1 : fn_Img_throwAway 63 A = rv (fm_up A 63 8 0) := by
      unfold fn_Img_throwAway
      rw [p63_8_0]
    have t2 : fn_Mac_throwAway 74 (fm_up A 63 8 0) = rv (fm_up (fm_up A 63 8 0) 74 12 0) := by
      unfold fn_Mac_throwAway
      rw [p74_12_0]
    have t3 : fn_Row_makeEmpty 57 (fm_up (fm_up A 63 8 0) 74 12 0) = rv (fm_up (fm_up (fm_up A 63 8 0) 74 12 0) 57 1 0) := by
      unfold fn_Row_makeEmpty
      rw [pI_t rfl]
    rcases h with q | ⟨w, w1, q⟩
    · refine ⟨0, ?_, fun a ha => ?_⟩
      · unfold fn_SL_link
        rw [if_pos q]
        unfold fn_SL_link_14
        rw [r0_4, vv_t rfl t1, r0_5, vv_t rfl t2, r0_3, r0_2, r0_1]
        unfold fn_Inc_goOver
        rw [r56_1, vv_t rfl t3, if_pos q, p56_2, p56_3, p56_4, p56_5]
      · rw [b_0, q]
        refine ⟨fun z => (by cases z), fun z => ?_⟩
        have := congrArg Int32.toInt z
        rw [nI_toInt (by omega)] at this
        have h3 : (-1 : Int32).toInt = -1 := by decide
        omega
    · refine ⟨(1 : Int32) <<< (nI w &&& 31), ?_, fun a ha => ?_⟩
      · have hn : ¬ x = -1 := by rw [q]; exact want_ne w1
        unfold fn_SL_link
        rw [if_neg hn, bi_t (px_isName x A), zb_t ⟨by rw [q]; exact nI_pos' (by omega), by rw [q]; exact nI_le (b := 15) (by omega) (by decide)⟩, if_neg (by decide)]
        unfold fn_SL_link_14
        rw [r0_4, vv_t rfl t1, r0_5, vv_t rfl t2, r0_3, r0_2, r0_1]
        unfold fn_Inc_goOver
        rw [r56_1, vv_t rfl t3, if_neg hn, bi_t (show fn_SL_setOf x _ = ri ((1 : Int32) <<< (nI w &&& 31)) _ by rw [q]; exact px_setOf), p56_2, p56_3, p56_4, p56_5]
      · rw [bt_set (by omega) ha, decide_eq_true_eq, q]
        exact ⟨fun z => by rw [z], fun z => ((nI_eq (by omega) (by omega)).mp z).symm⟩
  obtain ⟨y, hS, hy⟩ := hS
  generalize hA1 : fm_up (fm_up (fm_up (fm_up (fm_up (fm_up (fm_up A 63 8 0) 74 12 0) 57 1 0) 56 2 y) 56 3 0) 56 4 0) 56 5 0 = A1 at hS
  generalize hB1 : fm_up (fm_up (fm_up (fm_up B 78 14 0) 78 21 0) 78 10 x) 78 11 0 = B1 at hR2
  have a2 : A1 56 2 = y := by rw [← hA1, fm_up_k _ _ (by decide), fm_up_k _ _ (by decide), fm_up_k _ _ (by decide), fm_up_s]
  have a3 : A1 56 3 = 0 := by rw [← hA1, fm_up_k _ _ (by decide), fm_up_k _ _ (by decide), fm_up_s]
  have a4 : A1 56 4 = 0 := by rw [← hA1, fm_up_k _ _ (by decide), fm_up_s]
  have a5 : A1 56 5 = 0 := by rw [← hA1, fm_up_s]
  have u56 : ∀ q, q ≠ 56 → A1 q = fm_up (fm_up (fm_up A 63 8 0) 74 12 0) 57 1 0 q := fun q hq => by rw [← hA1, fm_up_q _ hq, fm_up_q _ hq, fm_up_q _ hq, fm_up_q _ hq]
  have a57 : A1 57 1 = 0 := by rw [u56 57 (by decide), fm_up_s]
  have a63 : A1 63 8 = 0 := by rw [u56 63 (by decide), fm_up_p _ _ _ (by decide), fm_up_p _ _ _ (by decide), fm_up_s]
  have a74 : A1 74 12 = 0 := by rw [u56 74 (by decide), fm_up_p _ _ _ (by decide), fm_up_s]
  have aq : ∀ q, q ≠ 56 → q ≠ 57 → q ≠ 63 → q ≠ 74 → A1 q = A q := fun q q1 q2 q3 q4 => by rw [u56 q q1, fm_up_q _ q2, fm_up_q _ q4, fm_up_q _ q3]
  have b11 : B1 78 11 = 0 := by rw [← hB1, fm_up_s]
  have b10 : B1 78 10 = x := by rw [← hB1, fm_up_k _ _ (by decide), fm_up_s]
  have b21 : B1 78 21 = 0 := by rw [← hB1, fm_up_k _ _ (by decide), fm_up_k _ _ (by decide), fm_up_s]
  have b14 : B1 78 14 = 0 := by rw [← hB1, fm_up_k _ _ (by decide), fm_up_k _ _ (by decide), fm_up_k _ _ (by decide), fm_up_s]
  have bo : ∀ j, j ≠ 10 → j ≠ 11 → j ≠ 14 → j ≠ 21 → B1 78 j = B 78 j := fun j j1 j2 j3 j4 => by rw [← hB1, fm_up_k _ _ j2, fm_up_k _ _ j1, fm_up_k _ _ j4, fm_up_k _ _ j3]
  have bq : ∀ q, q ≠ 78 → B1 q = B q := fun q hq => by rw [← hB1, fm_up_q _ hq, fm_up_q _ hq, fm_up_q _ hq, fm_up_q _ hq]
  have b6 := bo 6 (by decide) (by decide) (by decide) (by decide)
  have b8 := bo 8 (by decide) (by decide) (by decide) (by decide)
  refine ⟨A1, B1, ca, e, hS, hR2, ⟨fun m hm => ?_, ⟨a57, b11, by omega, fun k hk => absurd hk (by omega), fun i j hi => absurd hi (by omega)⟩, ⟨fun a ha => ?_, fun a ha => ?_, fun a ha => ?_, fun a ha => ?_⟩, b10, ?_, fun j hj => absurd hj (by omega)⟩, ?_, a63, a74, aq, b14, b21, bq, b6, b8⟩
  · obtain ⟨cm, hc⟩ := hM m hm
    refine ⟨cm, hc.cg (fun q q1 q2 => aq q (by omega) (by omega) (by omega) (by omega)) (by rw [bq 79 (by decide)]) (fun k _ => ?_)⟩
    rw [bq 80 (by decide), bq 81 (by decide), bq 82 (by decide), bq 83 (by decide), bq 84 (by decide)]
    exact ⟨rfl, rfl, rfl, rfl, rfl⟩
  · rw [a2, hy a ha]
    exact ⟨Or.inl, fun z => z.elim id (fun ⟨k, hk, _⟩ => absurd hk (by omega))⟩
  · rw [a3, b_0]
    exact ⟨fun z => (by cases z), fun ⟨k, hk, _⟩ => absurd hk (by omega)⟩
  · rw [a4, b_0]
    exact ⟨fun z => (by cases z), fun ⟨k, hk, _⟩ => absurd hk (by omega)⟩
  · rw [a5, b_0]
    exact ⟨fun z => (by cases z), fun ⟨i, j, _, hk, _⟩ => absurd hk (by omega)⟩
  · rw [aq 59 (by decide) (by decide) (by decide) (by decide), aq 60 (by decide) (by decide) (by decide) (by decide), b6, bq 85 (by decide)]
    exact ⟨r1, r2, c6, r5⟩
  · unfold LN
    rw [aq 61 (by decide) (by decide) (by decide) (by decide), aq 62 (by decide) (by decide) (by decide) (by decide), aq 60 (by decide) (by decide) (by decide) (by decide), b8, bq 86 (by decide)]
    exact ⟨r3, r4, e8, r6, r7, r8, r9⟩
end LK
