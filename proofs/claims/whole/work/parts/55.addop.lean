/-- the section that the next statement stands in -/
def nowv (A : fm_I) (b c : Nat) : Int32 := if c = 0 then 0 else A (b + 4) (c - 1)
abbrev secOK (k now : Int32) : Prop := (k = 6 → now = 0) ∧ (k = 3 ∨ k = 4 → now ≠ 2)
theorem c_now {A : fm_I} {b c : Nat} (hb : isMod b) (h : CM0 A b c) : fn_Mod_currentSection b A = ri (nowv A b c) A := by
  have hc := h.2.1
  unfold fn_Mod_currentSection nowv
  rw [mg8 hb, h.1]
  by_cases e : c = 0
  · subst e
    rw [if_pos (show nI 0 = 0 from rfl), if_pos rfl]
  · rw [if_neg (nI_ne0 (by omega) (by omega)), if_neg e, mr3 hb, mg8 hb, h.1]
    obtain ⟨d, rfl⟩ : ∃ d, c = d + 1 := ⟨c - 1, by omega⟩
    rw [nI_pred, ld_t (mn4 hb) rfl (by omega)]
    rfl
theorem c_may {A : fm_I} {b c : Nat} {k : Int32} (hb : isMod b) (h : CM0 A b c) : fn_Mod_mayStandInSection b k A = ri (zb (secOK k (nowv A b c))) A := by
  unfold fn_Mod_mayStandInSection
  have hn := c_now hb h
  generalize nowv A b c = now at hn
  by_cases e6 : k = 6
  · have i6 : secOK k now ↔ now = 0 := by
      subst e6
      exact ⟨fun q => q.1 rfl, fun q => ⟨fun _ => q, fun z => absurd z (by decide)⟩⟩
    rw [if_pos e6, vi_t hb.1 hn, zb_iff i6]
    by_cases e : now = 0
    · rw [if_pos e, rz_1, zb_t e]
    · rw [if_neg e, rz_0, zb_f e]
  rw [if_neg e6]
  have key : (k = 3 ∨ k = 4) → (if now = 2 then rz 0 A else rz 1 A) = ri (zb (secOK k now)) A := fun q => by
    have i3 : secOK k now ↔ now ≠ 2 := ⟨fun z => z.2 q, fun z => ⟨fun w => absurd w e6, fun _ => z⟩⟩
    by_cases e : now = 2
    · rw [if_pos e, rz_0, zb_f (fun z => (i3.mp z) e)]
    · rw [if_neg e, rz_1, zb_t (i3.mpr e)]
  by_cases e3 : k = 3
  · rw [if_pos e3, vi_t hb.1 hn]
    exact key (Or.inl e3)
  rw [if_neg e3]
  by_cases e4 : k = 4
  · rw [if_pos e4, vi_t hb.1 hn]
    exact key (Or.inr e4)
  rw [if_neg e4, rz_1, zb_t ⟨fun z => absurd z e6, fun z => z.elim (fun z => absurd z e3) (fun z => absurd z e4)⟩]
/-- the name is held by a statement already -/
def twc (A : fm_I) (b : Nat) (a : Int32) : Prop := ∃ n : Nat, n < 16 ∧ a = nI n ∧ (bt (A b 9) n = true ∨ bt (A b 10) n = true)
theorem c_twice {A : fm_I} {b : Nat} {k a : Int32} (hb : isMod b) (ha : hold7 k → ∃ n : Nat, n < 16 ∧ a = nI n) : (hold7 k ∧ twc A b a → fn_Mod_isSaidTwice b k a A = ri 1 A) ∧ (¬ (hold7 k ∧ twc A b a) → fn_Mod_isSaidTwice b k a A = ri 0 A) := by
  unfold fn_Mod_isSaidTwice
  by_cases hh : hold7 k
  · obtain ⟨n, hn, rfl⟩ := ha hh
    rw [bi_t (c_holds.1 hh), if_neg (by decide), mg9 hb, mg10 hb, bi_t (px_has hn)]
    have hbt : bt (A b 9 ||| A b 10) n = true ↔ twc A b (nI n) := by
      rw [b_or, Bool.or_eq_true]
      exact ⟨fun q => ⟨n, hn, rfl, q⟩, fun ⟨n', h1, h2, h3⟩ => by
        have := (nI_eq (by omega) (by omega)).mp h2
        subst this
        exact h3⟩
    by_cases ht : bt (A b 9 ||| A b 10) n = true
    · rw [zb_t ht, if_neg (by decide), rz_1]
      exact ⟨fun _ => rfl, fun q => absurd ⟨hh, hbt.mp ht⟩ q⟩
    · rw [zb_f ht, if_pos (by decide), rz_0]
      exact ⟨fun q => absurd (hbt.mpr q.2) ht, fun _ => rfl⟩
  · rw [bi_t (c_holds.2 hh), if_pos (by decide), rz_0]
    exact ⟨fun q => absurd q.1 hh, fun _ => rfl⟩
theorem r_117 {B : fm_I} {x k a y s now : Int32} : (secOK k now → fn_Ref_add_117 78 x k a y s now B = fn_Ref_add_146 78 x k a y s now B) ∧ (¬ secOK k now → fn_Ref_add_117 78 x k a y s now B = ri 0 B) := by
  unfold fn_Ref_add_117
  by_cases e3 : k = 3
  · subst e3
    rw [if_pos rfl, if_neg (show ¬ (3 : Int32) = 6 by decide)]
    by_cases e : now = 2
    · rw [if_pos e, rz_0]
      exact ⟨fun q => absurd e (q.2 (Or.inl rfl)), fun _ => rfl⟩
    · rw [if_neg e]
      exact ⟨fun _ => rfl, fun q => absurd ⟨fun z => absurd z (by decide), fun _ => e⟩ q⟩
  rw [if_neg e3]
  by_cases e4 : k = 4
  · subst e4
    rw [if_pos rfl, if_neg (show ¬ (4 : Int32) = 6 by decide)]
    by_cases e : now = 2
    · rw [if_pos e, rz_0]
      exact ⟨fun q => absurd e (q.2 (Or.inr rfl)), fun _ => rfl⟩
    · rw [if_neg e]
      exact ⟨fun _ => rfl, fun q => absurd ⟨fun z => absurd z (by decide), fun _ => e⟩ q⟩
  rw [if_neg e4]
  by_cases e6 : k = 6
  · rw [if_pos e6]
    by_cases e : now = 0
    · rw [if_pos e]
      exact ⟨fun _ => rfl, fun q => absurd ⟨fun _ => e, fun z => z.elim (fun z => absurd z e3) (fun z => absurd z e4)⟩ q⟩
    · rw [if_neg e, rz_0]
      exact ⟨fun q => absurd (q.1 e6) e, fun _ => rfl⟩
  · rw [if_neg e6]
    exact ⟨fun _ => rfl, fun q => absurd ⟨fun z => absurd z e6, fun z => z.elim (fun z => absurd z e3) (fun z => absurd z e4)⟩ q⟩
/-- the reference's search for a name held already -/
theorem r_67 {A B : fm_I} {m c : Nat} {k a y s now : Int32} (h : MRc A B m c) (ha : hold7 k → ∃ n : Nat, n < 16 ∧ a = nI n) : (hold7 k ∧ twc A (2 + 9 * m) a → fn_Ref_add_67 78 (nI m) k a y s now B = ri 0 B) ∧ (¬ (hold7 k ∧ twc A (2 + 9 * m) a) → fn_Ref_add_67 78 (nI m) k a y s now B = fn_Ref_add_117 78 (nI m) k a y s now B) := by
  obtain ⟨h1, h2, h3, h4, h5, h6, h7⟩ := id h
  have c67 : (hold7 k → fn_Ref_add_67 78 (nI m) k a y s now B = fn_Ref_add_90 78 (nI m) k a y s now 1 B) ∧ (¬ hold7 k → fn_Ref_add_67 78 (nI m) k a y s now B = fn_Ref_add_90 78 (nI m) k a y s now 0 B) := by
    unfold fn_Ref_add_67
    constructor
    · rintro (q | q | q)
      · rw [if_pos q]
      · rw [if_neg (by rw [q]; decide), if_neg (by rw [q]; decide), if_pos q]
      · rw [if_neg (by rw [q]; decide), if_pos q]
    · intro q
      rw [if_neg (fun z => q (Or.inl z)), if_neg (fun z => q (Or.inr (Or.inr z))), if_neg (fun z => q (Or.inr (Or.inl z)))]
  by_cases hh : hold7 k
  rotate_left
  · refine ⟨fun q => absurd q.1 hh, fun _ => ?_⟩
    rw [c67.2 hh]
    unfold fn_Ref_add_90
    rw [if_pos (by decide)]
  obtain ⟨n, hn, rfl⟩ := ha hh
  rw [c67.1 hh]
  unfold fn_Ref_add_90
  rw [if_neg (by decide), vi_t rfl (r_def h4), md_kg c h.kg]
  have hcf : mcf (sK B m) (sA B m) (nI n) c = none ↔ ¬ bt (A (2 + 9 * m) 10) n = true := by
    rw [h1.2.2.2.2.1 n (by omega)]
    constructor
    · rintro q ⟨j, j1, j2, j3⟩
      exact mcf_none q j j1 ⟨(h.kg j j1).1.trans j2, (h.kg j j1).2.1.trans j3⟩
    · intro q
      exact mcf_no (fun j hj z => q ⟨j, hj, (h.kg j hj).1.symm.trans z.1, (h.kg j hj).2.1.symm.trans z.2⟩)
  by_cases hd : bt (A (2 + 9 * m) 9) n = true
  · obtain ⟨d, d1, d2, d3, d4, d5⟩ := h1.def_ hn hd
    rw [d5, if_pos (show (0 : Int32) ≤ rd m (some d) from nI_pos' (by have := h1.2.1; have := h4.1; omega)), rz_0]
    exact ⟨fun _ => rfl, fun q => absurd ⟨hh, n, hn, rfl, Or.inl hd⟩ q⟩
  · rw [h1.undef hn hd, if_neg (show ¬ (0 : Int32) ≤ rd m none from (by decide : ¬ (0 : Int32) ≤ -1)), vi_t rfl (r_common h4)]
    cases hm : mcf (sK B m) (sA B m) (nI n) c with
    | none =>
      rw [if_pos (show rcm (sB B m) none ≤ 0 from (by decide : (0 : Int32) ≤ 0))]
      refine ⟨fun q => ?_, fun _ => rfl⟩
      obtain ⟨-, n', q1, q2, q3⟩ := q
      have := (nI_eq (by omega) (by omega)).mp q2
      subst this
      exact (q3.elim hd (hcf.mp hm)).elim
    | some d =>
      obtain ⟨d1, d2, d3⟩ := mcf_some hm
      have hB := (h1.2.2.1 d d1).2.2.2.1 ((h5 d d1).1.symm.trans d2)
      have hpos : ¬ rcm (sB B m) (some d) ≤ 0 := fun q => by
        have e : rcm (sB B m) (some d) = A (2 + 9 * m + 3) d := (h5 d d1).2.2.1
        rw [e] at q
        exact absurd (Int32.le_trans hB.1 q) (by decide)
      rw [if_neg hpos, rz_0]
      refine ⟨fun _ => rfl, fun q => absurd ⟨hh, n, hn, rfl, Or.inr (Classical.byContradiction fun z => ?_)⟩ q⟩
      rw [hcf.mpr z] at hm
      cases hm
theorem op_add {A B : fm_I} (h : ∀ m, m < 6 → MRl A B m) (x k a y : Int32) : ∃ v A' B', fn_SL_add 0 x k a y A = ri v A' ∧ fn_Ref_add 78 x k a y B = ri v B' ∧ (∀ m, m < 6 → MRl A' B' m) ∧ (∀ q, q < 2 ∨ 55 < q → A' q = A q) ∧ (∀ q, q < 79 ∨ 84 < q → B' q = B q) := by
  have hdec : Decidable (fitP k a y) := Classical.propDecidable _
  have hno : fn_SL_add 0 x k a y A = ri 0 A → fn_Ref_add 78 x k a y B = ri 0 B → ∃ v A' B', fn_SL_add 0 x k a y A = ri v A' ∧ fn_Ref_add 78 x k a y B = ri v B' ∧ (∀ m, m < 6 → MRl A' B' m) ∧ (∀ q, q < 2 ∨ 55 < q → A' q = A q) ∧ (∀ q, q < 79 ∨ 84 < q → B' q = B q) := fun e1 e2 => ⟨0, A, B, e1, e2, h, fun _ _ => rfl, fun _ _ => rfl⟩
  by_cases hx : mdl x
  rotate_left
  · apply hno
    · unfold fn_SL_add
      rw [bi_t (px_isModule x A), zb_f hx, if_pos (by decide), rz_0]
    · unfold fn_Ref_add
      rw [vi_t rfl ref_module, zb_f hx, if_pos (by decide), rz_0]
  obtain ⟨m, hm, rfl⟩ := mdl_n hx
  obtain ⟨hb, ha⟩ := isMod_m m hm
  obtain ⟨c, hc⟩ := h m hm
  obtain ⟨h1, h2, h3, h4, h5, h6, h7⟩ := id hc
  have hc20 := h1.2.1
  -- the class, once its module has said whether it accepts
  have hacc0 : fn_Mod_accepts (2 + 9 * m) k a y A = ri 0 A → fn_SL_add 0 (nI m) k a y A = ri 0 A := fun e => by
    unfold fn_SL_add
    rw [bi_t (px_isModule _ A), zb_t hx, if_neg (by decide), r0_0, la_t ha rfl, vi_t hb.1 e, if_pos (by decide), rz_0]
  have hacc1 : ∀ J, fn_Mod_accepts (2 + 9 * m) k a y A = ri 1 A → fn_Mod_append (2 + 9 * m) k a y A = rv J → fn_SL_add 0 (nI m) k a y A = ri 1 J := fun J e e2 => by
    unfold fn_SL_add
    rw [bi_t (px_isModule _ A), zb_t hx, if_neg (by decide), r0_0, la_t ha rfl, vi_t hb.1 e, if_neg (by decide), r0_0, la_t ha rfl, vv_t hb.1 e2, rz_1]
  by_cases hc2 : c < 20
  rotate_left
  · apply hno
    · apply hacc0
      unfold fn_Mod_accepts
      rw [mg8 hb, h1.1, if_pos (show (20 : Int32) ≤ nI c from nI_le (a := 20) (by omega) (by omega)), rz_0]
    · unfold fn_Ref_add
      rw [vi_t rfl ref_module, zb_t hx, if_neg (by decide), r78_0, ld_t (N := 6) rfl rfl hm, h4.2.2.1, if_pos (show (20 : Int32) ≤ nI c from nI_le (a := 20) (by omega) (by omega)), rz_0]
  have n20c : ¬ (20 : Int32) ≤ nI c := nI_ge (b := 20) hc2 (by decide)
  by_cases hf : fitP k a y
  rotate_left
  · apply hno
    · apply hacc0
      unfold fn_Mod_accepts
      rw [mg8 hb, h1.1, if_neg n20c, bi_t (c_fit k a y A), zb_f hf, if_pos (by decide), rz_0]
    · unfold fn_Ref_add
      rw [vi_t rfl ref_module, zb_t hx, if_neg (by decide), r78_0, ld_t (N := 6) rfl rfl hm, h4.2.2.1, if_neg n20c, vi_t rfl (r_fit k a y B), zb_f hf, if_pos (by decide), rz_0]
  -- the reference, up to the search
  have hnow : (if c = 0 then (0 : Int32) else sS B m (c - 1)) = nowv A (2 + 9 * m) c := by
    unfold nowv
    by_cases e : c = 0
    · rw [if_pos e, if_pos e]
    · rw [if_neg e, if_neg e]
      exact (h5 (c - 1) (by omega)).2.2.2
  have hr67 : fn_Ref_add 78 (nI m) k a y B = fn_Ref_add_67 78 (nI m) k a y (nI (20 * m + c)) (nowv A (2 + 9 * m) c) B := by
    unfold fn_Ref_add
    rw [vi_t rfl ref_module, zb_t hx, if_neg (by decide), r78_0, ld_t (N := 6) rfl rfl hm, h4.2.2.1, if_neg n20c, vi_t rfl (r_fit k a y B), zb_t hf, if_neg (by decide), r78_0, ld_t (N := 6) rfl rfl hm, h4.2.2.1, r78_0, ld_t (N := 6) rfl rfl hm, h4.2.2.1, n20, nI_add, ← hnow]
    by_cases e : c = 0
    · subst e
      rw [if_pos (show nI 0 = 0 from rfl), if_pos rfl]
    · rw [if_neg (nI_ne0 (by omega) (by omega)), if_neg e, r78_4]
      obtain ⟨d, rfl⟩ : ∃ d, c = d + 1 := ⟨c - 1, by omega⟩
      rw [show 20 * m + (d + 1) = (20 * m + d) + 1 from rfl, nI_pred, ld_t (N := 120) rfl rfl (by omega)]
      rfl
  have hna : hold7 k → ∃ n : Nat, n < 16 ∧ a = nI n := fun q => (fit_ok (s := 0) hf ⟨0, by decide, rfl⟩ (fun _ => rfl)).2.1 (by rcases q with q | q | q <;> rw [q] <;> decide)
  have hmay := c_may (k := k) hb h1
  obtain ⟨ct1, ct2⟩ := c_twice (A := A) (k := k) (a := a) hb hna
  obtain ⟨rt1, rt2⟩ := r_67 (y := y) (s := nI (20 * m + c)) (now := nowv A (2 + 9 * m) c) hc hna
  obtain ⟨rs1, rs2⟩ := r_117 (B := B) (x := nI m) (k := k) (a := a) (y := y) (s := nI (20 * m + c)) (now := nowv A (2 + 9 * m) c)
  have hacc : fn_Mod_accepts (2 + 9 * m) k a y A = (if secOK k (nowv A (2 + 9 * m) c) then vi 1 (2 + 9 * m) (fn_Mod_isSaidTwice (2 + 9 * m) k a A) (fun v7 J6 => if v7 = 0 then rz 1 J6 else rz 0 J6) else ri 0 A) := by
    unfold fn_Mod_accepts
    rw [mg8 hb, h1.1, if_neg n20c, bi_t (c_fit k a y A), zb_t hf, if_neg (by decide), vi_t hb.1 hmay]
    by_cases hs : secOK k (nowv A (2 + 9 * m) c)
    · rw [zb_t hs, if_neg (by decide), if_pos hs]
    · rw [zb_f hs, if_pos (by decide), if_neg hs, rz_0]
  by_cases hs : secOK k (nowv A (2 + 9 * m) c)
  rotate_left
  · apply hno
    · apply hacc0
      rw [hacc, if_neg hs]
    · rw [hr67]
      by_cases ht : hold7 k ∧ twc A (2 + 9 * m) a
      · exact rt1 ht
      · rw [rt2 ht]; exact rs2 hs
  by_cases ht : hold7 k ∧ twc A (2 + 9 * m) a
  · apply hno
    · apply hacc0
      rw [hacc, if_pos hs, vi_t hb.1 (ct1 ht), if_neg (by decide), rz_0]
    · rw [hr67]; exact rt1 ht
  have hac1 : fn_Mod_accepts (2 + 9 * m) k a y A = ri 1 A := by rw [hacc, if_pos hs, vi_t hb.1 (ct2 ht), if_pos (by decide), rz_1]
  -- both put it there
  have hnw3 : ∃ n : Nat, n < 3 ∧ nowv A (2 + 9 * m) c = nI n := by
    unfold nowv
    by_cases e : c = 0
    · rw [if_pos e]; exact ⟨0, by decide, rfl⟩
    · rw [if_neg e]; exact h1.S3 (c - 1) (by omega)
  have hsec : ∃ n : Nat, n < 3 ∧ (if k = 2 then a else nowv A (2 + 9 * m) c) = nI n := by
    by_cases e2 : k = 2
    · rw [if_pos e2]
      have h2f : 0 ≤ a ∧ a ≤ 2 := by
        have := hf
        unfold fitP at this
        rw [if_neg (by rw [e2]; decide), if_neg (by rw [e2]; decide), if_pos e2] at this
        exact this
      obtain ⟨j, hj, e⟩ := nI_of2 (x := a) (M := 2) (n := 2) (by decide) (fun z => Int32.not_le.mpr z h2f.1) h2f.2
      exact ⟨j, by omega, e⟩
    · rw [if_neg e2]; exact hnw3
  have hok : okS k a y (if k = 2 then a else nowv A (2 + 9 * m) c) := fit_ok hf hsec (fun e6 => by rw [if_neg (by rw [e6]; decide)]; exact hs.1 e6)
  have htw : hold7 k → ∀ j, j < c → hold7 (A (2 + 9 * m + 1) j) → A (2 + 9 * m + 2) j ≠ a := fun hh j hj hj7 e => by
    obtain ⟨n, hn, en⟩ := hna hh
    apply ht
    refine ⟨hh, n, hn, en, ?_⟩
    rcases hj7 with q | q | q
    · exact Or.inl ((h1.2.2.2.1 n (by omega)).mpr ⟨j, hj, Or.inl q, e.trans en⟩)
    · exact Or.inl ((h1.2.2.2.1 n (by omega)).mpr ⟨j, hj, Or.inr q, e.trans en⟩)
    · exact Or.inr ((h1.2.2.2.2.1 n (by omega)).mpr ⟨j, hj, q, e.trans en⟩)
  obtain ⟨J, j1, j2, j3, j4, j5, j6, j7, j8, j9⟩ := c_append13 hb h1 hc2 hok htw
  have happ : fn_Mod_append (2 + 9 * m) k a y A = rv J := by
    unfold fn_Mod_append
    by_cases e2 : k = 2
    · rw [if_pos e2]
      rw [if_pos e2] at j1
      exact j1
    · rw [if_neg e2, vi_t hb.1 (c_now hb h1)]
      rw [if_neg e2] at j1
      exact j1
  obtain ⟨Z, z1, z2, z3, z4, z5, z6, z7, z8, z9⟩ := r_append (y := y) (now := nowv A (2 + 9 * m) c) h4 hc2 hok.2.2.1
  refine ⟨1, J, Z, hacc1 J hac1 happ, ?_, fun m' hm' => ?_, fun q hq => j9 q (by omega), z9⟩
  · rw [hr67, rt2 ht, rs1 hs]; exact z1
  · by_cases e : m' = m
    · subst e
      refine ⟨c + 1, j2, j3, j4, z2, fun i hi => ?_, z3, z4⟩
      show Z 80 (20 * m' + i) = _ ∧ Z 81 (20 * m' + i) = _ ∧ Z 82 (20 * m' + i) = _ ∧ Z 83 (20 * m' + i) = _
      obtain ⟨q1, q2, q3, q4⟩ := z5 i
      rw [q1, q2, q3, q4, j5, j6, j7, j8]
      by_cases ei : i = c
      · subst ei
        rw [pk_us, pk_us, pk_us, pk_us, pk_us, pk_us, pk_us, pk_us]
        exact ⟨rfl, rfl, rfl, rfl⟩
      · rw [pk_un ei, pk_un ei, pk_un ei, pk_un ei, pk_un ei, pk_un ei, pk_un ei, pk_un ei]
        exact h5 i (by omega)
    · obtain ⟨c', hc'⟩ := h m' hm'
      have hc'20 := hc'.1.2.1
      refine ⟨c', hc'.cg (fun q q1 q2 => j9 q (by omega)) (z6 m' e) (fun i hi => ?_)⟩
      obtain ⟨q1, q2, q3, q4⟩ := z7 (20 * m' + i) (by omega)
      exact ⟨q1, q2, q3, q4, z8 _ (fun j hj => by omega)⟩
