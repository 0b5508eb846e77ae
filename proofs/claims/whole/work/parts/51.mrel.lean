theorem RM0.cg {B J : fm_I} {m c : Nat} (h : RM0 B m c) (h1 : J 79 m = B 79 m) (h2 : J 80 = B 80) (h3 : J 81 = B 81) : RM0 J m c := by
  obtain ⟨a, b, c1, d⟩ := h
  refine ⟨a, b, h1.trans c1, fun k hk => ?_⟩
  show J 80 (20 * m + k) = 5 → 1 ≤ J 81 (20 * m + k) ∧ J 81 (20 * m + k) ≤ 16
  rw [h2, h3]
  exact d k hk
/-- long jumps of the reference's module -/
def RG0 (B : fm_I) (m c : Nat) : Prop := (∀ j, j < c → sG B m j = 0 ∨ sG B m j = 1) ∧ mlo c (sK B m) (sA B m) (sS B m) (sG B m)
section R3
variable {m c : Nat}
theorem r_set37 : ∀ (n k : Nat) (B : fm_I), RM0 B m c → RG0 B m c → k ≤ 21 → 21 < n + k → k ≤ cn (sG B m) c → ∃ J, fn_Ref_settle_37 n 78 (nI m) (nI (20 * m + c)) (nI k) B = rv J ∧ (∀ q, q ≠ 84 → J q = B q) ∧ (∀ i, (∀ j, j < c → i ≠ 20 * m + j) → J 84 i = B 84 i) ∧ RG0 J m c ∧ mcl c (sK J m) (sA J m) (sS J m) (sG J m)
  | 0, k, B, _, _, h1, h2, _ => by omega
  | n + 1, k, B, h, hg, h1, h2, h3 => by
    obtain ⟨hm, hc, h4, h5⟩ := id h
    unfold fn_Ref_settle_37
    have hle := cn_le (sG B m) c
    rw [if_neg (show ¬ (21 : Int32) ≤ nI k from nI_ge (b := 21) (by omega) (by decide)), n20]
    rcases r_set49 h (fun a0 a1 a2 a3 I => fn_Ref_settle_37 n a0 a1 a2 a3 I) (nI k) FU 0 (Nat.zero_le _) (by have := fu_ge; omega) lt_0 with ⟨j, hj, hn, e⟩ | ⟨hn, e⟩
    · rw [show (20 * m + 0) = 20 * m from rfl, nI_1] at e
      rw [e]
      have hK : sK (fm_up B 84 (20 * m + j) 1) m = sK B m := funext fun i => fm_up_p _ _ _ (by decide)
      have hA : sA (fm_up B 84 (20 * m + j) 1) m = sA B m := funext fun i => fm_up_p _ _ _ (by decide)
      have hS : sS (fm_up B 84 (20 * m + j) 1) m = sS B m := funext fun i => fm_up_p _ _ _ (by decide)
      have hG : ∀ i, sG (fm_up B 84 (20 * m + j) 1) m i = if i = j then 1 else sG B m i := fun i => by
        show fm_up B 84 (20 * m + j) 1 84 (20 * m + i) = _
        by_cases e : i = j
        · subst e; rw [fm_up_s, if_pos rfl]
        · rw [fm_up_k _ _ (by omega), if_neg e]
      have hg2 : RG0 (fm_up B 84 (20 * m + j) 1) m c := by
        refine ⟨fun i hi => ?_, ?_⟩
        · rw [hG i]
          split
          · exact Or.inr rfl
          · exact hg.1 i hi
        · rw [hK, hA, hS]
          refine mlo_add hg.2 (fun i hi hne => ?_)
          rw [hG i] at hne
          by_cases ei : i = j
          · subst ei; exact Or.inr hn.2.2
          · rw [if_neg ei] at hne; exact Or.inl hne
      have hcnt : cn (sG B m) c < cn (sG (fm_up B 84 (20 * m + j) 1) m) c := cn_lt c (fun i hi hne => by
          rw [hG i]
          split
          · decide
          · exact hne) ⟨j, hj, hn.2.1, by rw [hG j, if_pos rfl]; decide⟩
      obtain ⟨J, s1, s2, s3, s4, s5⟩ := r_set37 n (k + 1) (fm_up B 84 (20 * m + j) 1) (h.cg (fm_up_p _ _ _ (by decide)) (fm_up_q _ (by decide)) (fm_up_q _ (by decide))) hg2 (by omega) (by omega) (by omega)
      refine ⟨J, s1, fun q hq => (s2 q hq).trans (fm_up_q _ hq), fun i hi => ?_, s4, s5⟩
      rw [s3 i hi, fm_up_k _ _ (hi j hj)]
    · rw [show (20 * m + 0) = 20 * m from rfl] at e
      rw [e]
      exact ⟨B, rfl, fun _ _ => rfl, fun _ _ => rfl, hg, fun j hj hf q0 => hn j hj ⟨hf.1, q0, hf⟩⟩
theorem r_set17 : ∀ (n k : Nat) (B : fm_I), RM0 B m c → k ≤ c → c < n + k → (∀ j, j < k → sG B m j = 0) → ∃ J, fn_Ref_settle_17 n 78 (nI m) (nI (20 * m + c)) (nI (20 * m + k)) B = rv J ∧ (∀ q, q ≠ 84 → J q = B q) ∧ (∀ i, (∀ j, j < c → i ≠ 20 * m + j) → J 84 i = B 84 i) ∧ RG0 J m c ∧ mcl c (sK J m) (sA J m) (sS J m) (sG J m)
  | 0, k, B, _, h1, h2, _ => by omega
  | n + 1, k, B, h, h1, h2, h3 => by
    obtain ⟨hm, hc, h4, h5⟩ := id h
    unfold fn_Ref_settle_17
    by_cases hk : k = c
    · subst hk
      rw [if_pos (nI_le (Nat.le_refl _) (by omega))]
      exact r_set37 FU 0 B h ⟨fun j hj => Or.inl (h3 j hj), mlo_0 (fun j hj q => q (h3 j hj))⟩ (Nat.zero_le _) (by have := fu_ge; omega) (Nat.zero_le _)
    · rw [if_neg (nI_ge (show 20 * m + k < 20 * m + c by omega) (by omega)), r78_5, sZ_t (N := 120) rfl rfl (by omega), show vp_nar .boolean 0 = 0 by decide, nI_1]
      obtain ⟨J, s1, s2, s3, s4, s5⟩ := r_set17 n (k + 1) (fm_up B 84 (20 * m + k) 0) (h.cg (fm_up_p _ _ _ (by decide)) (fm_up_q _ (by decide)) (fm_up_q _ (by decide))) (by omega) (by omega) (fun j hj => by
        show fm_up B 84 (20 * m + k) 0 84 (20 * m + j) = 0
        by_cases e : j = k
        · subst e; rw [fm_up_s]
        · rw [fm_up_k _ _ (by omega)]; exact h3 j (by omega))
      refine ⟨J, s1, fun q hq => (s2 q hq).trans (fm_up_q _ hq), fun i hi => ?_, s4, s5⟩
      rw [s3 i hi, fm_up_k _ _ (hi k (by omega))]
theorem r_settle {B : fm_I} (h : RM0 B m c) : ∃ J, fn_Ref_settle 78 (nI m) B = rv J ∧ (∀ q, q ≠ 84 → J q = B q) ∧ (∀ i, (∀ j, j < c → i ≠ 20 * m + j) → J 84 i = B 84 i) ∧ RG0 J m c ∧ mcl c (sK J m) (sA J m) (sS J m) (sG J m) := by
  obtain ⟨hm, hc, h4, h5⟩ := id h
  unfold fn_Ref_settle
  rw [r78_0, ld_t (N := 6) rfl rfl hm, h4, n20, nI_add]
  exact r_set17 FU 0 B h (Nat.zero_le _) (by have := fu_ge; omega) lt_0
end R3
-- statements that agree
section KG
variable {K A S K' A' S' g : Nat → Int32} {c : Nat}
theorem mp_kg {s : Int32} : ∀ k, (∀ j, j < k → K j = K' j ∧ A j = A' j ∧ S j = S' j) → mp K A S g s k = mp K' A' S' g s k
  | 0, _ => rfl
  | k + 1, h => by
    obtain ⟨h1, h2, h3⟩ := h k (by omega)
    rw [mp_succ, mp_succ, mp_kg k (fun j hj => h j (by omega)), h3]
    unfold mw
    rw [h1, h2]
theorem md_kg {a : Int32} : ∀ c, (∀ j, j < c → K j = K' j ∧ A j = A' j ∧ S j = S' j) → md K A a c = md K' A' a c
  | 0, _ => rfl
  | c + 1, h => by
    obtain ⟨h1, h2, h3⟩ := h c (by omega)
    unfold md
    rw [md_kg c (fun j hj => h j (by omega)), h1, h2]
theorem mfar_kg (h : ∀ j, j < c → K j = K' j ∧ A j = A' j ∧ S j = S' j) {k : Nat} (hk : k < c) (hf : mfar c K A S g k) : mfar c K' A' S' g k := by
  obtain ⟨h1, h2, h3⟩ := h k hk
  refine ⟨h1 ▸ hf.1, fun d hd d0 ds => ?_⟩
  rw [← h2, ← md_kg c h] at hd
  have hdc := (md_some hd).1
  obtain ⟨q1, q2, q3⟩ := h d hdc
  have := hf.2 d hd (q1.trans d0) (q3.trans ds)
  rw [← mp_kg d (fun j hj => h j (by omega)), ← mp_kg k (fun j hj => h j (by omega))]
  exact this
theorem mcl_kg (h : ∀ j, j < c → K j = K' j ∧ A j = A' j ∧ S j = S' j) (h1 : mcl c K A S g) : mcl c K' A' S' g := fun k hk hf => h1 k hk (mfar_kg (fun j hj => ⟨(h j hj).1.symm, (h j hj).2.1.symm, (h j hj).2.2.symm⟩) hk hf)
theorem mlo_kg (h : ∀ j, j < c → K j = K' j ∧ A j = A' j ∧ S j = S' j) (h1 : mlo c K A S g) : mlo c K' A' S' g := fun g2 h2 k hk hg => h1 g2 (mcl_kg (fun j hj => ⟨(h j hj).1.symm, (h j hj).2.1.symm, (h j hj).2.2.symm⟩) h2) k hk hg
end KG
/-- module m on both sides, c statements -/
def MRc (A B : fm_I) (m c : Nat) : Prop := CM0 A (2 + 9 * m) c ∧ GD A (2 + 9 * m) c ∧ mcl c (A (2 + 9 * m + 1)) (A (2 + 9 * m + 2)) (A (2 + 9 * m + 4)) (A (2 + 9 * m + 6)) ∧ RM0 B m c ∧ (∀ k, k < c → sK B m k = A (2 + 9 * m + 1) k ∧ sA B m k = A (2 + 9 * m + 2) k ∧ sB B m k = A (2 + 9 * m + 3) k ∧ sS B m k = A (2 + 9 * m + 4) k) ∧ RG0 B m c ∧ mcl c (sK B m) (sA B m) (sS B m) (sG B m)
def MRl (A B : fm_I) (m : Nat) : Prop := ∃ c, MRc A B m c
theorem MRc.kg {A B : fm_I} {m c : Nat} (h : MRc A B m c) : ∀ j, j < c → sK B m j = A (2 + 9 * m + 1) j ∧ sA B m j = A (2 + 9 * m + 2) j ∧ sS B m j = A (2 + 9 * m + 4) j := fun j hj => ⟨(h.2.2.2.2.1 j hj).1, (h.2.2.2.2.1 j hj).2.1, (h.2.2.2.2.1 j hj).2.2.2⟩
theorem MRc.same {A B : fm_I} {m c : Nat} (h : MRc A B m c) : ∀ j, j < c → (sG B m j ≠ 0 ↔ A (2 + 9 * m + 6) j ≠ 0) := by
  obtain ⟨h1, h2, h3, h4, h5, h6, h7⟩ := id h
  exact m_same (mcl_kg h.kg h7) (mlo_kg h.kg h6.2) h3 h2.2.1
theorem MRc.mp {A B : fm_I} {m c : Nat} (h : MRc A B m c) {s : Int32} {k : Nat} (hk : k ≤ c) : mp (sK B m) (sA B m) (sS B m) (sG B m) s k = mp (A (2 + 9 * m + 1)) (A (2 + 9 * m + 2)) (A (2 + 9 * m + 4)) (A (2 + 9 * m + 6)) s k := by
  rw [mp_kg k (fun j hj => h.kg j (by omega)), mp_eq k (fun j hj => h.same j (by omega))]
theorem op_length {A B : fm_I} (h : ∀ m, m < 6 → MRl A B m) (x y : Int32) : ∃ v, fn_SL_length 0 x y A = ri v A ∧ fn_Ref_length 78 x y B = ri v B := by
  by_cases hx : mdl x
  rotate_left
  · refine ⟨-1, ?_, ?_⟩
    · unfold fn_SL_length
      rw [bi_t (px_isModule x A), zb_f hx, if_pos (by decide)]
    · unfold fn_Ref_length
      rw [vi_t rfl ref_module, zb_f hx, if_pos (by decide)]
  by_cases hy : 0 ≤ y ∧ y ≤ 2
  rotate_left
  · refine ⟨-1, ?_, ?_⟩
    · unfold fn_SL_length
      rw [bi_t (px_isModule x A), zb_t hx, if_neg (by decide), bi_t (px_isSection y A), zb_f hy, if_pos (by decide)]
    · unfold fn_Ref_length
      rw [vi_t rfl ref_module, zb_t hx, if_neg (by decide)]
      by_cases y0 : y < 0
      · rw [if_pos y0]
      · rw [if_neg y0, if_neg (fun q => hy ⟨Int32.not_lt.mp y0, q⟩)]
  obtain ⟨m, hm, rfl⟩ := mdl_n hx
  obtain ⟨s, hs, rfl⟩ := nI_of2 (x := y) (M := 2) (n := 2) (by decide) (fun q => Int32.not_le.mpr q hy.1) hy.2
  obtain ⟨hb, ha⟩ := isMod_m m hm
  obtain ⟨c, hc⟩ := h m hm
  obtain ⟨h1, h2, h3, h4, h5, h6, h7⟩ := id hc
  refine ⟨nI (mp (A (2 + 9 * m + 1)) (A (2 + 9 * m + 2)) (A (2 + 9 * m + 4)) (A (2 + 9 * m + 6)) (nI s) c), ?_, ?_⟩
  · have hw : fn_Mod_wordsIn (2 + 9 * m) (nI s) A = ri (nI (mp (A (2 + 9 * m + 1)) (A (2 + 9 * m + 2)) (A (2 + 9 * m + 4)) (A (2 + 9 * m + 6)) (nI s) c)) A := by
      unfold fn_Mod_wordsIn
      rw [mr6 hb, ld_t (mn7 hb) rfl (by omega), h2.2.2.1 s (by omega)]
    unfold fn_SL_length
    rw [bi_t (px_isModule _ A), zb_t hx, if_neg (by decide), bi_t (px_isSection _ A), zb_t hy, if_neg (by decide), r0_0, la_t ha rfl, vi_t hb.1 hw]
  · unfold fn_Ref_length
    rw [vi_t rfl ref_module, zb_t hx, if_neg (by decide), if_neg (nI_pos (by omega)), if_pos hy.2, r78_0, ld_t (N := 6) rfl rfl hm, h4.2.2.1, n20, nI_add, vi_t rfl (r_place h4 (Nat.le_refl c)), hc.mp (Nat.le_refl c)]
theorem op_isLong {A B : fm_I} (h : ∀ m, m < 6 → MRl A B m) (x y : Int32) : ∃ v, fn_SL_isLong 0 x y A = ri v A ∧ fn_Ref_isLong 78 x y B = ri v B := by
  by_cases hx : mdl x
  rotate_left
  · refine ⟨0, ?_, ?_⟩
    · unfold fn_SL_isLong
      rw [bi_t (px_isModule x A), zb_f hx, if_pos (by decide), rz_0]
    · unfold fn_Ref_isLong
      rw [vi_t rfl ref_module, zb_f hx, if_pos (by decide), rz_0]
  obtain ⟨m, hm, rfl⟩ := mdl_n hx
  obtain ⟨hb, ha⟩ := isMod_m m hm
  obtain ⟨c, hc⟩ := h m hm
  obtain ⟨h1, h2, h3, h4, h5, h6, h7⟩ := id hc
  have hc20 := h1.2.1
  have hcl : ∀ v, fn_Mod_isLongJump (2 + 9 * m) y A = ri v A → (v = 0 ∨ v = 1) → fn_SL_isLong 0 (nI m) y A = ri v A := fun v e hv => by
    unfold fn_SL_isLong
    rw [bi_t (px_isModule _ A), zb_t hx, if_neg (by decide), r0_0, la_t ha rfl, vi_t hb.1 e]
    rcases hv with rfl | rfl
    · rw [if_pos (by decide), rz_0]
    · rw [if_neg (by decide), rz_1]
  rcases pk_ix y (n := c) (by omega) with q | q | ⟨k, hk, rfl⟩
  · refine ⟨0, hcl 0 ?_ (Or.inl rfl), ?_⟩
    · unfold fn_Mod_isLongJump
      rw [if_pos q, rz_0]
    · unfold fn_Ref_isLong
      rw [vi_t rfl ref_module, zb_t hx, if_neg (by decide), if_pos q, rz_0]
  · have y0 : ¬ y < 0 := fun z => by
      have a1 := Int32.lt_iff_toInt_lt.mp z
      have a2 := Int32.le_iff_toInt_le.mp q
      rw [nI_toInt (by omega)] at a2
      have a3 : (0 : Int32).toInt = 0 := by decide
      omega
    refine ⟨0, hcl 0 ?_ (Or.inl rfl), ?_⟩
    · unfold fn_Mod_isLongJump
      rw [if_neg y0, mg8 hb, h1.1, if_pos q, rz_0]
    · unfold fn_Ref_isLong
      rw [vi_t rfl ref_module, zb_t hx, if_neg (by decide), if_neg y0, r78_0, ld_t (N := 6) rfl rfl hm, h4.2.2.1, if_pos q, rz_0]
  · have hre : fn_Ref_isLong 78 (nI m) (nI k) B = (if B 80 (20 * m + k) = 6 then (if B 84 (20 * m + k) = 0 then ri 0 B else ri 1 B) else ri 0 B) := by
      unfold fn_Ref_isLong
      rw [vi_t rfl ref_module, zb_t hx, if_neg (by decide), if_neg (nI_pos (by omega)), r78_0, ld_t (N := 6) rfl rfl hm, h4.2.2.1, if_neg (nI_ge hk (by omega)), r78_1, n20, nI_add, ld_t (N := 120) rfl rfl (by omega)]
      by_cases e6 : B 80 (20 * m + k) = 6
      · rw [if_pos e6, if_pos e6, r78_5, ld_t (N := 120) rfl rfl (by omega)]
        by_cases eg : B 84 (20 * m + k) = 0
        · rw [if_pos eg, if_pos eg, rz_0]
        · rw [if_neg eg, if_neg eg, rz_1]
      · rw [if_neg e6, if_neg e6, rz_0]
    have hmo : fn_Mod_isLongJump (2 + 9 * m) (nI k) A = (if A (2 + 9 * m + 6) k = 0 then ri 0 A else ri 1 A) := by
      unfold fn_Mod_isLongJump
      rw [if_neg (nI_pos (by omega)), mg8 hb, h1.1, if_neg (nI_ge hk (by omega)), mr5 hb, ld_t (mn6 hb) rfl (by omega)]
      by_cases eg : A (2 + 9 * m + 6) k = 0
      · rw [if_pos eg, if_pos eg, rz_0]
      · rw [if_neg eg, if_neg eg, rz_1]
    have hs := hc.same k hk
    have hk6 := (h2.1 k hk).2.1
    have hkk := (h5 k hk).1
    by_cases eg : A (2 + 9 * m + 6) k = 0
    · rw [if_pos eg] at hmo
      refine ⟨0, hcl 0 hmo (Or.inl rfl), ?_⟩
      rw [hre]
      by_cases e6 : B 80 (20 * m + k) = 6
      · rw [if_pos e6, if_pos (Classical.byContradiction fun q => (hs.mp q) eg)]
      · rw [if_neg e6]
    · rw [if_neg eg] at hmo
      refine ⟨1, hcl 1 hmo (Or.inr rfl), ?_⟩
      rw [hre, if_pos (show B 80 (20 * m + k) = 6 from hkk.trans (hk6 eg)), if_neg (show ¬ B 84 (20 * m + k) = 0 from hs.mpr eg)]
