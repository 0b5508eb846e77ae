-- names of a module, both sides: the reference's searches by the class's bit sets
abbrev exB (A : fm_I) (m a : Nat) : Prop := bt (A (2 + 9 * m) 9) a = true ∧ bt (A (2 + 9 * m) 11) a = true
abbrev cmB (A : fm_I) (m a : Nat) : Prop := bt (A (2 + 9 * m) 10) a = true
abbrev rfB (A : fm_I) (m a : Nat) : Prop := (bt (A (2 + 9 * m) 11) a = true ∨ bt (A (2 + 9 * m) 12) a = true) ∧ ¬ bt (A (2 + 9 * m) 9) a = true ∧ ¬ bt (A (2 + 9 * m) 10) a = true
section NM
variable {A B : fm_I} {m c : Nat}
theorem r_glob_lp (h : MRc A B m c) {a : Nat} : ∀ (n k : Nat) (z : Int32), k ≤ c → c < n + k → ((z = 0 ∧ ∀ j, j < k → ¬ (sK B m j = 1 ∧ sA B m j = nI a)) ∨ (z = 1 ∧ ∃ j, j < k ∧ (sK B m j = 1 ∧ sA B m j = nI a))) → ∃ z', fn_Ref_global_8 n 78 (nI m) (nI a) z (nI (20 * m + k)) B = ri z' B ∧ ((z' = 0 ∧ ∀ j, j < c → ¬ (sK B m j = 1 ∧ sA B m j = nI a)) ∨ (z' = 1 ∧ ∃ j, j < c ∧ (sK B m j = 1 ∧ sA B m j = nI a)))
  | 0, k, z, h1, h2, _ => by omega
  | n + 1, k, z, h1, h2, h3 => by
    obtain ⟨hm, hc, h4, h5⟩ := id h.2.2.2.1
    unfold fn_Ref_global_8
    rw [r78_0, ld_t (N := 6) rfl rfl hm, h4, n20, nI_add]
    by_cases hk : k = c
    · subst hk
      rw [if_pos (nI_le (Nat.le_refl _) (by omega))]
      refine ⟨z, ?_, h3⟩
      rcases h3 with ⟨rfl, -⟩ | ⟨rfl, -⟩
      · exact rz_0
      · exact rz_1
    · rw [if_neg (nI_ge (show 20 * m + k < 20 * m + c by omega) (by omega)), nI_1]
      rcases h3 with ⟨rfl, h3⟩ | ⟨rfl, j, hj, h3⟩
      · rw [if_pos rfl, r78_1, ld_t (N := 120) rfl rfl (by omega)]
        have go : ¬ (sK B m k = 1 ∧ sA B m k = nI a) → _ := fun q => r_glob_lp h (a := a) n (k + 1) 0 (by omega) (by omega) (Or.inl ⟨rfl, lt_s h3 q⟩)
        by_cases e1 : B 80 (20 * m + k) = 1
        · rw [if_pos e1, r78_2, ld_t (N := 120) rfl rfl (by omega)]
          by_cases ea : B 81 (20 * m + k) = nI a
          · rw [if_pos ea]
            exact r_glob_lp h n (k + 1) 1 (by omega) (by omega) (Or.inr ⟨rfl, k, by omega, e1, ea⟩)
          · rw [if_neg ea]; exact go (fun q => ea q.2)
        · rw [if_neg e1]; exact go (fun q => e1 q.1)
      · rw [if_neg (by decide)]
        exact r_glob_lp h n (k + 1) 1 (by omega) (by omega) (Or.inr ⟨rfl, j, by omega, h3⟩)
theorem r_global (h : MRc A B m c) {a : Nat} (ha : a < 16) : fn_Ref_global 78 (nI m) (nI a) B = ri (zb (bt (A (2 + 9 * m) 11) a = true)) B := by
  unfold fn_Ref_global
  rw [n20]
  obtain ⟨z, e1, e2⟩ := r_glob_lp h (a := a) FU 0 0 (Nat.zero_le _) (by have := h.1.2.1; have := fu_ge; omega) (Or.inl ⟨rfl, lt_0⟩)
  have e1' : fn_Ref_global_8 FU 78 (nI m) (nI a) 0 (nI (20 * m)) B = ri z B := e1
  rw [e1']
  have hb := h.1.2.2.2.2.2.1 a (by omega)
  rcases e2 with ⟨rfl, e2⟩ | ⟨rfl, j, hj, e2⟩
  · rw [zb_f (fun q => ?_)]
    obtain ⟨j, j1, j2, j3⟩ := hb.mp q
    exact e2 j j1 ⟨(h.kg j j1).1.trans j2, (h.kg j j1).2.1.trans j3⟩
  · rw [zb_t (hb.mpr ⟨j, hj, (h.kg j hj).1.symm.trans e2.1, (h.kg j hj).2.1.symm.trans e2.2⟩)]
theorem r_defb (h : MRc A B m c) {a : Nat} (ha : a < 16) : ∃ x, fn_Ref_definition 78 (nI m) (nI a) B = ri x B ∧ (bt (A (2 + 9 * m) 9) a = true → ¬ x < 0 ∧ 0 ≤ x ∧ ∃ d, d < c ∧ x = nI (20 * m + d) ∧ (A (2 + 9 * m + 1) d = 0 ∨ A (2 + 9 * m + 1) d = 8) ∧ A (2 + 9 * m + 8) a = nI d) ∧ (¬ bt (A (2 + 9 * m) 9) a = true → x < 0 ∧ ¬ 0 ≤ x) := by
  refine ⟨_, r_def h.2.2.2.1, fun hd => ?_, fun hd => ?_⟩
  · obtain ⟨d, d1, d2, d3, d4, d5⟩ := h.1.def_ ha hd
    rw [md_kg c h.kg, d5]
    have := h.1.2.1
    have := h.2.2.2.1.1
    exact ⟨nI_pos (by omega), nI_pos' (by omega), d, d1, rfl, d2, d4⟩
  · rw [md_kg c h.kg, h.1.undef ha hd]
    exact ⟨(by decide : (-1 : Int32) < 0), (by decide : ¬ (0 : Int32) ≤ -1)⟩
theorem r_exports (h : MRc A B m c) {a : Nat} (ha : a < 16) : fn_Ref_exports 78 (nI m) (nI a) B = ri (zb (exB A m a)) B := by
  unfold fn_Ref_exports
  rw [vi_t rfl (r_global h ha)]
  by_cases hg : bt (A (2 + 9 * m) 11) a = true
  · obtain ⟨x, hx, h1, h2⟩ := r_defb h ha
    rw [zb_t hg, if_neg (by decide), vi_t rfl hx]
    by_cases hd : bt (A (2 + 9 * m) 9) a = true
    · rw [if_neg (h1 hd).1, rz_1, zb_t ⟨hd, hg⟩]
    · rw [if_pos (h2 hd).1, rz_0, zb_f (fun q => hd q.1)]
  · rw [zb_f hg, if_pos (by decide), rz_0, zb_f (fun q => hg q.2)]
/-- words of the COMMON a of module m -/
def cmw (A : fm_I) (m a : Nat) : Int32 := if bt (A (2 + 9 * m) 10) a = true then A (2 + 9 * m + 3) (A (2 + 9 * m + 8) a).toNatClampNeg else 0
theorem cmw_in (h : CM0 A (2 + 9 * m) c) {a : Nat} (ha : a < 16) : (bt (A (2 + 9 * m) 10) a = true → ∃ d, d < c ∧ A (2 + 9 * m + 1) d = 7 ∧ A (2 + 9 * m + 2) d = nI a ∧ A (2 + 9 * m + 8) a = nI d ∧ cmw A m a = A (2 + 9 * m + 3) d ∧ 1 ≤ cmw A m a ∧ cmw A m a ≤ 16) ∧ (¬ bt (A (2 + 9 * m) 10) a = true → cmw A m a = 0) := by
  unfold cmw
  refine ⟨fun q => ?_, fun q => if_neg q⟩
  obtain ⟨d, d1, d2, d3⟩ := (h.2.2.2.2.1 a (by omega)).mp q
  have d4 := h.2.2.2.2.2.2.2 d a d1 ha (Or.inr (Or.inr d2)) d3
  have hc := h.2.1
  have hB := (h.2.2.1 d d1).2.2.2.1 d2
  rw [if_pos q, d4, nI_clamp (by omega)]
  exact ⟨d, d1, d2, d3, rfl, rfl, hB.1, hB.2⟩
theorem c_cmw (hb : isMod (2 + 9 * m)) (h : CM0 A (2 + 9 * m) c) {a : Nat} (ha : a < 16) : fn_Mod_wordsOfCommon (2 + 9 * m) (nI a) A = ri (cmw A m a) A := by
  have hc := h.2.1
  unfold fn_Mod_wordsOfCommon
  rw [mg10 hb, bi_t (px_has ha)]
  by_cases q : bt (A (2 + 9 * m) 10) a = true
  · obtain ⟨d, d1, d2, d3, d4, d5, -⟩ := (cmw_in h ha).1 q
    rw [zb_t q, if_neg (by decide), mr2 hb, mr7 hb, ld_t (mn8 hb) rfl ha, d4, ld_t (mn3 hb) rfl (by omega), d5]
  · rw [zb_f q, if_pos (by decide), (cmw_in h ha).2 q]
theorem r_cmw (h : MRc A B m c) {a : Nat} (ha : a < 16) : fn_Ref_common 78 (nI m) (nI a) B = ri (cmw A m a) B := by
  rw [r_common h.2.2.2.1]
  by_cases q : bt (A (2 + 9 * m) 10) a = true
  · obtain ⟨d, d1, d2, d3, d4, d5, -⟩ := (cmw_in h.1 ha).1 q
    have hcf : mcf (sK B m) (sA B m) (nI a) c = some d := by
      cases hm : mcf (sK B m) (sA B m) (nI a) c with
      | none => exact absurd ⟨(h.kg d d1).1.trans d2, (h.kg d d1).2.1.trans d3⟩ (mcf_none hm d d1)
      | some e =>
        obtain ⟨e1, e2, e3⟩ := mcf_some hm
        have := h.1.uniq e1 d1 (Or.inr (Or.inr ((h.kg e e1).1.symm.trans e2))) (Or.inr (Or.inr d2)) (((h.kg e e1).2.1.symm.trans e3).trans d3.symm)
        rw [this]
    rw [hcf, d5]
    exact congrArg (fun v => ri v B) (h.2.2.2.2.1 d d1).2.2.1
  · have hcf : mcf (sK B m) (sA B m) (nI a) c = none := mcf_no (fun j hj z => q ((h.1.2.2.2.2.1 a (by omega)).mpr ⟨j, hj, (h.kg j hj).1.symm.trans z.1, (h.kg j hj).2.1.symm.trans z.2⟩))
    rw [hcf, (cmw_in h.1 ha).2 q]
    rfl
theorem r_ref_lp (h : MRc A B m c) {a : Nat} : ∀ (n k : Nat) (z : Int32), k ≤ c → c < n + k → (z = 0 ∨ z = 1) → ∃ z', fn_Ref_refers_33 n 78 (nI m) (nI a) z (nI (20 * m + k)) B = ri z' B ∧ ((z' = 1 ∧ (z = 1 ∨ ∃ j, k ≤ j ∧ j < c ∧ ((sK B m j = 4 ∨ sK B m j = 6) ∧ sA B m j = nI a))) ∨ (z' = 0 ∧ z = 0 ∧ ∀ j, k ≤ j → j < c → ¬ ((sK B m j = 4 ∨ sK B m j = 6) ∧ sA B m j = nI a)))
  | 0, k, z, h1, h2, _ => by omega
  | n + 1, k, z, h1, h2, hz => by
    obtain ⟨hm, hc, h4, h5⟩ := id h.2.2.2.1
    unfold fn_Ref_refers_33
    rw [r78_0, ld_t (N := 6) rfl rfl hm, h4, n20, nI_add]
    by_cases hk : k = c
    · subst hk
      rw [if_pos (nI_le (Nat.le_refl _) (by omega))]
      refine ⟨z, ?_, ?_⟩
      · rcases hz with rfl | rfl
        · exact rz_0
        · exact rz_1
      · rcases hz with rfl | rfl
        · exact Or.inr ⟨rfl, rfl, fun j j1 j2 => absurd j2 (by omega)⟩
        · exact Or.inl ⟨rfl, Or.inl rfl⟩
    · rw [if_neg (nI_ge (show 20 * m + k < 20 * m + c by omega) (by omega)), nI_1]
      have one : fn_Ref_refers_33 n 78 (nI m) (nI a) 1 (nI (20 * m + k + 1)) B = ri 1 B := by
        obtain ⟨z', e1, ⟨rfl, -⟩ | ⟨-, e2, -⟩⟩ := r_ref_lp h (a := a) n (k + 1) 1 (by omega) (by omega) (Or.inr rfl)
        · exact e1
        · exact absurd e2 (by decide)
      rcases hz with rfl | rfl
      · rw [if_pos rfl, r78_1, ld_t (N := 120) rfl rfl (by omega)]
        have go : ¬ ((sK B m k = 4 ∨ sK B m k = 6) ∧ sA B m k = nI a) → ∃ z', fn_Ref_refers_33 n 78 (nI m) (nI a) 0 (nI (20 * m + k + 1)) B = ri z' B ∧ ((z' = 1 ∧ ((0 : Int32) = 1 ∨ ∃ j, k ≤ j ∧ j < c ∧ ((sK B m j = 4 ∨ sK B m j = 6) ∧ sA B m j = nI a))) ∨ (z' = 0 ∧ (0 : Int32) = 0 ∧ ∀ j, k ≤ j → j < c → ¬ ((sK B m j = 4 ∨ sK B m j = 6) ∧ sA B m j = nI a))) := fun q => by
          obtain ⟨z', e1, ⟨rfl, e2⟩ | ⟨rfl, -, e2⟩⟩ := r_ref_lp h (a := a) n (k + 1) 0 (by omega) (by omega) (Or.inl rfl)
          · refine ⟨1, e1, Or.inl ⟨rfl, ?_⟩⟩
            rcases e2 with e2 | ⟨j, j1, j2, j3⟩
            · exact Or.inl e2
            · exact Or.inr ⟨j, by omega, j2, j3⟩
          · refine ⟨0, e1, Or.inr ⟨rfl, rfl, fun j j1 j2 => ?_⟩⟩
            by_cases ej : j = k
            · subst ej; exact q
            · exact e2 j (by omega) j2
        have h76 : (sK B m k = 4 ∨ sK B m k = 6) → ∃ z', fn_Ref_refers_76 (fun a0 a1 a2 a3 a4 I => fn_Ref_refers_33 n a0 a1 a2 a3 a4 I) 78 (nI m) (nI a) (nI (20 * m + k)) B = ri z' B ∧ ((z' = 1 ∧ ((0 : Int32) = 1 ∨ ∃ j, k ≤ j ∧ j < c ∧ ((sK B m j = 4 ∨ sK B m j = 6) ∧ sA B m j = nI a))) ∨ (z' = 0 ∧ (0 : Int32) = 0 ∧ ∀ j, k ≤ j → j < c → ¬ ((sK B m j = 4 ∨ sK B m j = 6) ∧ sA B m j = nI a))) := fun q => by
          unfold fn_Ref_refers_76
          rw [r78_2, ld_t (N := 120) rfl rfl (by omega), nI_1]
          by_cases ea : B 81 (20 * m + k) = nI a
          · rw [if_pos ea]
            exact ⟨1, one, Or.inl ⟨rfl, Or.inr ⟨k, Nat.le_refl _, by omega, q, ea⟩⟩⟩
          · rw [if_neg ea]; exact go (fun w => ea w.2)
        by_cases e4 : B 80 (20 * m + k) = 4
        · rw [if_pos e4]; exact h76 (Or.inl e4)
        · rw [if_neg e4, r78_1, ld_t (N := 120) rfl rfl (by omega)]
          by_cases e6 : B 80 (20 * m + k) = 6
          · rw [if_pos e6]; exact h76 (Or.inr e6)
          · rw [if_neg e6]; exact go (fun w => w.1.elim e4 e6)
      · rw [if_neg (by decide)]
        exact ⟨1, one, Or.inl ⟨rfl, Or.inl rfl⟩⟩
theorem r_refers (h : MRc A B m c) {a : Nat} (ha : a < 16) : fn_Ref_refers 78 (nI m) (nI a) B = ri (zb (rfB A m a)) B := by
  unfold fn_Ref_refers
  obtain ⟨x, hx, h1, h2⟩ := r_defb h ha
  rw [vi_t rfl hx]
  by_cases hd : bt (A (2 + 9 * m) 9) a = true
  · rw [if_pos (h1 hd).2.1, rz_0, zb_f (fun q => q.2.1 hd)]
  · rw [if_neg (h2 hd).2, vi_t rfl (r_cmw h ha)]
    by_cases hq : bt (A (2 + 9 * m) 10) a = true
    · obtain ⟨d, -, -, -, -, -, q1, -⟩ := (cmw_in h.1 ha).1 hq
      rw [if_neg (fun z => absurd (Int32.le_trans q1 z) (by decide)), rz_0, zb_f (fun q => q.2.2 hq)]
    · rw [(cmw_in h.1 ha).2 hq, if_pos (by decide), vi_t rfl (r_global h ha), n20]
      obtain ⟨z', e1, e2⟩ := r_ref_lp h (a := a) FU 0 (zb (bt (A (2 + 9 * m) 11) a = true)) (Nat.zero_le _) (by have := h.1.2.1; have := fu_ge; omega) (by by_cases q : bt (A (2 + 9 * m) 11) a = true; exact Or.inr (zb_t q); exact Or.inl (zb_f q))
      have e1' : fn_Ref_refers_33 FU 78 (nI m) (nI a) (zb (bt (A (2 + 9 * m) 11) a = true)) (nI (20 * m)) B = ri z' B := e1
      rw [e1']
      have hu := h.1.2.2.2.2.2.2.1 a (by omega)
      rcases e2 with ⟨rfl, e2⟩ | ⟨rfl, e2, e3⟩
      · rw [zb_t]
        refine ⟨?_, hd, hq⟩
        rcases e2 with e2 | ⟨j, -, j2, j3, j4⟩
        · exact Or.inl (Classical.byContradiction fun q => by rw [zb_f q] at e2; exact absurd e2 (by decide))
        · exact Or.inr (hu.mpr ⟨j, j2, j3.imp (fun w => (h.kg j j2).1.symm.trans w) (fun w => (h.kg j j2).1.symm.trans w), (h.kg j j2).2.1.symm.trans j4⟩)
      · rw [zb_f]
        rintro ⟨q | q, -⟩
        · rw [zb_t q] at e2; exact absurd e2 (by decide)
        · obtain ⟨j, j1, j2, j3⟩ := hu.mp q
          exact e3 j (Nat.zero_le _) j1 ⟨j2.imp (fun w => (h.kg j j1).1.trans w) (fun w => (h.kg j j1).1.trans w), (h.kg j j1).2.1.trans j3⟩
end NM
