/-- the line, on both sides, beside an archive of ca modules -/
def LN (A B : fm_I) (e ca : Nat) : Prop := A 61 1 = nI e ∧ B 78 8 = nI e ∧ e ≤ 8 ∧ (∀ j, j < e → B 86 j = A 62 j) ∧ (∀ j, j < e → A 62 j = 6 ∨ mdl (A 62 j)) ∧ (∀ i j, i < e → j < e → A 62 i = A 62 j → A 62 i ≠ 6 → i = j) ∧ (∀ i j, i < ca → j < e → A 60 i ≠ A 62 j)
theorem LN.fr {A A' B B' : fm_I} {e ca : Nat} (h : LN A B e ca) (ha : FRA A A') (hb : FRB B B') : LN A' B' e ca := by
  unfold LN
  rw [ha 61 (by decide) (by decide) (by decide), ha 62 (by decide) (by decide) (by decide), ha 60 (by decide) (by decide) (by decide), hb.2 8 (by decide), hb.1 86 (by decide) (by decide)]
  exact h
theorem LI.up {A B : fm_I} {o : Nat → Nat} {c : Nat} {want : Int32} {ca k : Nat} (h : LI A B o c want ca k) : LI A B o c want ca (k + 1) := by
  obtain ⟨h1, h2, h3, h4, h5, h6⟩ := h
  exact ⟨h1, h2, h3, h4, h5, fun j hj => (h6 j hj).imp (fun ⟨i, i1, i2⟩ => ⟨i, by omega, i2⟩) id⟩
theorem MRl.cgB {A B B' : fm_I} (h : ∀ m, m < 6 → MRl A B m) (hb : ∀ q, 79 ≤ q → q ≤ 84 → B' q = B q) : ∀ m, m < 6 → MRl A B' m := fun m hm => by
  obtain ⟨c, hc⟩ := h m hm
  refine ⟨c, hc.cg (fun q _ _ => rfl) (by rw [hb 79 (by decide) (by decide)]) (fun k _ => ?_)⟩
  rw [hb 80 (by decide) (by decide), hb 81 (by decide) (by decide), hb 82 (by decide) (by decide), hb 83 (by decide) (by decide), hb 84 (by decide) (by decide)]
  exact ⟨rfl, rfl, rfl, rfl, rfl⟩
theorem fm_up_up (I : fm_I) (p k : Nat) (x y : Int32) : fm_up (fm_up I p k x) p k y = fm_up I p k y := funext fun q => funext fun j => by
  rw [fm_up_e, fm_up_e, fm_up_e]
  by_cases h : q = p ∧ j = k
  · rw [if_pos h, if_pos h]
  · rw [if_neg h, if_neg h, if_neg h]
section LL
variable {want : Int32} {ca e : Nat}
theorem b_line : ∀ (n n' i : Nat) (A B : fm_I) (o : Nat → Nat) (c : Nat), LI A B o c want ca i → LN A B e ca → i ≤ e → e < n + i → e < n' + i → ∃ A' B' o' c', fn_Inc_goOver_42 n 56 61 59 (nI i) A = rv A' ∧ fn_Ref_link_35 n' 78 (nI i) B = pI 6 78 13 0 B' (fun J2 => fn_Ref_link_86 FU 78 0 0 J2) ∧ LI A' B' o' c' want ca e ∧ FRA A A' ∧ FRB B B'
  | 0, _, i, A, B, o, c, _, _, h1, h2, _ => by omega
  | n + 1, 0, i, A, B, o, c, _, _, h1, _, h3 => by omega
  | n + 1, n' + 1, i, A, B, o, c, h, hl, h1, h2, h3 => by
    obtain ⟨l1, l2, l3, l4, l5, l6, l7⟩ := id hl
    unfold fn_Inc_goOver_42 fn_Ref_link_35
    have hmany : fn_Row_howMany 61 A = ri (nI e) A := by
      unfold fn_Row_howMany
      rw [gi_t rfl, l1]
    rw [vi_t rfl hmany, g78_8, l2]
    by_cases hi : i = e
    · subst hi
      rw [if_pos (nI_le (Nat.le_refl _) (by omega)), if_pos (nI_le (Nat.le_refl _) (by omega))]
      exact ⟨A, B, o, c, rfl, rfl, h, fun _ _ _ _ => rfl, ⟨fun _ _ _ => rfl, fun _ _ => rfl⟩⟩
    · have hi' : i < e := by omega
      have hat : fn_Row_at 61 (nI i) A = ri (A 62 i) A := by
        rw [row_at isRow_61 l1 l3, if_pos ⟨nI_pos' (by omega), by rw [nI_toInt (by omega)]; omega⟩, nI_clamp (by omega)]
      rw [if_neg (nI_ge hi' (by omega)), if_neg (nI_ge hi' (by omega)), vi_t rfl hat, r78_9, ld_t (N := 8) rfl rfl (by omega), l4 i hi', nI_1]
      by_cases e6 : A 62 i = 6
      · rw [if_pos e6, if_pos e6]
        obtain ⟨A', B', o', c', f1, f2, f3, f4, f5⟩ := b_search FU FU 0 A B o c h.up (Nat.zero_le _) (by have := fu_ge; omega) (by have := fu_ge; omega)
        have f1' : fn_Inc_search 56 59 A = rv A' := f1
        have f2' : fn_Ref_goOver 78 B = rv B' := f2
        rw [vv_t rfl f1', vv_t rfl f2']
        obtain ⟨A2, B2, o2, c2, g1, g2, g3, g4, g5⟩ := b_line n n' (i + 1) A' B' o' c' f3 (hl.fr f4 f5) (by omega) (by omega) (by omega)
        exact ⟨A2, B2, o2, c2, g1, g2, g3, f4.tr g4, f5.tr g5⟩
      · have hmd : mdl (A 62 i) := (l5 i hi').elim (fun q => absurd q e6) id
        obtain ⟨m, h6, em⟩ := mdl_n hmd
        have hn : ∀ j, j < c → o j ≠ m := fun j hj q => by
          rcases h.2.2.2.2.2 j hj with ⟨x, x1, x2⟩ | ⟨x, x1, x2⟩
          · have := l6 x i (by omega) hi' (by rw [x2, q, em]) (by rw [x2, q, ← em]; exact e6)
            omega
          · exact l7 x i x1 hi' (by rw [x2, q, em])
        obtain ⟨A', B', f1, f2, f3, f4, f5⟩ := h.up.inc h6 hn (Or.inl ⟨i, by omega, em⟩)
        rw [if_neg e6, if_neg e6, vi_t rfl hat, r78_9, ld_t (N := 8) rfl rfl (by omega), l4 i hi', em, vv_t rfl f1, vv_t rfl f2]
        obtain ⟨A2, B2, o2, c2, g1, g2, g3, g4, g5⟩ := b_line n n' (i + 1) A' B' (uN o c m) (c + 1) f3 (hl.fr f4 f5) (by omega) (by omega) (by omega)
        exact ⟨A2, B2, o2, c2, g1, g2, g3, f4.tr g4, f5.tr g5⟩
/-- the reference adds up what is lacking, and looks for doubles -/
theorem r_86 {A : fm_I} {o : Nat → Nat} {c : Nat} {B0 : fm_I} (hM : ∀ m, m < 6 → MRl A B0 m) (hL : LO A B0 o c) (hw : B0 78 10 = want) : ∀ (n k : Nat) (z x : Int32), k ≤ 16 → 16 < n + k → ((z = 1 ∧ ∃ a, a < k ∧ 1 < ec A o a c) ∨ (z = 0 ∧ ∀ a, a < k → ec A o a c ≤ 1)) → (∀ a, a < 32 → (bt x a = true ↔ a < k ∧ wnt A o c want a)) → ∃ n2 z' x', fn_Ref_link_86 n 78 z (nI k) (fm_up B0 78 13 x) = fn_Ref_link_86 (n2 + 1) 78 z' (nI 16) (fm_up B0 78 13 x') ∧ ((z' = 1 ∧ ∃ a, a < 16 ∧ 1 < ec A o a c) ∨ (z' = 0 ∧ ∀ a, a < 16 → ec A o a c ≤ 1)) ∧ (∀ a, a < 32 → (bt x' a = true ↔ a < 16 ∧ wnt A o c want a))
  | 0, k, z, x, h1, h2, _, _ => by omega
  | n + 1, k, z, x, h1, h2, hz, hx => by
    by_cases hk : k = 16
    · subst hk
      exact ⟨n, z, x, rfl, hz, hx⟩
    · have hM' : ∀ m, m < 6 → MRl A (fm_up B0 78 13 x) m := MRl.cgB hM (fun q q1 q2 => fm_up_q _ (by omega))
      have hL' : LO A (fm_up B0 78 13 x) o c := by
        obtain ⟨a1, a2, a3, a4, a5⟩ := hL
        refine ⟨a1, by rw [fm_up_k _ _ (by decide)]; exact a2, a3, fun j hj => ?_, a5⟩
        rw [fm_up_p _ _ _ (by decide)]
        exact a4 j hj
      have hw' : fm_up B0 78 13 x 78 10 = want := by rw [fm_up_k _ _ (by decide)]; exact hw
      have hec := ec_le A o k c
      have hc6 := hL.2.2.1
      unfold fn_Ref_link_86
      rw [if_neg (show ¬ (16 : Int32) ≤ nI k from nI_ge (b := 16) (by omega) (by decide))]
      have h116 : ∀ x2 : Int32, (∀ a, a < 32 → (bt x2 a = true ↔ a < k + 1 ∧ wnt A o c want a)) → ∃ n2 z' x', fn_Ref_link_116 (fun a0 a2 a3 I => fn_Ref_link_86 n a0 a2 a3 I) 78 z (nI k) 78 x2 (fm_up B0 78 13 x) = fn_Ref_link_86 (n2 + 1) 78 z' (nI 16) (fm_up B0 78 13 x') ∧ ((z' = 1 ∧ ∃ a, a < 16 ∧ 1 < ec A o a c) ∨ (z' = 0 ∧ ∀ a, a < 16 → ec A o a c ≤ 1)) ∧ (∀ a, a < 32 → (bt x' a = true ↔ a < 16 ∧ wnt A o c want a)) := fun x2 hx2 => by
        have hM2 : ∀ m, m < 6 → MRl A (fm_up B0 78 13 x2) m := MRl.cgB hM (fun q q1 q2 => fm_up_q _ (by omega))
        have hL2 : LO A (fm_up B0 78 13 x2) o c := by
          obtain ⟨a1, a2, a3, a4, a5⟩ := hL
          refine ⟨a1, by rw [fm_up_k _ _ (by decide)]; exact a2, a3, fun j hj => ?_, a5⟩
          rw [fm_up_p _ _ _ (by decide)]
          exact a4 j hj
        unfold fn_Ref_link_116
        rw [p78_13, fm_up_up, nI_1]
        rcases hz with ⟨rfl, a, a1, a2⟩ | ⟨rfl, hz⟩
        · rw [if_neg (by decide)]
          exact r_86 hM hL hw n (k + 1) 1 x2 (by omega) (by omega) (Or.inl ⟨rfl, a, by omega, a2⟩) hx2
        · rw [if_pos rfl, vi_t rfl (r_exporters hM2 hL2 (show k < 16 by omega))]
          by_cases e1 : ec A o k c ≤ 1
          · rw [if_pos (show nI (ec A o k c) ≤ 1 from nI_le (b := 1) e1 (by decide))]
            exact r_86 hM hL hw n (k + 1) 0 x2 (by omega) (by omega) (Or.inr ⟨rfl, lt_s hz e1⟩) hx2
          · rw [if_neg (show ¬ nI (ec A o k c) ≤ 1 from nI_ge (a := 1) (by omega) (by omega))]
            exact r_86 hM hL hw n (k + 1) 1 x2 (by omega) (by omega) (Or.inl ⟨rfl, k, by omega, by omega⟩) hx2
      obtain ⟨y, y1, y2⟩ := r_wanted hM' hL' (a := k) (by omega)
      rw [hw'] at y2
      rw [vi_t rfl y1]
      rcases y2 with ⟨rfl, y2⟩ | ⟨rfl, y2⟩
      · rw [if_neg (by decide), g78_13, fm_up_s]
        refine h116 _ (fun a ha => ?_)
        rw [b_or, Bool.or_eq_true, hx a ha, bt_set (by omega) ha, decide_eq_true_eq]
        constructor
        · rintro (q | q)
          · exact ⟨by omega, q.2⟩
          · subst q; exact ⟨by omega, y2⟩
        · rintro ⟨q1, q2⟩
          by_cases e : a = k
          · exact Or.inr e
          · exact Or.inl ⟨by omega, q2⟩
      · rw [if_pos rfl, g78_13, fm_up_s]
        refine h116 _ (fun a ha => ?_)
        rw [hx a ha]
        constructor
        · rintro ⟨q1, q2⟩
          exact ⟨by omega, q2⟩
        · rintro ⟨q1, q2⟩
          refine ⟨?_, q2⟩
          by_cases e : a = k
          · subst e; exact absurd q2 y2
          · omega
end LL
