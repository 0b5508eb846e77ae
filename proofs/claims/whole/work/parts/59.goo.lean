-- searching the archive, and going over the line, side by side
/-- everything that goes on while modules are included; k: how far the line has been read -/
def LI (A B : fm_I) (o : Nat → Nat) (c : Nat) (want : Int32) (ca k : Nat) : Prop := (∀ m, m < 6 → MRl A B m) ∧ LO A B o c ∧ LM A o c want ∧ B 78 10 = want ∧ (A 59 1 = nI ca ∧ B 78 6 = nI ca ∧ ca ≤ 6 ∧ rAr (A 60) (B 85) ca) ∧ (∀ j, j < c → (∃ i, i < k ∧ A 62 i = nI (o j)) ∨ (∃ i, i < ca ∧ A 60 i = nI (o j)))
section GO
variable {want : Int32} {ca k : Nat}
theorem c_holdsO {A B : fm_I} {o : Nat → Nat} {c m : Nat} (hL : LO A B o c) (hm : m < 6) : ∃ z, fn_Row_holds 57 (nI m) A = ri z A ∧ ((z = 1 ∧ ∃ j, j < c ∧ o j = m) ∨ (z = 0 ∧ ∀ j, j < c → o j ≠ m)) := by
  obtain ⟨l1, l2, l3, l4, l5⟩ := hL
  refine ⟨_, row_holds isRow_57 l1 l3, ?_⟩
  cases hf : rFind (A 58) (nI m) c with
  | none =>
    refine Or.inr ⟨zb_f (fun q => q rfl), fun j hj e => ?_⟩
    exact rFind_none hf j hj (by rw [(l4 j hj).2.1, e])
  | some p =>
    obtain ⟨p1, p2, -⟩ := rFind_some hf
    refine Or.inl ⟨zb_t (fun q => by cases q), p, p1, ?_⟩
    have h6 := (l4 p p1).1
    rw [(l4 p p1).2.1] at p2
    exact (nI_eq (by omega) (by omega)).mp p2
theorem LI.inc {A B : fm_I} {o : Nat → Nat} {c m : Nat} (h : LI A B o c want ca k) (h6 : m < 6) (hn : ∀ j, j < c → o j ≠ m) (hs : (∃ i, i < k ∧ A 62 i = nI m) ∨ (∃ i, i < ca ∧ A 60 i = nI m)) : ∃ A' B', fn_Inc_include 56 (nI m) A = rv A' ∧ fn_Ref_include 78 (nI m) B = rv B' ∧ LI A' B' (uN o c m) (c + 1) want ca k ∧ FRA A A' ∧ FRB B B' := by
  obtain ⟨hM, hL, hm, hw, ⟨a1, a2, a3, a4⟩, hsrc⟩ := h
  obtain ⟨A', B', e1, e2, e3, e4, e5, e6⟩ := b_include hM hL hm h6 hn
  refine ⟨A', B', e1, e2, ⟨MRl.fr hM e5 e6, e3, e4, (e6.2 10 (by decide)).trans hw, ⟨?_, (e6.2 6 (by decide)).trans a2, a3, ?_⟩, fun j hj => ?_⟩, e5, e6⟩
  · rw [e5 59 (by decide) (by decide) (by decide)]; exact a1
  · rw [e5 60 (by decide) (by decide) (by decide), e6.1 85 (by decide) (by decide)]; exact a4
  · rw [e5 60 (by decide) (by decide) (by decide), e5 62 (by decide) (by decide) (by decide)]
    by_cases e : j = c
    · subst e; rw [uN_s]; exact hs
    · rw [uN_n e]; exact hsrc j (by omega)
/-- one pass over the archive -/
theorem b_pass (K : Nat → Int32 → Int32 → fm_I → pR) (t : Int32) : ∀ (n n' i : Nat) (z : Int32) (A B : fm_I) (o : Nat → Nat) (c : Nat), LI A B o c want ca k → i ≤ ca → ca < n + i → ca < n' + i → (z = 0 ∨ z = 1) → ∃ z' A' B' o' c', fn_Inc_includeWantedMembers_4 n 56 59 z (nI i) A = ri z' A' ∧ fn_Ref_goOver_18 K n' 78 z t (nI i) B = K 78 z' (t + 1) B' ∧ LI A' B' o' c' want ca k ∧ FRA A A' ∧ FRB B B' ∧ c ≤ c' ∧ ((z' = 0 ∧ z = 0) ∨ (z' = 1 ∧ (z = 1 ∨ c < c')))
  | 0, _, i, z, A, B, o, c, _, h1, h2, _, _ => by omega
  | n + 1, 0, i, z, A, B, o, c, _, h1, _, h3, _ => by omega
  | n + 1, n' + 1, i, z, A, B, o, c, h, h1, h2, h3, hz => by
    obtain ⟨hM, hL, hm, hw, ⟨a1, a2, a3, a4⟩, hsrc⟩ := id h
    unfold fn_Inc_includeWantedMembers_4 fn_Ref_goOver_18
    have hmany : fn_Row_howMany 59 A = ri (nI ca) A := by
      unfold fn_Row_howMany
      rw [gi_t rfl, a1]
    rw [vi_t rfl hmany, g78_6, a2]
    by_cases hi : i = ca
    · subst hi
      rw [if_pos (nI_le (Nat.le_refl _) (by omega)), if_pos (nI_le (Nat.le_refl _) (by omega))]
      refine ⟨z, A, B, o, c, ?_, rfl, h, fun _ _ _ _ => rfl, ⟨fun _ _ _ => rfl, fun _ _ => rfl⟩, Nat.le_refl _, ?_⟩
      · rcases hz with rfl | rfl
        · exact rz_0
        · exact rz_1
      · rcases hz with rfl | rfl
        · exact Or.inl ⟨rfl, rfl⟩
        · exact Or.inr ⟨rfl, Or.inl rfl⟩
    · have hi' : i < ca := by omega
      obtain ⟨m, h6, em⟩ := mdl_n (a4.2.1 i hi')
      have hat : fn_Row_at 59 (nI i) A = ri (nI m) A := by
        rw [row_at isRow_59 a1 a3, if_pos ⟨nI_pos' (by omega), by rw [nI_toInt (by omega)]; omega⟩, nI_clamp (by omega), em]
      have hb85 : B 85 i = nI m := (a4.1 i hi').trans em
      rw [if_neg (nI_ge hi' (by omega)), if_neg (nI_ge hi' (by omega)), vi_t rfl hat, r56_1, r78_7, ld_t (N := 6) rfl rfl (by omega), hb85]
      obtain ⟨y, y1, y2⟩ := c_holdsO hL h6
      obtain ⟨y', y1', y2'⟩ := r_isIn hL h6
      rw [vi_t rfl y1, vi_t rfl y1', nI_1]
      have go : ∃ z' A' B' o' c', fn_Inc_includeWantedMembers_4 n 56 59 z (nI (i + 1)) A = ri z' A' ∧ fn_Ref_goOver_18 K n' 78 z t (nI (i + 1)) B = K 78 z' (t + 1) B' ∧ LI A' B' o' c' want ca k ∧ FRA A A' ∧ FRB B B' ∧ c ≤ c' ∧ ((z' = 0 ∧ z = 0) ∨ (z' = 1 ∧ (z = 1 ∨ c < c'))) := b_pass K t n n' (i + 1) z A B o c h (by omega) (by omega) (by omega) hz
      rcases y2 with ⟨rfl, j, j1, j2⟩ | ⟨rfl, hn⟩
      · rcases y2' with ⟨rfl, -⟩ | ⟨rfl, hn'⟩
        · rw [if_neg (by decide), if_neg (by decide)]
          exact go
        · exact absurd j2 (hn' j j1)
      · rcases y2' with ⟨rfl, j, j1, j2⟩ | ⟨rfl, -⟩
        · exact absurd j2 (hn j j1)
        · rw [if_pos rfl, if_pos rfl, r78_7, ld_t (N := 6) rfl rfl (by omega), hb85]
          obtain ⟨x, x1, x2⟩ := c_expw hM hm h6
          obtain ⟨x', x1', x2'⟩ := r_helps hM hL h6
          rw [hw] at x2'
          rw [vi_t rfl x1, vi_t rfl x1']
          rcases x2 with ⟨rfl, w⟩ | ⟨rfl, w⟩
          · rcases x2' with ⟨rfl, -⟩ | ⟨rfl, w'⟩
            · obtain ⟨A1, B1, e1, e2, e3, e4, e5⟩ := h.inc h6 hn (Or.inr ⟨i, hi', em⟩)
              rw [if_neg (by decide), if_neg (by decide), vv_t rfl e1, r78_7, ld_t (N := 6) rfl rfl (by omega), hb85, vv_t rfl e2]
              obtain ⟨z', A', B', o', c', f1, f2, f3, f4, f5, f6, f7⟩ := b_pass K t n n' (i + 1) 1 A1 B1 (uN o c m) (c + 1) e3 (by omega) (by omega) (by omega) (Or.inr rfl)
              refine ⟨z', A', B', o', c', f1, f2, f3, e4.tr f4, e5.tr f5, by omega, ?_⟩
              rcases f7 with ⟨-, f7⟩ | ⟨f7, -⟩
              · exact absurd f7 (by decide)
              · exact Or.inr ⟨f7, Or.inr (by omega)⟩
            · obtain ⟨a, q1, q2⟩ := w
              exact absurd q2 (w' a q1)
          · rcases x2' with ⟨rfl, a, q1, q2⟩ | ⟨rfl, -⟩
            · exact absurd q2 (w a q1)
            · rw [if_pos rfl, if_pos rfl]
              exact go
/-- the whole search -/
theorem b_search : ∀ (n n' i : Nat) (A B : fm_I) (o : Nat → Nat) (c : Nat), LI A B o c want ca k → i ≤ c → 6 < n + i → 7 < n' + i → ∃ A' B' o' c', fn_Inc_search_2 n 56 59 (nI i) A = rv A' ∧ fn_Ref_goOver_4 n' 78 1 (nI i) B = rv B' ∧ LI A' B' o' c' want ca k ∧ FRA A A' ∧ FRB B B'
  | 0, _, i, A, B, o, c, h, h1, h2, _ => by have := h.2.1.2.2.1; omega
  | n + 1, 0, i, A, B, o, c, h, h1, _, h3 => by have := h.2.1.2.2.1; omega
  | n + 1, n' + 1, i, A, B, o, c, h, h1, h2, h3 => by
    have hc6 := h.2.1.2.2.1
    have hca := h.2.2.2.2.1.2.2.1
    unfold fn_Inc_search_2 fn_Ref_goOver_4
    rw [if_neg (show ¬ (6 : Int32) < nI i from nI_nlt (a := 6) (by omega) (by decide)), if_neg (show ¬ (8 : Int32) ≤ nI i from nI_ge (b := 8) (by omega) (by decide)), if_neg (by decide)]
    obtain ⟨z', A', B', o', c', e1, e2, e3, e4, e5, e6, e7⟩ := b_pass (fun a0 a1 a2 I => fn_Ref_goOver_4 n' a0 a1 a2 I) (nI i) FU FU 0 0 A B o c h (Nat.zero_le _) (by have := fu_ge; omega) (by have := fu_ge; omega) (Or.inl rfl)
    have e1' : fn_Inc_includeWantedMembers 56 59 A = ri z' A' := e1
    have e2' : fn_Ref_goOver_18 (fun a0 a1 a2 I => fn_Ref_goOver_4 n' a0 a1 a2 I) FU 78 0 (nI i) 0 B = fn_Ref_goOver_4 n' 78 z' (nI i + 1) B' := e2
    rw [vi_t rfl e1', e2', nI_1]
    have hc6' := e3.2.1.2.2.1
    rcases e7 with ⟨rfl, -⟩ | ⟨rfl, q⟩
    · rw [if_pos rfl]
      refine ⟨A', B', o', c', rfl, ?_, e3, e4, e5⟩
      obtain ⟨n2, rfl⟩ : ∃ n2, n' = n2 + 1 := ⟨n' - 1, by omega⟩
      unfold fn_Ref_goOver_4
      by_cases q8 : (8 : Int32) ≤ nI (i + 1)
      · rw [if_pos q8]
      · rw [if_neg q8, if_pos rfl]
    · rw [if_neg (by decide)]
      have hlt : c < c' := q.elim (fun w => absurd w (by decide)) id
      obtain ⟨A2, B2, o2, c2, f1, f2, f3, f4, f5⟩ := b_search n n' (i + 1) A' B' o' c' e3 (by omega) (by omega) (by omega)
      exact ⟨A2, B2, o2, c2, f1, f2, f3, e4.tr f4, e5.tr f5⟩
end GO
