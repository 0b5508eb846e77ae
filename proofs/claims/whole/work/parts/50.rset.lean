-- the reference's modules: statement k of module m stands at 20 m + k
abbrev sK (B : fm_I) (m : Nat) : Nat → Int32 := fun k => B 80 (20 * m + k)
abbrev sA (B : fm_I) (m : Nat) : Nat → Int32 := fun k => B 81 (20 * m + k)
abbrev sB (B : fm_I) (m : Nat) : Nat → Int32 := fun k => B 82 (20 * m + k)
abbrev sS (B : fm_I) (m : Nat) : Nat → Int32 := fun k => B 83 (20 * m + k)
abbrev sG (B : fm_I) (m : Nat) : Nat → Int32 := fun k => B 84 (20 * m + k)
theorem n20 (m : Nat) : (20 : Int32) * nI m = nI (20 * m) := pk_mul 20 m
/-- what is asked of the statements of module m: count, and words of SPACE -/
def RM0 (B : fm_I) (m c : Nat) : Prop := m < 6 ∧ c ≤ 20 ∧ B 79 m = nI c ∧ (∀ k, k < c → sK B m k = 5 → 1 ≤ sA B m k ∧ sA B m k ≤ 16)
section RS
variable {m c : Nat}
theorem r_width {B : fm_I} {s : Nat} (hs : s < 120) (h5 : B 80 s = 5 → 1 ≤ B 81 s ∧ B 81 s ≤ 16) : fn_Ref_width 78 (nI s) B = ri (nI (mw (B 80) (B 81) (B 84) s)) B := by
  unfold fn_Ref_width mw
  rw [r78_1, ld_t (N := 120) rfl rfl hs]
  by_cases e3 : B 80 s = 3
  · rw [if_pos e3, if_pos (Or.inl e3)]; rfl
  · rw [if_neg e3, r78_1, ld_t (N := 120) rfl rfl hs]
    by_cases e4 : B 80 s = 4
    · rw [if_pos e4, if_pos (Or.inr e4)]; rfl
    · rw [if_neg e4, if_neg (show ¬ (B 80 s = 3 ∨ B 80 s = 4) from fun q => q.elim e3 e4), r78_1, ld_t (N := 120) rfl rfl hs]
      by_cases e5 : B 80 s = 5
      · obtain ⟨j, hj, e⟩ := nI_of2 (x := B 81 s) (M := 16) (n := 16) (by decide) (fun q => Int32.not_le.mpr q (Int32.le_trans (by decide) (h5 e5).1)) (h5 e5).2
        rw [if_pos e5, if_pos e5, r78_2, ld_t (N := 120) rfl rfl hs, e, nI_clamp (by omega)]
      · rw [if_neg e5, if_neg e5, r78_1, ld_t (N := 120) rfl rfl hs]
        by_cases e6 : B 80 s = 6
        · rw [if_pos e6, if_pos e6, r78_5, ld_t (N := 120) rfl rfl hs]
          by_cases eg : B 84 s = 0
          · rw [if_pos eg, if_pos eg]; rfl
          · rw [if_neg eg, if_neg eg]; rfl
        · rw [if_neg e6, if_neg e6]; rfl
theorem r_place_lp {B : fm_I} (h : RM0 B m c) {e : Nat} (he : e ≤ c) {x : Int32} : ∀ (n k : Nat), k ≤ e → e < n + k → fn_Ref_place_9 n 78 (nI (20 * m + e)) x (nI (mp (sK B m) (sA B m) (sS B m) (sG B m) x k)) (nI (20 * m + k)) B = ri (nI (mp (sK B m) (sA B m) (sS B m) (sG B m) x e)) B
  | 0, k, h1, h2 => by omega
  | n + 1, k, h1, h2 => by
    obtain ⟨hm, hc, h3, h5⟩ := id h
    unfold fn_Ref_place_9
    by_cases hk : k = e
    · subst hk
      rw [if_pos (nI_le (Nat.le_refl _) (by omega))]
    · rw [if_neg (nI_ge (show 20 * m + k < 20 * m + e by omega) (by omega)), r78_4, ld_t (N := 120) rfl rfl (by omega), nI_1]
      have hs : mp (sK B m) (sA B m) (sS B m) (sG B m) x (k + 1) = mp (sK B m) (sA B m) (sS B m) (sG B m) x k + (if B 83 (20 * m + k) = x then mw (B 80) (B 81) (B 84) (20 * m + k) else 0) := rfl
      have hr := r_place_lp h he (x := x) n (k + 1) (by omega) (by omega)
      rw [hs] at hr
      by_cases ex : B 83 (20 * m + k) = x
      · rw [if_pos ex, vi_t rfl (r_width (by omega) (h5 k (by omega))), nI_add]
        rw [if_pos ex] at hr
        exact hr
      · rw [if_neg ex]
        rw [if_neg ex, Nat.add_zero] at hr
        exact hr
theorem r_place {B : fm_I} (h : RM0 B m c) {e : Nat} (he : e ≤ c) {x : Int32} : fn_Ref_place 78 (nI m) (nI (20 * m + e)) x B = ri (nI (mp (sK B m) (sA B m) (sS B m) (sG B m) x e)) B := by
  unfold fn_Ref_place
  rw [n20]
  exact r_place_lp h he FU 0 (Nat.zero_le _) (by have := h.2.1; have := fu_ge; omega)
/-- the place of the definition, or -1 -/
def rd (m : Nat) (o : Option Nat) : Int32 := match o with
  | some d => nI (20 * m + d)
  | none => -1
theorem md_no {K A : Nat → Int32} {a : Int32} {c : Nat} (h : ∀ j, j < c → ¬ ((K j = 0 ∨ K j = 8) ∧ A j = a)) : md K A a c = none := by
  cases hm : md K A a c with
  | none => rfl
  | some d =>
    obtain ⟨h1, h2, h3⟩ := md_some hm
    exact absurd ⟨h2, h3⟩ (h d h1)
theorem md_at {K A : Nat → Int32} {a : Int32} {d : Nat} : ∀ {c : Nat}, d < c → (K d = 0 ∨ K d = 8) ∧ A d = a → (∀ j, j < d → ¬ ((K j = 0 ∨ K j = 8) ∧ A j = a)) → md K A a c = some d
  | 0, h, _, _ => by omega
  | c + 1, h, h1, h2 => by
    unfold md
    by_cases e : d = c
    · subst e
      rw [md_no h2]
      simp only [if_pos h1]
    · rw [md_at (c := c) (by omega) h1 h2]
theorem r_def_lp {B : fm_I} (h : RM0 B m c) {a : Int32} : ∀ (n k : Nat), k ≤ c → c < n + k → (∀ j, j < k → ¬ ((sK B m j = 0 ∨ sK B m j = 8) ∧ sA B m j = a)) → fn_Ref_definition_5 n 78 (nI m) a (nI (20 * m + k)) B = ri (rd m (md (sK B m) (sA B m) a c)) B
  | 0, k, h1, h2, _ => by omega
  | n + 1, k, h1, h2, h3 => by
    obtain ⟨hm, hc, h4, h5⟩ := id h
    unfold fn_Ref_definition_5
    rw [r78_0, ld_t (N := 6) rfl rfl hm, h4, n20, nI_add]
    by_cases hk : k = c
    · subst hk
      rw [if_pos (nI_le (Nat.le_refl _) (by omega)), md_no h3]
      rfl
    · rw [if_neg (nI_ge (show 20 * m + k < 20 * m + c by omega) (by omega)), r78_1, ld_t (N := 120) rfl rfl (by omega), nI_1]
      have hit : (sK B m k = 0 ∨ sK B m k = 8) ∧ sA B m k = a → ri (nI (20 * m + k)) B = ri (rd m (md (sK B m) (sA B m) a c)) B := fun q => by
        rw [md_at (show k < c by omega) q h3]
        rfl
      have go : ¬ ((sK B m k = 0 ∨ sK B m k = 8) ∧ sA B m k = a) → fn_Ref_definition_5 n 78 (nI m) a (nI (20 * m + k + 1)) B = ri (rd m (md (sK B m) (sA B m) a c)) B := fun q => r_def_lp h n (k + 1) (by omega) (by omega) (lt_s h3 q)
      by_cases e0 : B 80 (20 * m + k) = 0
      · rw [if_pos e0, r78_2, ld_t (N := 120) rfl rfl (by omega)]
        by_cases ea : B 81 (20 * m + k) = a
        · rw [if_pos ea]; exact hit ⟨Or.inl e0, ea⟩
        · rw [if_neg ea]; exact go (fun q => ea q.2)
      · rw [if_neg e0, r78_1, ld_t (N := 120) rfl rfl (by omega)]
        by_cases e8 : B 80 (20 * m + k) = 8
        · rw [if_pos e8, r78_2, ld_t (N := 120) rfl rfl (by omega)]
          by_cases ea : B 81 (20 * m + k) = a
          · rw [if_pos ea]; exact hit ⟨Or.inr e8, ea⟩
          · rw [if_neg ea]; exact go (fun q => ea q.2)
        · rw [if_neg e8]; exact go (fun q => q.1.elim e0 e8)
theorem r_def {B : fm_I} (h : RM0 B m c) {a : Int32} : fn_Ref_definition 78 (nI m) a B = ri (rd m (md (sK B m) (sA B m) a c)) B := by
  unfold fn_Ref_definition
  rw [n20]
  exact r_def_lp h FU 0 (Nat.zero_le _) (by have := h.2.1; have := fu_ge; omega) lt_0
theorem rd_lt {m : Nat} {o : Option Nat} (h : ∀ d, o = some d → 20 * m + d < 2147483648) : rd m o < 0 ↔ o = none := by
  cases o with
  | none => exact ⟨fun _ => rfl, fun _ => (by decide : (-1 : Int32) < 0)⟩
  | some d => exact ⟨fun q => absurd q (nI_pos (h d rfl)), fun q => by cases q⟩
theorem r_dist {B : fm_I} (h : RM0 B m c) {k : Nat} (hk : k < c) : ∃ x, fn_Ref_distance 78 (nI m) (nI (20 * m + k)) B = ri x B ∧ (sK B m k = 6 → (mfar c (sK B m) (sA B m) (sS B m) (sG B m) k ↔ ¬ (-8 ≤ x ∧ x ≤ 7))) := by
  obtain ⟨hm, hc, h4, h5⟩ := id h
  have hx1 : (1000 : Int32) = 1000 := rfl
  unfold fn_Ref_distance
  rw [r78_2, ld_t (N := 120) rfl rfl (by omega), vi_t rfl (r_def h)]
  cases hd : md (sK B m) (sA B m) (B 81 (20 * m + k)) c with
  | none =>
    rw [if_pos (show rd m none < 0 from (by decide : (-1 : Int32) < 0))]
    exact ⟨1000, rfl, fun e6 => ⟨fun _ => by decide, fun _ => ⟨e6, fun d q => by rw [hd] at q; cases q⟩⟩⟩
  | some d =>
    have hdc := (md_some hd).1
    rw [show rd m (some d) = nI (20 * m + d) from rfl, if_neg (show ¬ nI (20 * m + d) < 0 from nI_pos (by omega)), r78_1, ld_t (N := 120) rfl rfl (show 20 * m + d < 120 by omega)]
    by_cases e0 : B 80 (20 * m + d) = 0
    · rw [if_pos e0, r78_4, ld_t (N := 120) rfl rfl (show 20 * m + d < 120 by omega)]
      by_cases es : B 83 (20 * m + d) = 0
      · rw [if_pos es, vi_t rfl (r_place h (show d ≤ c by omega)), vi_t rfl (r_place h (by omega))]
        refine ⟨_, rfl, fun e6 => ?_⟩
        have b1 := mp_16 (S := sS B m) (g := sG B m) (s := 0) d (fun j hj => h5 j (by omega))
        have b2 := mp_16 (S := sS B m) (g := sG B m) (s := 0) k (fun j hj => h5 j (by omega))
        rw [n_win (by omega) (by omega)]
        constructor
        · intro hf q
          have := hf.2 d hd e0 es
          omega
        · intro q
          refine ⟨e6, fun d' hd' _ _ => ?_⟩
          rw [hd] at hd'
          cases hd'
          omega
      · rw [if_neg es]
        exact ⟨1000, rfl, fun e6 => ⟨fun _ => by decide, fun _ => ⟨e6, fun d' q _ q3 => by rw [hd] at q; cases q; exact absurd q3 es⟩⟩⟩
    · rw [if_neg e0]
      exact ⟨1000, rfl, fun e6 => ⟨fun _ => by decide, fun _ => ⟨e6, fun d' q q2 _ => by rw [hd] at q; cases q; exact absurd q2 e0⟩⟩⟩
/-- a jump that is to be made long -/
def nw (B : fm_I) (m c j : Nat) : Prop := sK B m j = 6 ∧ sG B m j = 0 ∧ mfar c (sK B m) (sA B m) (sS B m) (sG B m) j
theorem r_set49 {B : fm_I} (h : RM0 B m c) (K : Nat → Int32 → Int32 → Int32 → fm_I → pR) (t : Int32) : ∀ (n k : Nat), k ≤ c → c < n + k → (∀ j, j < k → ¬ nw B m c j) → (∃ j, j < c ∧ nw B m c j ∧ fn_Ref_settle_49 K n 78 (nI m) (nI (20 * m + c)) t (nI (20 * m + k)) B = K 78 (nI m) (nI (20 * m + c)) (t + 1) (fm_up B 84 (20 * m + j) 1)) ∨ ((∀ j, j < c → ¬ nw B m c j) ∧ fn_Ref_settle_49 K n 78 (nI m) (nI (20 * m + c)) t (nI (20 * m + k)) B = rv B)
  | 0, k, h1, h2, _ => by omega
  | n + 1, k, h1, h2, h3 => by
    obtain ⟨hm, hc, h4, h5⟩ := id h
    unfold fn_Ref_settle_49
    by_cases hk : k = c
    · subst hk
      rw [if_pos (nI_le (Nat.le_refl _) (by omega)), if_pos rfl]
      exact Or.inr ⟨h3, rfl⟩
    · rw [if_neg (nI_ge (show 20 * m + k < 20 * m + c by omega) (by omega)), r78_1, ld_t (N := 120) rfl rfl (by omega), nI_1]
      have hne : ¬ nI (20 * m + k) = nI (20 * m + c) := fun q => by
        have := (nI_eq (by omega) (by omega)).mp q
        omega
      have go : ¬ nw B m c k → _ := fun q => r_set49 h K t n (k + 1) (by omega) (by omega) (lt_s h3 q)
      by_cases e6 : B 80 (20 * m + k) = 6
      · rw [if_pos e6, r78_5, ld_t (N := 120) rfl rfl (by omega)]
        by_cases eg : B 84 (20 * m + k) = 0
        · obtain ⟨x, hx, hf⟩ := r_dist h (show k < c by omega)
          rw [if_pos eg, vi_t rfl hx, if_neg hne, vi_t rfl hx]
          have hput : gr 6 78 5 (fun v9 => sZ v9 (nI (20 * m + k)) 1 B (fun J10 => K 78 (nI m) (nI (20 * m + c)) (t + 1) J10)) = K 78 (nI m) (nI (20 * m + c)) (t + 1) (fm_up B 84 (20 * m + k) 1) := by
            rw [r78_5, sZ_t (N := 120) rfl rfl (by omega), show vp_nar .boolean 1 = 1 by decide]
          by_cases e1 : x < -8
          · rw [if_pos e1, hput]
            exact Or.inl ⟨k, by omega, ⟨e6, eg, (hf e6).mpr (fun q => Int32.not_le.mpr e1 q.1)⟩, rfl⟩
          · rw [if_neg e1]
            by_cases e2 : 7 < x
            · rw [if_pos e2, if_neg hne, hput]
              exact Or.inl ⟨k, by omega, ⟨e6, eg, (hf e6).mpr (fun q => Int32.not_le.mpr e2 q.2)⟩, rfl⟩
            · rw [if_neg e2]
              exact go (fun q => (hf e6).mp q.2.2 ⟨Int32.not_lt.mp e1, Int32.not_lt.mp e2⟩)
        · rw [if_neg eg]
          exact go (fun q => eg q.2.1)
      · rw [if_neg e6]
        exact go (fun q => e6 q.1)
end RS
