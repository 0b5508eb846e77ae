-- which modules are included: order o of c modules, on both sides
def LO (A B : fm_I) (o : Nat → Nat) (c : Nat) : Prop := A 57 1 = nI c ∧ B 78 11 = nI c ∧ c ≤ 6 ∧ (∀ k, k < c → o k < 6 ∧ A 58 k = nI (o k) ∧ B 87 k = nI (o k)) ∧ (∀ i j, i < c → j < c → o i = o j → i = j)
/-- how many of them export the name a -/
def ec (A : fm_I) (o : Nat → Nat) (a : Nat) : Nat → Nat
  | 0 => 0
  | k + 1 => ec A o a k + (if exB A (o k) a then 1 else 0)
/-- the largest COMMON a among them -/
def lg (A : fm_I) (o : Nat → Nat) (a : Nat) : Nat → Int32
  | 0 => 0
  | k + 1 => if cmw A (o k) a ≤ lg A o a k then lg A o a k else cmw A (o k) a
theorem ec_le (A : fm_I) (o : Nat → Nat) (a : Nat) : ∀ c, ec A o a c ≤ c
  | 0 => Nat.le_refl _
  | c + 1 => by
    have := ec_le A o a c
    show ec A o a c + (if exB A (o c) a then 1 else 0) ≤ c + 1
    split <;> omega
theorem ec_0 {A : fm_I} {o : Nat → Nat} {a : Nat} : ∀ {c : Nat}, ec A o a c = 0 ↔ ∀ k, k < c → ¬ exB A (o k) a
  | 0 => ⟨fun _ k hk => absurd hk (by omega), fun _ => rfl⟩
  | c + 1 => by
    have ih := ec_0 (A := A) (o := o) (a := a) (c := c)
    show ec A o a c + (if exB A (o c) a then 1 else 0) = 0 ↔ _
    by_cases e : exB A (o c) a
    · rw [if_pos e]
      exact ⟨fun q => absurd q (by omega), fun q => absurd e (q c (by omega))⟩
    · rw [if_neg e, Nat.add_zero, ih]
      exact ⟨fun q => lt_s q e, fun q k hk => q k (by omega)⟩
theorem ec_1 {A : fm_I} {o : Nat → Nat} {a : Nat} : ∀ {c : Nat}, ec A o a c ≤ 1 ↔ ∀ i j, i < j → j < c → ¬ (exB A (o i) a ∧ exB A (o j) a)
  | 0 => ⟨fun _ i j _ hj => absurd hj (by omega), fun _ => Nat.zero_le _⟩
  | c + 1 => by
    have ih := ec_1 (A := A) (o := o) (a := a) (c := c)
    have i0 := ec_0 (A := A) (o := o) (a := a) (c := c)
    show ec A o a c + (if exB A (o c) a then 1 else 0) ≤ 1 ↔ _
    by_cases e : exB A (o c) a
    · rw [if_pos e]
      constructor
      · intro q i j hij hj z
        have h0 := i0.mp (by omega)
        by_cases ej : j = c
        · exact h0 i (by omega) z.1
        · exact h0 i (by omega) z.1
      · intro q
        have := i0.mpr (fun k hk z => q k c hk (by omega) ⟨z, e⟩)
        omega
    · rw [if_neg e, Nat.add_zero, ih]
      constructor
      · intro q i j hij hj z
        by_cases ej : j = c
        · subst ej; exact e z.2
        · exact q i j hij (by omega) z
      · intro q i j hij hj
        exact q i j hij (by omega)
section SL
variable {A B : fm_I} {o : Nat → Nat} {c : Nat}
theorem r_exprs (hM : ∀ m, m < 6 → MRl A B m) (hL : LO A B o c) {a : Nat} (ha : a < 16) : ∀ (n k : Nat), k ≤ c → c < n + k → fn_Ref_exporters_4 n 78 (nI a) (nI (ec A o a k)) (nI k) B = ri (nI (ec A o a c)) B
  | 0, k, h1, h2 => by omega
  | n + 1, k, h1, h2 => by
    obtain ⟨l1, l2, l3, l4, l5⟩ := id hL
    unfold fn_Ref_exporters_4
    rw [g78_11, l2]
    by_cases hk : k = c
    · subst hk
      rw [if_pos (nI_le (Nat.le_refl _) (by omega))]
    · obtain ⟨c', hc'⟩ := hM (o k) (l4 k (by omega)).1
      have hr := r_exprs hM hL ha n (k + 1) (by omega) (by omega)
      have hs : ec A o a (k + 1) = ec A o a k + (if exB A (o k) a then 1 else 0) := rfl
      rw [hs] at hr
      rw [if_neg (nI_ge (show k < c by omega) (by omega)), r78_12, ld_t (N := 6) rfl rfl (by omega), (l4 k (by omega)).2.2, vi_t rfl (r_exports hc' ha), nI_1, nI_1]
      by_cases e : exB A (o k) a
      · rw [zb_t e, if_neg (by decide)]
        rw [if_pos e] at hr
        exact hr
      · rw [zb_f e, if_pos (by decide)]
        rw [if_neg e] at hr
        exact hr
theorem r_exporters (hM : ∀ m, m < 6 → MRl A B m) (hL : LO A B o c) {a : Nat} (ha : a < 16) : fn_Ref_exporters 78 (nI a) B = ri (nI (ec A o a c)) B := r_exprs hM hL ha FU 0 (Nat.zero_le _) (by have := hL.2.2.1; have := fu_ge; omega)
theorem r_lrg (hM : ∀ m, m < 6 → MRl A B m) (hL : LO A B o c) {a : Nat} (ha : a < 16) : ∀ (n k : Nat), k ≤ c → c < n + k → fn_Ref_largest_4 n 78 (nI a) (lg A o a k) (nI k) B = ri (lg A o a c) B
  | 0, k, h1, h2 => by omega
  | n + 1, k, h1, h2 => by
    obtain ⟨l1, l2, l3, l4, l5⟩ := id hL
    unfold fn_Ref_largest_4
    rw [g78_11, l2]
    by_cases hk : k = c
    · subst hk
      rw [if_pos (nI_le (Nat.le_refl _) (by omega))]
    · obtain ⟨c', hc'⟩ := hM (o k) (l4 k (by omega)).1
      have hr := r_lrg hM hL ha n (k + 1) (by omega) (by omega)
      have hs : lg A o a (k + 1) = if cmw A (o k) a ≤ lg A o a k then lg A o a k else cmw A (o k) a := rfl
      rw [hs] at hr
      rw [if_neg (nI_ge (show k < c by omega) (by omega)), r78_12, ld_t (N := 6) rfl rfl (by omega), (l4 k (by omega)).2.2, vi_t rfl (r_cmw hc' ha), nI_1]
      by_cases e : cmw A (o k) a ≤ lg A o a k
      · rw [if_pos e]
        rw [if_pos e] at hr
        exact hr
      · rw [if_neg e]
        rw [if_neg e] at hr
        exact hr
theorem r_largest (hM : ∀ m, m < 6 → MRl A B m) (hL : LO A B o c) {a : Nat} (ha : a < 16) : fn_Ref_largest 78 (nI a) B = ri (lg A o a c) B := r_lrg hM hL ha FU 0 (Nat.zero_le _) (by have := hL.2.2.1; have := fu_ge; omega)
theorem lg_in (hM : ∀ m, m < 6 → MRl A B m) (ho : ∀ k, k < c → o k < 6) {a : Nat} (ha : a < 16) : ∀ k, k ≤ c → (0 ≤ lg A o a k ∧ lg A o a k ≤ 16) ∧ (lg A o a k = 0 ↔ ∀ j, j < k → ¬ cmB A (o j) a)
  | 0, _ => ⟨⟨(by decide : (0 : Int32) ≤ 0), (by decide : (0 : Int32) ≤ 16)⟩, fun _ j hj => absurd hj (by omega), fun _ => rfl⟩
  | k + 1, hk => by
    obtain ⟨⟨i1, i2⟩, i3⟩ := lg_in hM ho ha k (by omega)
    obtain ⟨c', hc'⟩ := hM (o k) (ho k (by omega))
    obtain ⟨w1, w2⟩ := cmw_in hc'.1 ha
    show (0 ≤ (if cmw A (o k) a ≤ lg A o a k then lg A o a k else cmw A (o k) a) ∧ (if cmw A (o k) a ≤ lg A o a k then lg A o a k else cmw A (o k) a) ≤ 16) ∧ ((if cmw A (o k) a ≤ lg A o a k then lg A o a k else cmw A (o k) a) = 0 ↔ _)
    by_cases q : cmB A (o k) a
    · obtain ⟨-, -, -, -, -, -, q1, q2⟩ := w1 q
      by_cases e : cmw A (o k) a ≤ lg A o a k
      · rw [if_pos e]
        refine ⟨⟨i1, i2⟩, fun z => ?_, fun z => absurd q (z k (by omega))⟩
        rw [z] at e
        exact absurd (Int32.le_trans q1 e) (by decide)
      · rw [if_neg e]
        refine ⟨⟨Int32.le_trans (by decide) q1, q2⟩, fun z => ?_, fun z => absurd q (z k (by omega))⟩
        rw [z] at q1
        exact absurd q1 (by decide)
    · rw [w2 q, if_pos i1]
      refine ⟨⟨i1, i2⟩, fun z => lt_s (i3.mp z) q, fun z => i3.mpr (fun j hj => z j (by omega))⟩
/-- the name a is wanted -/
def wnt (A : fm_I) (o : Nat → Nat) (c : Nat) (want : Int32) (a : Nat) : Prop := (want = nI a ∨ ∃ k, k < c ∧ rfB A (o k) a) ∧ (∀ k, k < c → ¬ exB A (o k) a) ∧ (∀ k, k < c → ¬ cmB A (o k) a)
theorem r_wnt_lp (hM : ∀ m, m < 6 → MRl A B m) (hL : LO A B o c) {want : Int32} {a : Nat} (ha : a < 16) : ∀ (n k : Nat) (z : Int32), k ≤ c → c < n + k → ((z = 1 ∧ (want = nI a ∨ ∃ j, j < k ∧ rfB A (o j) a)) ∨ (z = 0 ∧ ¬ (want = nI a ∨ ∃ j, j < k ∧ rfB A (o j) a))) → ∃ z', fn_Ref_wanted_16 n 78 (nI a) z (nI k) B = ri z' B ∧ ((z' = 1 ∧ wnt A o c want a) ∨ (z' = 0 ∧ ¬ wnt A o c want a))
  | 0, k, z, h1, h2, _ => by omega
  | n + 1, k, z, h1, h2, hz => by
    obtain ⟨l1, l2, l3, l4, l5⟩ := id hL
    unfold fn_Ref_wanted_16
    rw [g78_11, l2]
    by_cases hk : k = c
    · subst hk
      rw [if_pos (nI_le (Nat.le_refl _) (by omega))]
      rcases hz with ⟨rfl, hz⟩ | ⟨rfl, hz⟩
      · rw [if_neg (by decide), vi_t rfl (r_exporters hM hL ha)]
        by_cases e0 : ec A o a k = 0
        · rw [e0, if_pos (show nI 0 = 0 from rfl), vi_t rfl (r_largest hM hL ha)]
          have hlg := (lg_in hM (fun j hj => (l4 j hj).1) ha k (Nat.le_refl _)).2
          by_cases e1 : lg A o a k = 0
          · rw [if_pos e1, rz_1]
            exact ⟨1, rfl, Or.inl ⟨rfl, hz, ec_0.mp e0, hlg.mp e1⟩⟩
          · rw [if_neg e1, rz_0]
            exact ⟨0, rfl, Or.inr ⟨rfl, fun q => e1 (hlg.mpr q.2.2)⟩⟩
        · have := ec_le A o a k
          rw [if_neg (nI_ne0 (by omega) (by omega)), rz_0]
          exact ⟨0, rfl, Or.inr ⟨rfl, fun q => e0 (ec_0.mpr q.2.1)⟩⟩
      · rw [if_pos rfl, rz_0]
        exact ⟨0, rfl, Or.inr ⟨rfl, fun q => hz q.1⟩⟩
    · obtain ⟨c', hc'⟩ := hM (o k) (l4 k (by omega)).1
      rw [if_neg (nI_ge (show k < c by omega) (by omega)), nI_1]
      rcases hz with ⟨rfl, hz⟩ | ⟨rfl, hz⟩
      · rw [if_neg (by decide)]
        exact r_wnt_lp hM hL ha n (k + 1) 1 (by omega) (by omega) (Or.inl ⟨rfl, hz.imp id (fun ⟨j, j1, j2⟩ => ⟨j, by omega, j2⟩)⟩)
      · rw [if_pos rfl, r78_12, ld_t (N := 6) rfl rfl (by omega), (l4 k (by omega)).2.2, vi_t rfl (r_refers hc' ha)]
        by_cases e : rfB A (o k) a
        · rw [zb_t e, if_neg (by decide)]
          exact r_wnt_lp hM hL ha n (k + 1) 1 (by omega) (by omega) (Or.inl ⟨rfl, Or.inr ⟨k, by omega, e⟩⟩)
        · rw [zb_f e, if_pos (by decide)]
          refine r_wnt_lp hM hL ha n (k + 1) 0 (by omega) (by omega) (Or.inr ⟨rfl, fun q => hz (q.imp id (fun ⟨j, j1, j2⟩ => ?_))⟩)
          by_cases ej : j = k
          · subst ej; exact absurd j2 e
          · exact ⟨j, by omega, j2⟩
theorem r_wanted (hM : ∀ m, m < 6 → MRl A B m) (hL : LO A B o c) {a : Nat} (ha : a < 16) : ∃ z', fn_Ref_wanted 78 (nI a) B = ri z' B ∧ ((z' = 1 ∧ wnt A o c (B 78 10) a) ∨ (z' = 0 ∧ ¬ wnt A o c (B 78 10) a)) := by
  unfold fn_Ref_wanted
  rw [g78_10]
  have hf : c < FU + 0 := by have := hL.2.2.1; have := fu_ge; omega
  by_cases e : B 78 10 = nI a
  · rw [if_pos e]
    exact r_wnt_lp hM hL ha FU 0 1 (Nat.zero_le _) hf (Or.inl ⟨rfl, Or.inl e⟩)
  · rw [if_neg e]
    exact r_wnt_lp hM hL ha FU 0 0 (Nat.zero_le _) hf (Or.inr ⟨rfl, fun q => q.elim e (fun ⟨j, hj, _⟩ => absurd hj (by omega))⟩)
theorem r_help_lp (hM : ∀ m, m < 6 → MRl A B m) (hL : LO A B o c) {m : Nat} (hm : m < 6) : ∀ (n k : Nat) (z : Int32), k ≤ 16 → 16 < n + k → ((z = 1 ∧ ∃ a, a < k ∧ exB A m a ∧ wnt A o c (B 78 10) a) ∨ (z = 0 ∧ ∀ a, a < k → ¬ (exB A m a ∧ wnt A o c (B 78 10) a))) → ∃ z', fn_Ref_helps_4 n 78 (nI m) z (nI k) B = ri z' B ∧ ((z' = 1 ∧ ∃ a, a < 16 ∧ exB A m a ∧ wnt A o c (B 78 10) a) ∨ (z' = 0 ∧ ∀ a, a < 16 → ¬ (exB A m a ∧ wnt A o c (B 78 10) a)))
  | 0, k, z, h1, h2, _ => by omega
  | n + 1, k, z, h1, h2, hz => by
    unfold fn_Ref_helps_4
    by_cases hk : k = 16
    · subst hk
      rw [if_pos (show (16 : Int32) ≤ nI 16 by decide)]
      refine ⟨z, ?_, hz⟩
      rcases hz with ⟨rfl, -⟩ | ⟨rfl, -⟩
      · exact rz_1
      · exact rz_0
    · obtain ⟨c', hc'⟩ := hM m hm
      rw [if_neg (show ¬ (16 : Int32) ≤ nI k from nI_ge (b := 16) (by omega) (by decide)), nI_1]
      rcases hz with ⟨rfl, a, a1, a2⟩ | ⟨rfl, hz⟩
      · rw [if_neg (by decide)]
        exact r_help_lp hM hL hm n (k + 1) 1 (by omega) (by omega) (Or.inl ⟨rfl, a, by omega, a2⟩)
      · rw [if_pos rfl, vi_t rfl (r_exports hc' (show k < 16 by omega))]
        have go : ¬ (exB A m k ∧ wnt A o c (B 78 10) k) → _ := fun q => r_help_lp hM hL hm n (k + 1) 0 (by omega) (by omega) (Or.inr ⟨rfl, lt_s hz q⟩)
        by_cases e : exB A m k
        · rw [zb_t e, if_neg (by decide)]
          obtain ⟨z', e1, ⟨rfl, e2⟩ | ⟨rfl, e2⟩⟩ := r_wanted hM hL (a := k) (by omega)
          · rw [vi_t rfl e1, if_neg (by decide)]
            exact r_help_lp hM hL hm n (k + 1) 1 (by omega) (by omega) (Or.inl ⟨rfl, k, by omega, e, e2⟩)
          · rw [vi_t rfl e1, if_pos (by decide)]
            exact go (fun q => e2 q.2)
        · rw [zb_f e, if_pos (by decide)]
          exact go (fun q => e q.1)
theorem r_helps (hM : ∀ m, m < 6 → MRl A B m) (hL : LO A B o c) {m : Nat} (hm : m < 6) : ∃ z', fn_Ref_helps 78 (nI m) B = ri z' B ∧ ((z' = 1 ∧ ∃ a, a < 16 ∧ exB A m a ∧ wnt A o c (B 78 10) a) ∨ (z' = 0 ∧ ∀ a, a < 16 → ¬ (exB A m a ∧ wnt A o c (B 78 10) a))) := r_help_lp hM hL hm FU 0 0 (Nat.zero_le _) (by have := fu_ge; omega) (Or.inr ⟨rfl, lt_0⟩)
theorem r_isIn_lp (hL : LO A B o c) {m : Nat} (hm : m < 6) : ∀ (n k : Nat) (z : Int32), k ≤ c → c < n + k → ((z = 1 ∧ ∃ j, j < k ∧ o j = m) ∨ (z = 0 ∧ ∀ j, j < k → o j ≠ m)) → ∃ z', fn_Ref_isIn_4 n 78 (nI m) z (nI k) B = ri z' B ∧ ((z' = 1 ∧ ∃ j, j < c ∧ o j = m) ∨ (z' = 0 ∧ ∀ j, j < c → o j ≠ m))
  | 0, k, z, h1, h2, _ => by omega
  | n + 1, k, z, h1, h2, hz => by
    obtain ⟨l1, l2, l3, l4, l5⟩ := id hL
    unfold fn_Ref_isIn_4
    rw [g78_11, l2]
    by_cases hk : k = c
    · subst hk
      rw [if_pos (nI_le (Nat.le_refl _) (by omega))]
      refine ⟨z, ?_, hz⟩
      rcases hz with ⟨rfl, -⟩ | ⟨rfl, -⟩
      · exact rz_1
      · exact rz_0
    · rw [if_neg (nI_ge (show k < c by omega) (by omega)), nI_1]
      rcases hz with ⟨rfl, j, j1, j2⟩ | ⟨rfl, hz⟩
      · rw [if_neg (by decide)]
        exact r_isIn_lp hL hm n (k + 1) 1 (by omega) (by omega) (Or.inl ⟨rfl, j, by omega, j2⟩)
      · have hk6 := (l4 k (by omega)).1
        rw [if_pos rfl, r78_12, ld_t (N := 6) rfl rfl (by omega), (l4 k (by omega)).2.2]
        by_cases e : o k = m
        · rw [if_pos (by rw [e])]
          exact r_isIn_lp hL hm n (k + 1) 1 (by omega) (by omega) (Or.inl ⟨rfl, k, by omega, e⟩)
        · rw [if_neg (fun q => e ((nI_eq (by omega) (by omega)).mp q))]
          exact r_isIn_lp hL hm n (k + 1) 0 (by omega) (by omega) (Or.inr ⟨rfl, lt_s hz e⟩)
theorem r_isIn (hL : LO A B o c) {m : Nat} (hm : m < 6) : ∃ z', fn_Ref_isIn 78 (nI m) B = ri z' B ∧ ((z' = 1 ∧ ∃ j, j < c ∧ o j = m) ∨ (z' = 0 ∧ ∀ j, j < c → o j ≠ m)) := r_isIn_lp hL hm FU 0 0 (Nat.zero_le _) (by have := hL.2.2.1; have := fu_ge; omega) (Or.inr ⟨rfl, lt_0⟩)
end SL
