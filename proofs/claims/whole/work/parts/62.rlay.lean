/-- everything that the building of an image reads, on both sides -/
def LB (A B : fm_I) (o : Nat → Nat) (c : Nat) (lw : Nat → Nat → Nat) : Prop := (∀ m, m < 6 → MRl A B m) ∧ LO A B o c ∧ (∀ m s, m < 6 → s < 3 → A (2 + 9 * m + 7) s = nI (lw m s) ∧ lw m s ≤ 320)
theorem LB.la {A B : fm_I} {o : Nat → Nat} {c : Nat} {lw : Nat → Nat → Nat} (h : LB A B o c lw) : LA A o c lw := ⟨h.2.1.1, h.2.1.2.2.1, fun k hk => ⟨(h.2.1.2.2.2.1 k hk).1, (h.2.1.2.2.2.1 k hk).2.1⟩, h.2.1.2.2.2.2, h.2.2⟩
section RY
variable {A B : fm_I} {o : Nat → Nat} {c : Nat} {lw : Nat → Nat → Nat}
theorem r_len (h : LB A B o c lw) {m s : Nat} (hm : m < 6) (hs : s < 3) : fn_Ref_length 78 (nI m) (nI s) B = ri (nI (lw m s)) B := by
  obtain ⟨cm, hc⟩ := h.1 m hm
  obtain ⟨h1, h2, h3, h4, h5, h6, h7⟩ := id hc
  have hmd : mdl (nI m) := ⟨nI_pos' (by omega), nI_le (b := 5) (by omega) (by decide)⟩
  unfold fn_Ref_length
  rw [vi_t rfl ref_module, zb_t hmd, if_neg (by decide), if_neg (nI_pos (by omega)), if_pos (show nI s ≤ 2 from nI_le (b := 2) (by omega) (by decide)), r78_0, ld_t (N := 6) rfl rfl hm, h4.2.2.1, n20, nI_add, vi_t rfl (r_place h4 (Nat.le_refl cm)), hc.mp (Nat.le_refl cm), ← h2.2.2.1 s hs, (h.2.2 m s hm hs).1]
theorem r_sum_lp (h : LB A B o c lw) {s : Nat} (hs : s < 3) : ∀ (n k : Nat), k ≤ c → c < n + k → fn_Ref_sum_4 n 78 (nI s) (nI (sl_ lw o s k)) (nI k) B = ri (nI (sl_ lw o s c)) B
  | 0, k, h1, h2 => by omega
  | n + 1, k, h1, h2 => by
    obtain ⟨l1, l2, l3, l4, l5⟩ := id h.2.1
    unfold fn_Ref_sum_4
    rw [g78_11, l2]
    by_cases hk : k = c
    · subst hk
      rw [if_pos (nI_le (Nat.le_refl _) (by omega))]
    · obtain ⟨o6, -, ob⟩ := l4 k (by omega)
      rw [if_neg (nI_ge (show k < c by omega) (by omega)), r78_12, ld_t (N := 6) rfl rfl (by omega), ob, vi_t rfl (r_len h o6 hs), nI_1, nI_add]
      exact r_sum_lp h hs n (k + 1) (by omega) (by omega)
theorem r_sum (h : LB A B o c lw) {s : Nat} (hs : s < 3) : fn_Ref_sum 78 (nI s) B = ri (nI (sl_ lw o s c)) B := r_sum_lp h hs FU 0 (Nat.zero_le _) (by have := h.2.1.2.2.1; have := fu_ge; omega)
theorem r_base14 (h : LB A B o c lw) {k0 s s' : Nat} (hk0 : k0 < c) (hs : s < 3) (hs' : s' ≤ s) (K : Nat → Int32 → Int32 → Int32 → Int32 → fm_I → pR) : ∀ (n k : Nat), k ≤ c → c < n + k → (s' = s → k ≤ k0) → (s' < s → fn_Ref_base_14 K n 78 (nI (o k0)) (nI s) (nI (ss_ lw o c s' + sl_ lw o s' k)) (nI s') (nI k) B = K 78 (nI (o k0)) (nI s) (nI (ss_ lw o c (s' + 1))) (nI (s' + 1)) B) ∧ (s' = s → fn_Ref_base_14 K n 78 (nI (o k0)) (nI s) (nI (ss_ lw o c s' + sl_ lw o s' k)) (nI s') (nI k) B = ri (nI (ss_ lw o c s + sl_ lw o s k0)) B)
  | 0, k, h1, h2, _ => by omega
  | n + 1, k, h1, h2, h3 => by
    obtain ⟨l1, l2, l3, l4, l5⟩ := id h.2.1
    unfold fn_Ref_base_14
    rw [g78_11, l2]
    by_cases hk : k = c
    · subst hk
      rw [if_pos (nI_le (Nat.le_refl _) (by omega)), nI_1]
      exact ⟨fun _ => rfl, fun q => by have := h3 q; omega⟩
    · obtain ⟨o6, -, ob⟩ := l4 k (by omega)
      have o60 := (l4 k0 hk0).1
      have ih := r_base14 h hk0 hs hs' K n (k + 1) (by omega) (by omega)
      rw [if_neg (nI_ge (show k < c by omega) (by omega))]
      by_cases es : s' = s
      · refine ⟨fun q => absurd q (by omega), fun _ => ?_⟩
        rw [if_pos (by rw [es]), r78_12, ld_t (N := 6) rfl rfl (by omega), ob]
        by_cases ek : k = k0
        · subst ek
          rw [if_pos rfl, es]
        · rw [if_neg (fun q => ek (l5 k k0 (by omega) hk0 ((nI_eq (by omega) (by omega)).mp q))), r78_12, ld_t (N := 6) rfl rfl (by omega), ob, vi_t rfl (r_len h o6 (show s' < 3 by omega)), nI_1, nI_add, Nat.add_assoc]
          exact (ih (fun q => by have := h3 q; omega)).2 es
      · refine ⟨fun q => ?_, fun q => absurd q es⟩
        rw [if_neg (fun q => es ((nI_eq (by omega) (by omega)).mp q)), r78_12, ld_t (N := 6) rfl rfl (by omega), ob, vi_t rfl (r_len h o6 (show s' < 3 by omega)), nI_1, nI_add, Nat.add_assoc]
        exact (ih (fun q => absurd q es)).1 q
theorem r_base5 (h : LB A B o c lw) {k0 s : Nat} (hk0 : k0 < c) (hs : s < 3) : ∀ (n s' : Nat), s' ≤ s → s < n + s' → fn_Ref_base_5 n 78 (nI (o k0)) (nI s) (nI (ss_ lw o c s')) (nI s') B = ri (nI (ss_ lw o c s + sl_ lw o s k0)) B
  | 0, s', h1, h2 => by omega
  | n + 1, s', h1, h2 => by
    unfold fn_Ref_base_5
    rw [if_neg (nI_nlt h1 (by omega))]
    have hh := r_base14 h hk0 hs h1 (fun a0 a1 a2 a3 a4 I => fn_Ref_base_5 n a0 a1 a2 a3 a4 I) FU 0 (Nat.zero_le _) (by have := h.2.1.2.2.1; have := fu_ge; omega) (fun _ => Nat.zero_le _)
    by_cases es : s' = s
    · exact hh.2 es
    · have e1 := hh.1 (by omega)
      have e1' : fn_Ref_base_14 (fun a0 a1 a2 a3 a4 I => fn_Ref_base_5 n a0 a1 a2 a3 a4 I) FU 78 (nI (o k0)) (nI s) (nI (ss_ lw o c s')) (nI s') 0 B = fn_Ref_base_5 n 78 (nI (o k0)) (nI s) (nI (ss_ lw o c (s' + 1))) (nI (s' + 1)) B := e1
      rw [e1']
      exact r_base5 h hk0 hs n (s' + 1) (by omega) (by omega)
theorem r_base (h : LB A B o c lw) {k0 s : Nat} (hk0 : k0 < c) (hs : s < 3) : fn_Ref_base 78 (nI (o k0)) (nI s) B = ri (nI (ss_ lw o c s + sl_ lw o s k0)) B := r_base5 h hk0 hs FU 0 (Nat.zero_le _) (by have := fu_ge; omega)
/-- a COMMON that no module exports -/
def loP (A : fm_I) (o : Nat → Nat) (c a : Nat) : Prop := ec A o a c = 0 ∧ lg A o a c ≠ 0
def loD (A : fm_I) (o : Nat → Nat) (c : Nat) : DecidablePred (loP A o c) := fun a => inferInstanceAs (Decidable (ec A o a c = 0 ∧ lg A o a c ≠ 0))
def lgN (A : fm_I) (o : Nat → Nat) (c a : Nat) : Nat := (lg A o a c).toNatClampNeg
theorem lgN_eq (h : LB A B o c lw) {a : Nat} (ha : a < 16) : lg A o a c = nI (lgN A o c a) ∧ lgN A o c a ≤ 16 := by
  have hi := (lg_in h.1 (fun k hk => (h.2.1.2.2.2.1 k hk).1) ha c (Nat.le_refl _)).1
  obtain ⟨j, hj, e⟩ := nI_of2 (x := lg A o a c) (M := 16) (n := 16) (by decide) (fun q => Int32.not_le.mpr q hi.1) hi.2
  unfold lgN
  rw [e, nI_clamp (by omega)]
  exact ⟨rfl, hj⟩
/-- words of COMMONs below the name a -/
def cbA (A : fm_I) (o : Nat → Nat) (c a : Nat) : Nat := @cb_ (loP A o c) (loD A o c) (lgN A o c) a
theorem cbA_s (A : fm_I) (o : Nat → Nat) (c a : Nat) : cbA A o c (a + 1) = cbA A o c a + (if ec A o a c = 0 then lgN A o c a else 0) := by
  show cbA A o c a + (@ite _ (loP A o c a) (loD A o c a) (lgN A o c a) 0) = _
  by_cases e0 : ec A o a c = 0
  · rw [if_pos e0]
    by_cases e1 : lg A o a c = 0
    · rw [if_neg (fun q => q.2 e1)]
      unfold lgN
      rw [e1]
      rfl
    · rw [if_pos ⟨e0, e1⟩]
  · rw [if_neg e0, if_neg (fun q => e0 q.1)]
theorem r_cb_lp (h : LB A B o c lw) {b : Nat} (hb : b ≤ 16) : ∀ (n a : Nat), a ≤ b → b < n + a → fn_Ref_commonsBelow_4 n 78 (nI b) (nI (cbA A o c a)) (nI a) B = ri (nI (cbA A o c b)) B
  | 0, a, h1, h2 => by omega
  | n + 1, a, h1, h2 => by
    unfold fn_Ref_commonsBelow_4
    by_cases hk : a = b
    · subst hk
      rw [if_pos (nI_le (Nat.le_refl _) (by omega))]
    · have ha : a < 16 := by omega
      have hr := r_cb_lp h hb n (a + 1) (by omega) (by omega)
      rw [cbA_s] at hr
      have hel := ec_le A o a c
      have hc6 := h.2.1.2.2.1
      rw [if_neg (nI_ge (show a < b by omega) (by omega)), vi_t rfl (r_exporters h.1 h.2.1 ha), nI_1]
      by_cases e0 : ec A o a c = 0
      · rw [if_pos (show nI (ec A o a c) = 0 by rw [e0]; rfl), vi_t rfl (r_largest h.1 h.2.1 ha), (lgN_eq h ha).1, nI_add]
        rw [if_pos e0] at hr
        exact hr
      · rw [if_neg (nI_ne0 (by omega) (by omega))]
        rw [if_neg e0] at hr
        exact hr
theorem r_cb (h : LB A B o c lw) {b : Nat} (hb : b ≤ 16) : fn_Ref_commonsBelow 78 (nI b) B = ri (nI (cbA A o c b)) B := r_cb_lp h hb FU 0 (Nat.zero_le _) (by have := fu_ge; omega)
end RY
