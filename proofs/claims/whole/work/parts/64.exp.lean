-- exports noted, words made zero, class side; bounds
section EX
variable {A B : fm_I} {o : Nat → Nat} {c : Nat} {lw : Nat → Nat → Nat}
theorem c_note12 (h : LB A B o c lw) {k cm : Nat} (hk : k < c) (hc : MRc A B (o k) cm) : ∀ (n a : Nat) (A' : fm_I), FRI A A' → (∀ s k, s < 3 → k < c → A' (65 + o k) s = nI (ss_ lw o c s + sl_ lw o s k)) → a ≤ 16 → 16 < n + a → ∃ A'', fn_Img_noteExports_12 n 63 (nI (o k)) (A (2 + 9 * o k) 9 &&& A (2 + 9 * o k) 11) (nI a) A' = rv A'' ∧ (∀ q, q ≠ 73 → A'' q = A' q) ∧ (∀ a', a' < 16 → (a ≤ a' ∧ exB A (o k) a' → A'' 73 a' = vdf A o c lw k (A (2 + 9 * o k + 8) a').toNatClampNeg) ∧ (¬ (a ≤ a' ∧ exB A (o k) a') → A'' 73 a' = A' 73 a'))
  | 0, a, A', _, _, h1, h2 => by omega
  | n + 1, a, A', hf, hbs, h1, h2 => by
    unfold fn_Img_noteExports_12
    by_cases e16 : a = 16
    · subst e16
      rw [if_pos (show (16 : Int32) ≤ nI 16 by decide)]
      exact ⟨A', rfl, fun _ _ => rfl, fun a' ha' => ⟨fun q => absurd q.1 (by omega), fun _ => rfl⟩⟩
    · have ha : a < 16 := by omega
      rw [if_neg (show ¬ (16 : Int32) ≤ nI a from nI_ge (b := 16) ha (by decide)), bi_t (px_has ha), nI_1]
      have hbt : bt (A (2 + 9 * o k) 9 &&& A (2 + 9 * o k) 11) a = true ↔ exB A (o k) a := by rw [b_and, Bool.and_eq_true]
      by_cases e : exB A (o k) a
      · rw [zb_t (hbt.mpr e), if_neg (by decide), r63_5, vi_t rfl (c_stands h hf hbs hk hc ha), if_pos e.1, sI_t (N := 16) rfl rfl ha]
        obtain ⟨A'', e1, e2, e3⟩ := c_note12 h hk hc n (a + 1) (fm_up A' 73 a (vdf A o c lw k (A (2 + 9 * o k + 8) a).toNatClampNeg)) (hf.tr (fun q hq => fm_up_q _ (by omega))) (fun s k' hs hk' => by
          have h6 := (h.2.1.2.2.2.1 k' hk').1
          rw [fm_up_p _ _ _ (by omega)]; exact hbs s k' hs hk') (by omega) (by omega)
        refine ⟨A'', e1, fun q hq => (e2 q hq).trans (fm_up_q _ hq), fun a' ha' => ⟨fun q => ?_, fun q => ?_⟩⟩
        · by_cases ea : a' = a
          · subst ea
            rw [(e3 a' ha').2 (fun z => absurd z.1 (by omega)), fm_up_s]
          · exact (e3 a' ha').1 ⟨by omega, q.2⟩
        · have ea : a' ≠ a := fun z => q ⟨by omega, by rw [z]; exact e⟩
          rw [(e3 a' ha').2 (fun z => q ⟨by omega, z.2⟩), fm_up_k _ _ ea]
      · rw [zb_f (fun q => e (hbt.mp q)), if_pos (by decide)]
        obtain ⟨A'', e1, e2, e3⟩ := c_note12 h hk hc n (a + 1) A' hf hbs (by omega) (by omega)
        refine ⟨A'', e1, e2, fun a' ha' => ⟨fun q => ?_, fun q => ?_⟩⟩
        · exact (e3 a' ha').1 ⟨by
            have : a' ≠ a := fun z => e (by rw [← z]; exact q.2)
            omega, q.2⟩
        · exact (e3 a' ha').2 (fun z => q ⟨by omega, z.2⟩)
/-- values behind the exports of the first k modules -/
def VS (A : fm_I) (o : Nat → Nat) (c : Nat) (lw : Nat → Nat → Nat) (k : Nat) (v : Nat → Int32) : Prop := ∀ a, a < 16 → (∃ k', k' < k ∧ exB A (o k') a ∧ v a = vdf A o c lw k' (A (2 + 9 * o k' + 8) a).toNatClampNeg) ∨ ((∀ k', k' < k → ¬ exB A (o k') a) ∧ ((loP A o c a ∧ v a = nI (ss_ lw o c 3 + cbA A o c a)) ∨ (¬ loP A o c a ∧ v a = -1)))
theorem c_b22 (h : LB A B o c lw) (want : Int32) : ∀ (n k : Nat) (A' : fm_I), FRI A A' → (∀ s k, s < 3 → k < c → A' (65 + o k) s = nI (ss_ lw o c s + sl_ lw o s k)) → VS A o c lw k (A' 73) → k ≤ c → c < n + k → ∃ A'', fn_Img_build_22 n 63 want (nI k) A' = vv 4 63 (fn_Img_makeWordsZero 63 A'') (fun J4 => fn_Img_build_57 FU 63 want 0 J4) ∧ (∀ q, q ≠ 73 → A'' q = A' q) ∧ VS A o c lw c (A'' 73)
  | 0, k, A', _, _, _, h1, h2 => by omega
  | n + 1, k, A', hf, hbs, hv, h1, h2 => by
    have hla := h.la.fr hf
    have hc6 := h.2.1.2.2.1
    unfold fn_Img_build_22
    rw [r63_1, vi_t rfl (c_hmI hla)]
    by_cases hk : k = c
    · subst hk
      rw [if_pos (nI_le (Nat.le_refl _) (by omega))]
      exact ⟨A', rfl, fun _ _ => rfl, hv⟩
    · have hk' : k < c := by omega
      have h6 := (h.2.1.2.2.2.1 k hk').1
      obtain ⟨hb, hq⟩ := isMod_m (o k) h6
      obtain ⟨cm, hc⟩ := h.1 (o k) h6
      have hex : fn_Mod_exportedNames (2 + 9 * o k) A' = ri (A (2 + 9 * o k) 9 &&& A (2 + 9 * o k) 11) A' := by
        rw [c_exN hb, hf _ (by omega)]
      obtain ⟨A1, e1, e2, e3⟩ := c_note12 h hk' hc FU 0 A' hf hbs (Nat.zero_le _) (by have := fu_ge; omega)
      have hne : fn_Img_noteExports 63 (nI (o k)) A' = rv A1 := by
        unfold fn_Img_noteExports
        rw [r63_0, la_t hq rfl, vi_t hb.1 hex]
        exact e1
      rw [if_neg (nI_ge hk' (by omega)), r63_1, vi_t rfl (c_maI hla hk'), vv_t rfl hne, nI_1]
      obtain ⟨A2, f1, f2, f3⟩ := c_b22 h want n (k + 1) A1 (hf.tr (fun q hq => e2 q (by omega))) (fun s k' hs hk' => by
        have h6 := (h.2.1.2.2.2.1 k' hk').1
        rw [e2 _ (by omega)]; exact hbs s k' hs hk') (fun a ha => by
        by_cases e : exB A (o k) a
        · exact Or.inl ⟨k, by omega, e, (e3 a ha).1 ⟨Nat.zero_le _, e⟩⟩
        · rw [(e3 a ha).2 (fun q => e q.2)]
          rcases hv a ha with ⟨k', k1, k2, k3⟩ | ⟨q1, q2⟩
          · exact Or.inl ⟨k', by omega, k2, k3⟩
          · exact Or.inr ⟨lt_s q1 e, q2⟩) (by omega) (by omega)
      exact ⟨A2, f1, fun q hq => (f2 q hq).trans (e2 q hq), f3⟩
theorem c_zero : ∀ (n k : Nat) (A' : fm_I), k ≤ 200 → 200 < n + k → (∀ j, j < k → A' 71 j = 0) → ∃ A'', fn_Img_makeWordsZero_2 n 63 (nI k) A' = rv A'' ∧ (∀ q, q ≠ 71 → A'' q = A' q) ∧ (∀ j, j < 200 → A'' 71 j = 0)
  | 0, k, A', h1, h2, _ => by omega
  | n + 1, k, A', h1, h2, h3 => by
    unfold fn_Img_makeWordsZero_2
    by_cases hk : k = 200
    · subst hk
      rw [if_pos (show (200 : Int32) ≤ nI 200 by decide)]
      exact ⟨A', rfl, fun _ _ => rfl, h3⟩
    · rw [if_neg (show ¬ (200 : Int32) ≤ nI k from nI_ge (b := 200) (by omega) (by decide)), r63_3, sI_t (N := 200) rfl rfl (by omega), nI_1]
      obtain ⟨A'', e1, e2, e3⟩ := c_zero n (k + 1) (fm_up A' 71 k 0) (by omega) (by omega) (fun j hj => by
        by_cases e : j = k
        · subst e; rw [fm_up_s]
        · rw [fm_up_k _ _ e]; exact h3 j (by omega))
      exact ⟨A'', e1, fun q hq => (e2 q hq).trans (fm_up_q _ hq), e3⟩
theorem r_zero : ∀ (n k : Nat) (B' : fm_I), k ≤ 200 → 200 < n + k → (∀ j, j < k → B' 88 j = 0) → ∃ B'', fn_Ref_layOut_2 n 78 (nI k) B' = fn_Ref_layOut_24 FU 78 0 B'' ∧ (∀ q, q ≠ 88 → B'' q = B' q) ∧ (∀ j, j < 200 → B'' 88 j = 0)
  | 0, k, B', h1, h2, _ => by omega
  | n + 1, k, B', h1, h2, h3 => by
    unfold fn_Ref_layOut_2
    by_cases hk : k = 200
    · subst hk
      rw [if_pos (show (200 : Int32) ≤ nI 200 by decide)]
      exact ⟨B', rfl, fun _ _ => rfl, h3⟩
    · rw [if_neg (show ¬ (200 : Int32) ≤ nI k from nI_ge (b := 200) (by omega) (by decide)), r78_16, sI_t (N := 200) rfl rfl (by omega), nI_1]
      obtain ⟨B'', e1, e2, e3⟩ := r_zero n (k + 1) (fm_up B' 88 k 0) (by omega) (by omega) (fun j hj => by
        by_cases e : j = k
        · subst e; rw [fm_up_s]
        · rw [fm_up_k _ _ e]; exact h3 j (by omega))
      exact ⟨B'', e1, fun q hq => (e2 q hq).trans (fm_up_q _ hq), e3⟩
-- bounds
theorem sl_mono {lw : Nat → Nat → Nat} {o : Nat → Nat} {s i : Nat} : ∀ j, i ≤ j → sl_ lw o s i ≤ sl_ lw o s j
  | 0, h => by
    have : i = 0 := by omega
    subst this
    exact Nat.le_refl _
  | j + 1, h => by
    by_cases e : i = j + 1
    · subst e; exact Nat.le_refl _
    · have := sl_mono (lw := lw) (o := o) (s := s) (i := i) j (by omega)
      show sl_ lw o s i ≤ sl_ lw o s j + lw (o j) s
      omega
theorem ss_le {s : Nat} (hs : s < 3) : ss_ lw o c s + sl_ lw o s c ≤ ss_ lw o c 3 := by
  have h3 : ss_ lw o c 3 = 0 + sl_ lw o 0 c + sl_ lw o 1 c + sl_ lw o 2 c := rfl
  match s, hs with
  | 0, _ => show 0 + sl_ lw o 0 c ≤ _; omega
  | 1, _ => show 0 + sl_ lw o 0 c + sl_ lw o 1 c ≤ _; omega
  | 2, _ => show 0 + sl_ lw o 0 c + sl_ lw o 1 c + sl_ lw o 2 c ≤ _; omega
theorem adr_le (h : LB A B o c lw) {k cm : Nat} (hk : k < c) (hc : MRc A B (o k) cm) {d : Nat} (hd : d < cm) : adr A o c lw k d + mw (A (2 + 9 * o k + 1)) (A (2 + 9 * o k + 2)) (A (2 + 9 * o k + 6)) d ≤ ss_ lw o c 3 := by
  obtain ⟨s, s1, s2, s3, s4, s5⟩ := pl_n h hc hd
  have h6 := (h.2.1.2.2.2.1 k hk).1
  have hc20 := hc.1.2.1
  have b1 := mp_16 (S := A (2 + 9 * o k + 4)) (g := A (2 + 9 * o k + 6)) (s := nI s) cm (fun j hj => hc.1.A5 j hj)
  obtain ⟨w1, w2⟩ := h.2.2 (o k) s h6 s1
  have hlw : lw (o k) s = mp (A (2 + 9 * o k + 1)) (A (2 + 9 * o k + 2)) (A (2 + 9 * o k + 4)) (A (2 + 9 * o k + 6)) (nI s) cm := (nI_eq (by omega) (by omega)).mp (w1.symm.trans (hc.2.1.2.2.1 s s1))
  have h1 := mp_up (K := A (2 + 9 * o k + 1)) (A := A (2 + 9 * o k + 2)) (S := A (2 + 9 * o k + 4)) (g := A (2 + 9 * o k + 6)) (s := nI s) (a := d + 1) cm (by omega)
  rw [mp_succ, s2, if_pos rfl] at h1
  have h2 := sl_mono (lw := lw) (o := o) (s := s) (i := k + 1) c (by omega)
  have h2' : sl_ lw o s (k + 1) = sl_ lw o s k + lw (o k) s := rfl
  have h3 := ss_le (lw := lw) (o := o) (c := c) s1
  unfold adr
  rw [s5, s4]
  omega
end EX
