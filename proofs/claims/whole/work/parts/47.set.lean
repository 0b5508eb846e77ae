-- which jumps are long: the class's side
theorem mw_16 {K A g : Nat → Int32} {k : Nat} (h5 : K k = 5 → 1 ≤ A k ∧ A k ≤ 16) : mw K A g k ≤ 16 := by
  unfold mw
  split
  · omega
  · split
    · rename_i h
      obtain ⟨j, hj, e⟩ := nI_of2 (x := A k) (M := 16) (n := 16) (by decide) (fun q => Int32.not_le.mpr q (Int32.le_trans (by decide) (h5 h).1)) (h5 h).2
      rw [e, nI_clamp (by omega)]
      exact hj
    · split
      · split <;> omega
      · omega
theorem mp_16 {K A S g : Nat → Int32} {s : Int32} : ∀ k, (∀ j, j < k → K j = 5 → 1 ≤ A j ∧ A j ≤ 16) → mp K A S g s k ≤ 16 * k
  | 0, _ => Nat.le_refl _
  | k + 1, h => by
    have h1 := mp_16 (S := S) (g := g) (s := s) k (fun j hj => h j (by omega))
    have h2 := mw_16 (K := K) (A := A) (g := g) (k := k) (h k (by omega))
    rw [mp_succ]
    split <;> omega
section SET
variable {b c : Nat} {K A S G : Nat → Int32}
theorem c_wordsOf {I : fm_I} (hb : isMod b) (hK : I (b + 1) = K) (hA : I (b + 2) = A) (hG : I (b + 6) = G) {k : Nat} (hk : k < 20) (h5 : K k = 5 → 1 ≤ A k ∧ A k ≤ 16) : fn_Mod_wordsOf b (nI k) I = ri (nI (mw K A G k)) I := by
  unfold fn_Mod_wordsOf mw
  rw [mr0 hb, ld_t (mn1 hb) rfl hk, hK]
  by_cases e3 : K k = 3
  · rw [if_pos e3, if_pos (Or.inl e3)]; rfl
  · rw [if_neg e3]
    by_cases e4 : K k = 4
    · rw [if_pos e4, if_pos (Or.inr e4)]; rfl
    · rw [if_neg e4, if_neg (show ¬ (K k = 3 ∨ K k = 4) from fun q => q.elim e3 e4)]
      by_cases e5 : K k = 5
      · obtain ⟨j, hj, e⟩ := nI_of2 (x := A k) (M := 16) (n := 16) (by decide) (fun q => Int32.not_le.mpr q (Int32.le_trans (by decide) (h5 e5).1)) (h5 e5).2
        rw [if_pos e5, if_pos e5, mr1 hb, ld_t (mn2 hb) rfl hk, hA, e, nI_clamp (by omega)]
      · rw [if_neg e5, if_neg e5]
        by_cases e6 : K k = 6
        · rw [if_pos e6, if_pos e6, mr5 hb, ld_t (mn6 hb) rfl hk, hG]
          by_cases eg : G k = 0
          · rw [if_pos eg, if_pos eg]; rfl
          · rw [if_neg eg, if_neg eg]; rfl
        · rw [if_neg e6, if_neg e6]; rfl
/-- places and lengths fit the long jumps G -/
def plc (I : fm_I) (b c : Nat) (K A S G : Nat → Int32) : Prop := (∀ s, s < 3 → I (b + 7) s = nI (mp K A S G (nI s) c)) ∧ (∀ j, j < c → I (b + 5) j = nI (mp K A S G (S j) j))
theorem c_place22 (hb : isMod b) (hc : c ≤ 20) (hS : ∀ j, j < c → ∃ s, s < 3 ∧ S j = nI s) (h5 : ∀ j, j < c → K j = 5 → 1 ≤ A j ∧ A j ≤ 16) : ∀ (n k : Nat) (I : fm_I), I b 8 = nI c → I (b + 1) = K → I (b + 2) = A → I (b + 4) = S → I (b + 6) = G → k ≤ c → c < n + k → (∀ s, s < 3 → I (b + 7) s = nI (mp K A S G (nI s) k)) → (∀ j, j < k → I (b + 5) j = nI (mp K A S G (S j) j)) → ∃ J, fn_Mod_placeWords_22 n b (nI k) I = rv J ∧ (∀ q, q ≠ b + 5 → q ≠ b + 7 → J q = I q) ∧ plc J b c K A S G
  | 0, k, I, h1, _, _, _, _, h2, h3, _, _ => by omega
  | n + 1, k, I, h1, hK, hA, hSS, hG, h2, h3, h4, h6 => by
    unfold fn_Mod_placeWords_22
    rw [mg8 hb, h1]
    by_cases hk : k = c
    · subst hk
      rw [if_pos (nI_le (Nat.le_refl _) (by omega))]
      exact ⟨I, rfl, fun _ _ _ => rfl, h4, h6⟩
    · obtain ⟨s, hs, es⟩ := hS k (by omega)
      have hw := c_wordsOf (I := fm_up I (b + 5) k (I (b + 7) s)) hb ((fm_up_q _ (by omega)).trans hK) ((fm_up_q _ (by omega)).trans hA) ((fm_up_q _ (by omega)).trans hG) (k := k) (by omega) (h5 k (by omega))
      rw [if_neg (nI_ge (show k < c by omega) (by omega)), mr3 hb, ld_t (mn4 hb) rfl (by omega), hSS, es, mr4 hb, mr6 hb, ld_t (mn7 hb) rfl hs, sI_t (mn5 hb) rfl (by omega), mr6 hb, ld_t (mn7 hb) rfl hs, vi_t hb.1 hw, sI_t (mn7 hb) rfl hs, nI_1, fm_up_p _ _ _ (show b + 7 ≠ b + 5 by omega), h4 s hs, nI_add]
      obtain ⟨J, e1, e2, e3⟩ := c_place22 hb hc hS h5 n (k + 1) (fm_up (fm_up I (b + 5) k (nI (mp K A S G (nI s) k))) (b + 7) s (nI (mp K A S G (nI s) k + mw K A G k))) (by rw [fm_up_p _ _ _ (by omega), fm_up_p _ _ _ (by omega)]; exact h1) (((fm_up_q _ (by omega)).trans (fm_up_q _ (by omega))).trans hK) (((fm_up_q _ (by omega)).trans (fm_up_q _ (by omega))).trans hA) (((fm_up_q _ (by omega)).trans (fm_up_q _ (by omega))).trans hSS) (((fm_up_q _ (by omega)).trans (fm_up_q _ (by omega))).trans hG) (by omega) (by omega) (fun s' hs' => by
          rw [mp_succ, es]
          by_cases e : s' = s
          · subst e
            rw [fm_up_s, if_pos rfl]
          · rw [fm_up_k _ _ e, fm_up_p _ _ _ (by omega), if_neg (fun q => e ((nI_eq (by omega) (by omega)).mp q).symm)]
            exact h4 s' hs') (fun j hj => by
          rw [fm_up_p _ _ _ (by omega)]
          by_cases e : j = k
          · subst e
            rw [fm_up_s, es]
          · rw [fm_up_k _ _ e]
            exact h6 j (by omega))
      refine ⟨J, e1, fun q q1 q2 => ?_, e3⟩
      rw [e2 q q1 q2, fm_up_q _ q2, fm_up_q _ q1]
theorem c_place2 (hb : isMod b) (hc : c ≤ 20) (hS : ∀ j, j < c → ∃ s, s < 3 ∧ S j = nI s) (h5 : ∀ j, j < c → K j = 5 → 1 ≤ A j ∧ A j ≤ 16) : ∀ (n k : Nat) (I : fm_I), I b 8 = nI c → I (b + 1) = K → I (b + 2) = A → I (b + 4) = S → I (b + 6) = G → k ≤ 3 → 3 < n + k → (∀ s, s < k → I (b + 7) s = 0) → ∃ J, fn_Mod_placeWords_2 n b (nI k) I = rv J ∧ (∀ q, q ≠ b + 5 → q ≠ b + 7 → J q = I q) ∧ plc J b c K A S G
  | 0, k, I, h1, _, _, _, _, h2, h3, _ => by omega
  | n + 1, k, I, h1, hK, hA, hSS, hG, h2, h3, h4 => by
    unfold fn_Mod_placeWords_2
    by_cases hk : k = 3
    · subst hk
      rw [if_pos (show (3 : Int32) ≤ nI 3 by decide)]
      exact c_place22 hb hc hS h5 FU 0 I h1 hK hA hSS hG (Nat.zero_le _) (by have := fu_ge; omega) (fun s hs => h4 s hs) lt_0
    · rw [if_neg (show ¬ (3 : Int32) ≤ nI k from nI_ge (b := 3) (by omega) (by decide)), mr6 hb, sI_t (mn7 hb) rfl (by omega), nI_1]
      obtain ⟨J, e1, e2, e3⟩ := c_place2 hb hc hS h5 n (k + 1) (fm_up I (b + 7) k 0) (by rw [fm_up_p _ _ _ (by omega)]; exact h1) ((fm_up_q _ (by omega)).trans hK) ((fm_up_q _ (by omega)).trans hA) ((fm_up_q _ (by omega)).trans hSS) ((fm_up_q _ (by omega)).trans hG) (by omega) (by omega) (fun s hs => by
        by_cases e : s = k
        · subst e; rw [fm_up_s]
        · rw [fm_up_k _ _ e]; exact h4 s (by omega))
      exact ⟨J, e1, fun q q1 q2 => (e2 q q1 q2).trans (fm_up_q _ q2), e3⟩
theorem c_placeWords {I : fm_I} (hb : isMod b) (hc : c ≤ 20) (hS : ∀ j, j < c → ∃ s, s < 3 ∧ S j = nI s) (h5 : ∀ j, j < c → K j = 5 → 1 ≤ A j ∧ A j ≤ 16) (h1 : I b 8 = nI c) (hK : I (b + 1) = K) (hA : I (b + 2) = A) (hSS : I (b + 4) = S) (hG : I (b + 6) = G) : ∃ J, fn_Mod_placeWords b I = rv J ∧ (∀ q, q ≠ b + 5 → q ≠ b + 7 → J q = I q) ∧ plc J b c K A S G := c_place2 hb hc hS h5 FU 0 I h1 hK hA hSS hG (Nat.zero_le _) (by have := fu_ge; omega) lt_0
-- one pass that makes far jumps long
theorem c_len (hb : isMod b) (hc : c ≤ 20) {Gz : Nat → Int32} {dist : Nat → Int32} {I0 : fm_I} (hd : ∀ j, j < c → K j = 6 → Gz j = 0 → ∀ I, (∀ q, q ≠ b + 6 → I q = I0 q) → fn_Mod_distanceOf b (nI j) I = ri (dist j) I) : ∀ (n k : Nat) (z : Int32) (I : fm_I), (∀ q, q ≠ b + 6 → I q = I0 q) → I0 b 8 = nI c → I0 (b + 1) = K → k ≤ c → c < n + k → (∀ j, k ≤ j → j < c → I (b + 6) j = Gz j) → (∀ j, j < k → I (b + 6) j = if K j = 6 ∧ Gz j = 0 ∧ ¬ (-8 ≤ dist j ∧ dist j ≤ 7) then 1 else Gz j) → ((z = 0 ∧ ∀ j, j < k → ¬ (K j = 6 ∧ Gz j = 0 ∧ ¬ (-8 ≤ dist j ∧ dist j ≤ 7))) ∨ (z = 1 ∧ ∃ j, j < k ∧ (K j = 6 ∧ Gz j = 0 ∧ ¬ (-8 ≤ dist j ∧ dist j ≤ 7)))) → ∃ z' J, fn_Mod_lengthenFarJumps_4 n b z (nI k) I = ri z' J ∧ (∀ q, q ≠ b + 6 → J q = I0 q) ∧ (∀ j, j < c → J (b + 6) j = if K j = 6 ∧ Gz j = 0 ∧ ¬ (-8 ≤ dist j ∧ dist j ≤ 7) then 1 else Gz j) ∧ ((z' = 0 ∧ ∀ j, j < c → ¬ (K j = 6 ∧ Gz j = 0 ∧ ¬ (-8 ≤ dist j ∧ dist j ≤ 7))) ∨ (z' = 1 ∧ ∃ j, j < c ∧ (K j = 6 ∧ Gz j = 0 ∧ ¬ (-8 ≤ dist j ∧ dist j ≤ 7))))
  | 0, k, z, I, _, _, _, h2, h3, _, _, _ => by omega
  | n + 1, k, z, I, hI, h1, hK, h2, h3, h4, h5, h6 => by
    unfold fn_Mod_lengthenFarJumps_4
    rw [mg8 hb, hI b (by omega), h1]
    by_cases hk : k = c
    · subst hk
      rw [if_pos (nI_le (Nat.le_refl _) (by omega))]
      refine ⟨z, I, ?_, hI, h5, h6⟩
      rcases h6 with ⟨rfl, -⟩ | ⟨rfl, -⟩
      · exact rz_0
      · exact rz_1
    · rw [if_neg (nI_ge (show k < c by omega) (by omega)), mr0 hb, ld_t (mn1 hb) rfl (by omega), hI (b + 1) (by omega), hK, nI_1]
      have step : ¬ (K k = 6 ∧ Gz k = 0 ∧ ¬ (-8 ≤ dist k ∧ dist k ≤ 7)) → ∃ z' J, fn_Mod_lengthenFarJumps_4 n b z (nI (k + 1)) I = ri z' J ∧ (∀ q, q ≠ b + 6 → J q = I0 q) ∧ (∀ j, j < c → J (b + 6) j = if K j = 6 ∧ Gz j = 0 ∧ ¬ (-8 ≤ dist j ∧ dist j ≤ 7) then 1 else Gz j) ∧ ((z' = 0 ∧ ∀ j, j < c → ¬ (K j = 6 ∧ Gz j = 0 ∧ ¬ (-8 ≤ dist j ∧ dist j ≤ 7))) ∨ (z' = 1 ∧ ∃ j, j < c ∧ (K j = 6 ∧ Gz j = 0 ∧ ¬ (-8 ≤ dist j ∧ dist j ≤ 7)))) := fun hn => by
        refine c_len hb hc hd n (k + 1) z I hI h1 hK (by omega) (by omega) (fun j j1 j2 => h4 j (by omega) j2) (fun j hj => ?_) ?_
        · by_cases e : j = k
          · subst e
            rw [if_neg hn]
            exact h4 j (Nat.le_refl _) (by omega)
          · exact h5 j (by omega)
        · rcases h6 with ⟨e, h6⟩ | ⟨e, j, hj, h6⟩
          · exact Or.inl ⟨e, lt_s h6 hn⟩
          · exact Or.inr ⟨e, j, by omega, h6⟩
      by_cases e6 : K k = 6
      · rw [if_pos e6, mr5 hb, ld_t (mn6 hb) rfl (by omega), h4 k (Nat.le_refl _) (by omega)]
        by_cases eg : Gz k = 0
        · rw [if_pos eg, vi_t hb.1 (hd k (by omega) e6 eg I hI), bi_t (px_within _ _ _ _)]
          by_cases ew : -8 ≤ dist k ∧ dist k ≤ 7
          · rw [zb_t ew, if_neg (by decide)]
            exact step (fun q => q.2.2 ew)
          · rw [zb_f ew, if_pos (by decide), mr5 hb, sZ_t (mn6 hb) rfl (by omega), show vp_nar .boolean 1 = 1 by decide]
            refine c_len hb hc hd n (k + 1) 1 (fm_up I (b + 6) k 1) (fun q hq => (fm_up_q _ hq).trans (hI q hq)) h1 hK (by omega) (by omega) (fun j j1 j2 => ?_) (fun j hj => ?_) (Or.inr ⟨rfl, k, by omega, e6, eg, ew⟩)
            · rw [fm_up_k _ _ (by omega)]; exact h4 j (by omega) j2
            · by_cases e : j = k
              · subst e
                rw [fm_up_s, if_pos ⟨e6, eg, ew⟩]
              · rw [fm_up_k _ _ e]; exact h5 j (by omega)
        · rw [if_neg eg]
          exact step (fun q => eg q.2.1)
      · rw [if_neg e6]
        exact step (fun q => e6 q.1)
end SET
