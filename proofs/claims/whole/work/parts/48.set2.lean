-- how many of the first c are long
def cn (g : Nat → Int32) : Nat → Nat
  | 0 => 0
  | c + 1 => cn g c + (if g c = 0 then 0 else 1)
theorem cn_le (g : Nat → Int32) : ∀ c, cn g c ≤ c
  | 0 => Nat.le_refl _
  | c + 1 => by
    have := cn_le g c
    show cn g c + (if g c = 0 then 0 else 1) ≤ c + 1
    split <;> omega
theorem cn_mono {g g' : Nat → Int32} : ∀ c, (∀ j, j < c → g j ≠ 0 → g' j ≠ 0) → cn g c ≤ cn g' c
  | 0, _ => Nat.le_refl _
  | c + 1, h => by
    have h1 := cn_mono c (fun j hj => h j (by omega))
    show cn g c + (if g c = 0 then 0 else 1) ≤ cn g' c + (if g' c = 0 then 0 else 1)
    by_cases e : g c = 0
    · rw [if_pos e]; split <;> omega
    · rw [if_neg e, if_neg (h c (by omega) e)]; omega
theorem cn_lt {g g' : Nat → Int32} : ∀ c, (∀ j, j < c → g j ≠ 0 → g' j ≠ 0) → (∃ j, j < c ∧ g j = 0 ∧ g' j ≠ 0) → cn g c < cn g' c
  | 0, _, ⟨j, hj, _⟩ => by omega
  | c + 1, h, ⟨j, hj, h1, h2⟩ => by
    show cn g c + (if g c = 0 then 0 else 1) < cn g' c + (if g' c = 0 then 0 else 1)
    by_cases e : j = c
    · subst e
      have := cn_mono j (fun i hi => h i (by omega))
      rw [if_pos h1, if_neg h2]; omega
    · have h3 := cn_lt c (fun i hi => h i (by omega)) ⟨j, by omega, h1, h2⟩
      by_cases e2 : g c = 0
      · rw [if_pos e2]; split <;> omega
      · rw [if_neg e2, if_neg (h c (by omega) e2)]; omega
theorem cn_all {g : Nat → Int32} : ∀ c, cn g c = c → ∀ j, j < c → g j ≠ 0
  | 0, _, j, hj => by omega
  | c + 1, h, j, hj => by
    have h1 := cn_le g c
    have h2 : cn g c + (if g c = 0 then 0 else 1) = c + 1 := h
    by_cases e : g c = 0
    · rw [if_pos e] at h2; omega
    · rw [if_neg e] at h2
      by_cases ej : j = c
      · subst ej; exact e
      · exact cn_all c (by omega) j (by omega)
theorem md_is {K A : Nat → Int32} {a : Int32} {d : Nat} : ∀ {c : Nat}, d < c → (K d = 0 ∨ K d = 8) → A d = a → (∀ j, j < c → (K j = 0 ∨ K j = 8) → A j = a → j = d) → md K A a c = some d
  | 0, h, _, _, _ => by omega
  | c + 1, h, h1, h2, h3 => by
    unfold md
    by_cases e : d = c
    · subst e
      have hn : md K A a d = none := by
        cases hm : md K A a d with
        | none => rfl
        | some k =>
          obtain ⟨k1, k2, k3⟩ := md_some hm
          have := h3 k (by omega) k2 k3
          omega
      rw [hn]
      simp only [if_pos (show (K d = 0 ∨ K d = 8) ∧ A d = a from ⟨h1, h2⟩)]
    · rw [md_is (c := c) (by omega) h1 h2 (fun j hj => h3 j (by omega))]
/-- what the class keeps of a module of c statements, but for places and long jumps -/
def okS (K A B S : Int32) : Prop := (∃ s : Nat, s < 3 ∧ S = nI s) ∧ (K = 0 ∨ K = 1 ∨ K = 4 ∨ K = 6 ∨ K = 7 ∨ K = 8 → ∃ a : Nat, a < 16 ∧ A = nI a) ∧ (K = 5 → 1 ≤ A ∧ A ≤ 16) ∧ (K = 7 → 1 ≤ B ∧ B ≤ 16) ∧ (K = 6 → S = 0) ∧ (K = 3 → wd A) ∧ (K = 8 → wd B) ∧ (K = 6 → ∃ s : Nat, s < 4 ∧ B = nI s)
def hold7 (k : Int32) : Prop := k = 0 ∨ k = 8 ∨ k = 7
def CM0 (I : fm_I) (b c : Nat) : Prop := I b 8 = nI c ∧ c ≤ 20 ∧ (∀ k, k < c → okS (I (b + 1) k) (I (b + 2) k) (I (b + 3) k) (I (b + 4) k)) ∧
  (∀ a, a < 32 → (bt (I b 9) a = true ↔ ∃ k, k < c ∧ (I (b + 1) k = 0 ∨ I (b + 1) k = 8) ∧ I (b + 2) k = nI a)) ∧
  (∀ a, a < 32 → (bt (I b 10) a = true ↔ ∃ k, k < c ∧ I (b + 1) k = 7 ∧ I (b + 2) k = nI a)) ∧
  (∀ a, a < 32 → (bt (I b 11) a = true ↔ ∃ k, k < c ∧ I (b + 1) k = 1 ∧ I (b + 2) k = nI a)) ∧
  (∀ a, a < 32 → (bt (I b 12) a = true ↔ ∃ k, k < c ∧ (I (b + 1) k = 4 ∨ I (b + 1) k = 6) ∧ I (b + 2) k = nI a)) ∧
  (∀ k a, k < c → a < 16 → hold7 (I (b + 1) k) → I (b + 2) k = nI a → I (b + 8) a = nI k)
section CS
variable {b c : Nat}
theorem CM0.uniq {I : fm_I} (h : CM0 I b c) {j k : Nat} (hj : j < c) (hk : k < c) (h1 : hold7 (I (b + 1) j)) (h2 : hold7 (I (b + 1) k)) (e : I (b + 2) j = I (b + 2) k) : j = k := by
  obtain ⟨-, hc, hok, -, -, -, -, hh⟩ := h
  obtain ⟨a, ha, ea⟩ := (hok j hj).2.1 (by rcases h1 with q | q | q <;> rw [q] <;> decide)
  have e1 := hh j a hj ha h1 ea
  have e2 := hh k a hk ha h2 (e.symm.trans ea)
  exact (nI_eq (by omega) (by omega)).mp (e1.symm.trans e2)
/-- a defined name: the statement that says so -/
theorem CM0.def_ {I : fm_I} (h : CM0 I b c) {a : Nat} (ha : a < 16) (hd : bt (I b 9) a = true) : ∃ d, d < c ∧ (I (b + 1) d = 0 ∨ I (b + 1) d = 8) ∧ I (b + 2) d = nI a ∧ I (b + 8) a = nI d ∧ md (I (b + 1)) (I (b + 2)) (nI a) c = some d := by
  obtain ⟨d, h1, h2, h3⟩ := (h.2.2.2.1 a (by omega)).mp hd
  have h7 : ∀ {x : Int32}, (x = 0 ∨ x = 8) → hold7 x := fun q => q.elim Or.inl (fun q => Or.inr (Or.inl q))
  exact ⟨d, h1, h2, h3, h.2.2.2.2.2.2.2 d a h1 ha (h7 h2) h3, md_is h1 h2 h3 (fun j hj j1 j2 => h.uniq hj h1 (h7 j1) (h7 h2) (j2.trans h3.symm))⟩
theorem CM0.undef {I : fm_I} (h : CM0 I b c) {a : Nat} (ha : a < 16) (hd : ¬ bt (I b 9) a = true) : md (I (b + 1)) (I (b + 2)) (nI a) c = none := by
  cases hm : md (I (b + 1)) (I (b + 2)) (nI a) c with
  | none => rfl
  | some d =>
    obtain ⟨h1, h2, h3⟩ := md_some hm
    exact absurd ((h.2.2.2.1 a (by omega)).mpr ⟨d, h1, h2, h3⟩) hd
theorem CM0.cg {I J : fm_I} (h : CM0 I b c) (h0 : ∀ j, 8 ≤ j → j < 13 → J b j = I b j) (h1 : J (b + 1) = I (b + 1)) (h2 : J (b + 2) = I (b + 2)) (h3 : J (b + 3) = I (b + 3)) (h4 : J (b + 4) = I (b + 4)) (h8 : J (b + 8) = I (b + 8)) : CM0 J b c := by
  unfold CM0
  rw [h0 8 (by decide) (by decide), h0 9 (by decide) (by decide), h0 10 (by decide) (by decide), h0 11 (by decide) (by decide), h0 12 (by decide) (by decide), h1, h2, h3, h4, h8]
  exact h
/-- jump k aims at a label of its own TEXT -/
def own (K A S : Nat → Int32) (c k : Nat) : Prop := ∃ d, md K A (A k) c = some d ∧ K d = 0 ∧ S d = 0
theorem c_aims {I : fm_I} (hb : isMod b) (h : CM0 I b c) {k : Nat} (hk : k < c) (h6 : I (b + 1) k = 6) : ∃ z, fn_Mod_aimsAtOwnText b (nI k) I = ri z I ∧ ((z = 1 ∧ own (I (b + 1)) (I (b + 2)) (I (b + 4)) c k) ∨ (z = 0 ∧ ¬ own (I (b + 1)) (I (b + 2)) (I (b + 4)) c k)) := by
  obtain ⟨hc8, hc, hok, -⟩ := id h
  obtain ⟨a, ha, ea⟩ := (hok k hk).2.1 (by rw [h6]; decide)
  unfold fn_Mod_aimsAtOwnText own
  rw [mr1 hb, ld_t (mn2 hb) rfl (by omega), mg9 hb, ea, bi_t (px_has ha)]
  by_cases hd : bt (I b 9) a = true
  · obtain ⟨d, d1, d2, d3, d4, d5⟩ := h.def_ ha hd
    rw [zb_t hd, if_neg (by decide), mr7 hb, ld_t (mn8 hb) rfl ha, d4, mr0 hb, ld_t (mn1 hb) rfl (by omega)]
    by_cases e0 : I (b + 1) d = 0
    · rw [if_pos e0, mr3 hb, ld_t (mn4 hb) rfl (by omega)]
      by_cases es : I (b + 4) d = 0
      · rw [if_pos es, rz_1]
        exact ⟨1, rfl, Or.inl ⟨rfl, d, d5, e0, es⟩⟩
      · rw [if_neg es, rz_0]
        refine ⟨0, rfl, Or.inr ⟨rfl, ?_⟩⟩
        rintro ⟨d', q1, q2, q3⟩
        rw [d5] at q1
        cases q1
        exact es q3
    · rw [if_neg e0, rz_0]
      refine ⟨0, rfl, Or.inr ⟨rfl, ?_⟩⟩
      rintro ⟨d', q1, q2, q3⟩
      rw [d5] at q1
      cases q1
      exact e0 q2
  · rw [zb_f hd, if_pos (by decide), rz_0]
    refine ⟨0, rfl, Or.inr ⟨rfl, ?_⟩⟩
    rintro ⟨d', q1, -⟩
    rw [h.undef ha hd] at q1
    cases q1
theorem c_dist {I : fm_I} (hb : isMod b) (h : CM0 I b c) {k d : Nat} (hk : k < c) (h6 : I (b + 1) k = 6) (hd : md (I (b + 1)) (I (b + 2)) (I (b + 2) k) c = some d) : fn_Mod_distanceOf b (nI k) I = ri ((I (b + 5) d - I (b + 5) k) - 1) I := by
  obtain ⟨hc8, hc, hok, -⟩ := id h
  obtain ⟨a, ha, ea⟩ := (hok k hk).2.1 (by rw [h6]; decide)
  obtain ⟨d1, d2, d3⟩ := md_some hd
  have d4 := h.2.2.2.2.2.2.2 d a d1 ha (d2.elim Or.inl (fun q => Or.inr (Or.inl q))) (d3.trans ea)
  unfold fn_Mod_distanceOf
  rw [mr4 hb, mr7 hb, mr1 hb, ld_t (mn2 hb) rfl (by omega), ea, ld_t (mn8 hb) rfl ha, d4, ld_t (mn5 hb) rfl (by omega), mr4 hb, ld_t (mn5 hb) rfl (by omega)]
theorem c_init (hb : isMod b) : ∀ (n k : Nat) (I : fm_I), CM0 I b c → k ≤ c → c < n + k → (∀ j, j < k → (I (b + 6) j = 0 ∨ I (b + 6) j = 1) ∧ (I (b + 6) j ≠ 0 ↔ I (b + 1) j = 6 ∧ ¬ own (I (b + 1)) (I (b + 2)) (I (b + 4)) c j)) → ∃ J, fn_Mod_settleJumps_2 n b (nI k) I = vv 1 b (fn_Mod_placeWords b J) (fun J2 => fn_Mod_settleJumps_52 FU b 0 J2) ∧ (∀ q, q ≠ b + 6 → J q = I q) ∧ (∀ j, j < c → (J (b + 6) j = 0 ∨ J (b + 6) j = 1) ∧ (J (b + 6) j ≠ 0 ↔ I (b + 1) j = 6 ∧ ¬ own (I (b + 1)) (I (b + 2)) (I (b + 4)) c j))
  | 0, k, I, _, h2, h3, _ => by omega
  | n + 1, k, I, h, h2, h3, h4 => by
    obtain ⟨hc8, hc, hok, -⟩ := id h
    unfold fn_Mod_settleJumps_2
    rw [mg8 hb, hc8]
    by_cases hk : k = c
    · subst hk
      rw [if_pos (nI_le (Nat.le_refl _) (by omega))]
      exact ⟨I, rfl, fun _ _ => rfl, h4⟩
    · rw [if_neg (nI_ge (show k < c by omega) (by omega)), mr5 hb, mr0 hb, ld_t (mn1 hb) rfl (by omega), nI_1]
      have step : ∀ x : Int32, (x = 0 ∨ x = 1) → (x ≠ 0 ↔ I (b + 1) k = 6 ∧ ¬ own (I (b + 1)) (I (b + 2)) (I (b + 4)) c k) → ∃ J, sZ (b + 6) (nI k) x I (fun J10 => fn_Mod_settleJumps_2 n b (nI (k + 1)) J10) = vv 1 b (fn_Mod_placeWords b J) (fun J2 => fn_Mod_settleJumps_52 FU b 0 J2) ∧ (∀ q, q ≠ b + 6 → J q = I q) ∧ (∀ j, j < c → (J (b + 6) j = 0 ∨ J (b + 6) j = 1) ∧ (J (b + 6) j ≠ 0 ↔ I (b + 1) j = 6 ∧ ¬ own (I (b + 1)) (I (b + 2)) (I (b + 4)) c j)) := fun x hx hx2 => by
        have hnx : vp_nar .boolean x = x := by rcases hx with rfl | rfl <;> decide
        rw [sZ_t (mn6 hb) rfl (by omega), hnx]
        have q1 : fm_up I (b + 6) k x (b + 1) = I (b + 1) := fm_up_q _ (by omega)
        have q2 : fm_up I (b + 6) k x (b + 2) = I (b + 2) := fm_up_q _ (by omega)
        have q4 : fm_up I (b + 6) k x (b + 4) = I (b + 4) := fm_up_q _ (by omega)
        obtain ⟨J, e1, e2, e3⟩ := c_init hb n (k + 1) (fm_up I (b + 6) k x) (h.cg (fun j _ _ => fm_up_p _ _ _ (by omega)) q1 q2 (fm_up_q _ (by omega)) q4 (fm_up_q _ (by omega))) (by omega) (by omega) (fun j hj => by
          rw [q1, q2, q4]
          by_cases e : j = k
          · subst e
            rw [fm_up_s]
            exact ⟨hx, hx2⟩
          · rw [fm_up_k _ _ e]
            exact h4 j (by omega))
        rw [q1, q2, q4] at e3
        exact ⟨J, e1, fun q hq => (e2 q hq).trans (fm_up_q _ hq), e3⟩
      by_cases e6 : I (b + 1) k = 6
      · obtain ⟨z, hz, ⟨rfl, ho⟩ | ⟨rfl, ho⟩⟩ := c_aims hb h (show k < c by omega) e6
        · rw [if_pos e6, vi_t hb.1 hz, if_neg (by decide)]
          exact step 0 (Or.inl rfl) ⟨fun q => absurd rfl q, fun q => absurd ho q.2⟩
        · rw [if_pos e6, vi_t hb.1 hz, if_pos (by decide)]
          exact step 1 (Or.inr rfl) ⟨fun _ => ⟨e6, ho⟩, fun _ => by decide⟩
      · rw [if_neg e6]
        exact step 0 (Or.inl rfl) ⟨fun q => absurd rfl q, fun q => absurd q.1 e6⟩
end CS
