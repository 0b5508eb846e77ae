theorem n_dist {x y : Nat} (hx : x ≤ 1000) (hy : y ≤ 1000) : (nI x - nI y - 1).toInt = (x : Int) - y - 1 := by
  have h1 : nI x - nI y - 1 = nI x - nI (y + 1) := by
    have h2 : nI x - nI (y + 1) + nI (y + 1) = nI x - nI y - 1 + nI (y + 1) := by
      rw [Int32.sub_add_cancel, show nI (y + 1) = 1 + nI y by rw [← nI_1, Int32.add_comm], ← Int32.add_assoc, Int32.sub_add_cancel, Int32.sub_add_cancel]
    exact (Int32.add_left_inj _).mp h2.symm
  rw [h1, pk_sub_toInt (by omega) (by omega)]
  omega
theorem n_win {x y : Nat} (hx : x ≤ 1000) (hy : y ≤ 1000) : (-8 ≤ nI x - nI y - 1 ∧ nI x - nI y - 1 ≤ 7) ↔ (-8 ≤ (x : Int) - y - 1 ∧ (x : Int) - y - 1 ≤ 7) := by
  rw [Int32.le_iff_toInt_le, Int32.le_iff_toInt_le, n_dist hx hy, show (-8 : Int32).toInt = -8 by decide, show (7 : Int32).toInt = 7 by decide]
section CG
variable {K A S g g' : Nat → Int32} {c : Nat}
theorem mfar_cg (h : ∀ j, j < c → (g j ≠ 0 ↔ g' j ≠ 0)) {k : Nat} (hk : k < c) : mfar c K A S g k ↔ mfar c K A S g' k := ⟨mfar_mono hk (fun j hj => (h j hj).mp), mfar_mono hk (fun j hj => (h j hj).mpr)⟩
theorem mcl_cg (h : ∀ j, j < c → (g j ≠ 0 ↔ g' j ≠ 0)) (h1 : mcl c K A S g) : mcl c K A S g' := fun k hk hf => (h k hk).mp (h1 k hk ((mfar_cg h hk).mpr hf))
theorem mlo_cg (h : ∀ j, j < c → (g j ≠ 0 ↔ g' j ≠ 0)) (h1 : mlo c K A S g) : mlo c K A S g' := fun g2 h2 k hk hg => h1 g2 h2 k hk ((h k hk).mpr hg)
end CG
/-- long jumps, places and lengths of a module -/
def GD (I : fm_I) (b c : Nat) : Prop := (∀ j, j < c → (I (b + 6) j = 0 ∨ I (b + 6) j = 1) ∧ (I (b + 6) j ≠ 0 → I (b + 1) j = 6) ∧ (I (b + 1) j = 6 → I (b + 6) j = 0 → own (I (b + 1)) (I (b + 2)) (I (b + 4)) c j)) ∧ mlo c (I (b + 1)) (I (b + 2)) (I (b + 4)) (I (b + 6)) ∧ plc I b c (I (b + 1)) (I (b + 2)) (I (b + 4)) (I (b + 6))
section C5
variable {b c : Nat}
theorem CM0.S3 {I : fm_I} (h : CM0 I b c) : ∀ j, j < c → ∃ s, s < 3 ∧ I (b + 4) j = nI s := fun j hj => (h.2.2.1 j hj).1
theorem CM0.A5 {I : fm_I} (h : CM0 I b c) : ∀ j, j < c → I (b + 1) j = 5 → 1 ≤ I (b + 2) j ∧ I (b + 2) j ≤ 16 := fun j hj => (h.2.2.1 j hj).2.2.1
/-- a jump that is not long yet is far just when its distance says so -/
theorem c_far {I : fm_I} (h : CM0 I b c) (hp : plc I b c (I (b + 1)) (I (b + 2)) (I (b + 4)) (I (b + 6))) {k d : Nat} (hk : k < c) (h6 : I (b + 1) k = 6) (hd : md (I (b + 1)) (I (b + 2)) (I (b + 2) k) c = some d) (h0 : I (b + 1) d = 0) (hs : I (b + 4) d = 0) : mfar c (I (b + 1)) (I (b + 2)) (I (b + 4)) (I (b + 6)) k ↔ ¬ (-8 ≤ I (b + 5) d - I (b + 5) k - 1 ∧ I (b + 5) d - I (b + 5) k - 1 ≤ 7) := by
  obtain ⟨hc8, hc, hok, -⟩ := id h
  have hdc := (md_some hd).1
  have hsk : I (b + 4) k = 0 := (hok k hk).2.2.2.2.1 h6
  have e1 := hp.2 d hdc
  have e2 := hp.2 k hk
  rw [hs] at e1
  rw [hsk] at e2
  have b1 := mp_16 (S := I (b + 4)) (g := I (b + 6)) (s := 0) d (fun j hj => h.A5 j (by omega))
  have b2 := mp_16 (S := I (b + 4)) (g := I (b + 6)) (s := 0) k (fun j hj => h.A5 j (by omega))
  rw [e1, e2, n_win (by omega) (by omega)]
  constructor
  · intro hf q
    have := hf.2 d hd h0 hs
    omega
  · intro q
    refine ⟨h6, fun d' hd' _ _ => ?_⟩
    rw [hd] at hd'
    cases hd'
    omega
theorem c_set52 (hb : isMod b) : ∀ (n k : Nat) (I : fm_I), CM0 I b c → GD I b c → k ≤ 20 → 20 < n + k → k ≤ cn (I (b + 6)) c → ∃ J, fn_Mod_settleJumps_52 n b (nI k) I = rv J ∧ (∀ q, q ≠ b + 5 → q ≠ b + 6 → q ≠ b + 7 → J q = I q) ∧ GD J b c ∧ mcl c (I (b + 1)) (I (b + 2)) (I (b + 4)) (J (b + 6))
  | 0, k, I, _, _, h1, h2, _ => by omega
  | n + 1, k, I, h, hg, h1, h2, h3 => by
    obtain ⟨hc8, hc, hok, -⟩ := id h
    unfold fn_Mod_settleJumps_52
    by_cases hk : k = 20
    · subst hk
      rw [if_pos (show (20 : Int32) ≤ nI 20 by decide)]
      have hle := cn_le (I (b + 6)) c
      have hall := cn_all c (show cn (I (b + 6)) c = c by omega)
      exact ⟨I, rfl, fun _ _ _ _ => rfl, hg, fun j hj _ => hall j hj⟩
    · rw [if_neg (show ¬ (20 : Int32) ≤ nI k from nI_ge (b := 20) (by omega) (by decide))]
      obtain ⟨g1, g2, g3⟩ := id hg
      have hdist : ∃ dist : Nat → Int32, ∀ j, j < c → I (b + 1) j = 6 → I (b + 6) j = 0 → (∀ J, (∀ q, q ≠ b + 6 → J q = I q) → fn_Mod_distanceOf b (nI j) J = ri (dist j) J) ∧ (mfar c (I (b + 1)) (I (b + 2)) (I (b + 4)) (I (b + 6)) j ↔ ¬ (-8 ≤ dist j ∧ dist j ≤ 7)) := by
        have hx : ∀ j, ∃ x : Int32, j < c → I (b + 1) j = 6 → I (b + 6) j = 0 → (∀ J, (∀ q, q ≠ b + 6 → J q = I q) → fn_Mod_distanceOf b (nI j) J = ri x J) ∧ (mfar c (I (b + 1)) (I (b + 2)) (I (b + 4)) (I (b + 6)) j ↔ ¬ (-8 ≤ x ∧ x ≤ 7)) := fun j => by
          by_cases hj : j < c ∧ I (b + 1) j = 6 ∧ I (b + 6) j = 0
          · obtain ⟨d, d1, d2, d3⟩ := (g1 j hj.1).2.2 hj.2.1 hj.2.2
            refine ⟨I (b + 5) d - I (b + 5) j - 1, fun _ _ _ => ⟨fun J hJ => ?_, c_far h g3 hj.1 hj.2.1 d1 d2 d3⟩⟩
            have hJ0 := h.cg (J := J) (fun i _ _ => by rw [hJ b (by omega)]) (hJ _ (by omega)) (hJ _ (by omega)) (hJ _ (by omega)) (hJ _ (by omega)) (hJ _ (by omega))
            rw [c_dist hb hJ0 hj.1 (by rw [hJ _ (by omega)]; exact hj.2.1) (by rw [hJ (b + 1) (by omega), hJ (b + 2) (by omega)]; exact d1), hJ (b + 5) (by omega)]
          · exact ⟨0, fun q1 q2 q3 => absurd ⟨q1, q2, q3⟩ hj⟩
        obtain ⟨dist, hd⟩ := Classical.axiomOfChoice hx
        exact ⟨dist, hd⟩
      obtain ⟨dist, hd⟩ := hdist
      obtain ⟨z, J, e1, e2, e3, e4⟩ := c_len (K := I (b + 1)) (Gz := I (b + 6)) (dist := dist) (I0 := I) hb hc (fun j hj j1 j2 => (hd j hj j1 j2).1) FU 0 0 I (fun _ _ => rfl) hc8 rfl (Nat.zero_le _) (by have := fu_ge; omega) (fun _ _ _ => rfl) lt_0 (Or.inl ⟨rfl, lt_0⟩)
      have q1 := e2 (b + 1) (by omega)
      have q2 := e2 (b + 2) (by omega)
      have q4 := e2 (b + 4) (by omega)
      have hJ0 : CM0 J b c := h.cg (fun i _ _ => by rw [e2 b (by omega)]) q1 q2 (e2 _ (by omega)) q4 (e2 _ (by omega))
      rw [vi_t hb.1 (show fn_Mod_lengthenFarJumps b I = ri z J from e1)]
      rcases e4 with ⟨rfl, e4⟩ | ⟨rfl, e4⟩
      · rw [if_pos (by decide)]
        have hGj : ∀ j, j < c → J (b + 6) j = I (b + 6) j := fun j hj => by rw [e3 j hj, if_neg (e4 j hj)]
        have hcg : ∀ j, j < c → (I (b + 6) j ≠ 0 ↔ J (b + 6) j ≠ 0) := fun j hj => by rw [hGj j hj]
        refine ⟨J, rfl, fun q _ q6 _ => e2 q q6, ⟨fun j hj => ?_, ?_, ?_⟩, ?_⟩
        · rw [hGj j hj, q1, q2, q4]; exact g1 j hj
        · rw [q1, q2, q4]; exact mlo_cg hcg g2
        · rw [q1, q2, q4]
          refine ⟨fun s hs => ?_, fun j hj => ?_⟩
          · rw [e2 (b + 7) (by omega), g3.1 s hs, mp_eq c hcg]
          · rw [e2 (b + 5) (by omega), g3.2 j hj, mp_eq j (fun i hi => hcg i (by omega))]
        · refine mcl_cg hcg (fun j hj hf => fun q0 => ?_)
          exact e4 j hj ⟨hf.1, q0, ((hd j hj hf.1 q0).2).mp hf⟩
      · rw [if_neg (by decide)]
        obtain ⟨J2, f1, f2, f3⟩ := c_placeWords (I := J) (c := c) (K := J (b + 1)) (A := J (b + 2)) (S := J (b + 4)) (G := J (b + 6)) hb hc hJ0.S3 hJ0.A5 hJ0.1 rfl rfl rfl rfl
        rw [vv_t hb.1 f1, nI_1]
        have r1 := f2 (b + 1) (by omega) (by omega)
        have r2 := f2 (b + 2) (by omega) (by omega)
        have r4 := f2 (b + 4) (by omega) (by omega)
        have r6 := f2 (b + 6) (by omega) (by omega)
        have hJ2 : CM0 J2 b c := hJ0.cg (fun i _ _ => by rw [f2 b (by omega) (by omega)]) r1 r2 (f2 _ (by omega) (by omega)) r4 (f2 _ (by omega) (by omega))
        have hmono : ∀ j, j < c → I (b + 6) j ≠ 0 → J (b + 6) j ≠ 0 := fun j hj hne => by
          rw [e3 j hj]
          split
          · decide
          · exact hne
        have hgd : GD J2 b c := by
          refine ⟨fun j hj => ?_, ?_, ?_⟩
          · rw [r1, r2, r4, r6, q1, q2, q4, e3 j hj]
            split
            · rename_i hn
              exact ⟨Or.inr rfl, fun _ => hn.1, fun _ q => absurd q (by decide)⟩
            · exact g1 j hj
          · rw [r1, r2, r4, r6, q1, q2, q4]
            refine mlo_add g2 (fun j hj hne => ?_)
            rw [e3 j hj] at hne
            by_cases hn : I (b + 1) j = 6 ∧ I (b + 6) j = 0 ∧ ¬ (-8 ≤ dist j ∧ dist j ≤ 7)
            · exact Or.inr (((hd j hj hn.1 hn.2.1).2).mpr hn.2.2)
            · rw [if_neg hn] at hne
              exact Or.inl hne
          · rw [r1, r2, r4, r6]; exact f3
        obtain ⟨j0, hj0, hn0⟩ := e4
        have hcnt : cn (I (b + 6)) c < cn (J2 (b + 6)) c := by
          rw [r6]
          exact cn_lt c hmono ⟨j0, hj0, hn0.2.1, by rw [e3 j0 hj0, if_pos hn0]; decide⟩
        obtain ⟨J3, s1, s2, s3, s4⟩ := c_set52 hb n (k + 1) J2 hJ2 hgd (by omega) (by omega) (by omega)
        refine ⟨J3, s1, fun q a5 a6 a7 => (s2 q a5 a6 a7).trans ((f2 q a5 a7).trans (e2 q a6)), s3, ?_⟩
        rw [r1, r2, r4, q1, q2, q4] at s4
        exact s4
theorem c_settle {I : fm_I} (hb : isMod b) (h : CM0 I b c) : ∃ J, fn_Mod_settleJumps b I = rv J ∧ (∀ q, q ≠ b + 5 → q ≠ b + 6 → q ≠ b + 7 → J q = I q) ∧ GD J b c ∧ mcl c (I (b + 1)) (I (b + 2)) (I (b + 4)) (J (b + 6)) := by
  obtain ⟨J, e1, e2, e3⟩ := c_init hb FU 0 I h (Nat.zero_le _) (by have := h.2.1; have := fu_ge; omega) lt_0
  have q1 := e2 (b + 1) (by omega)
  have q2 := e2 (b + 2) (by omega)
  have q4 := e2 (b + 4) (by omega)
  have hJ0 : CM0 J b c := h.cg (fun i _ _ => by rw [e2 b (by omega)]) q1 q2 (e2 _ (by omega)) q4 (e2 _ (by omega))
  obtain ⟨J2, f1, f2, f3⟩ := c_placeWords (I := J) (c := c) (K := J (b + 1)) (A := J (b + 2)) (S := J (b + 4)) (G := J (b + 6)) hb h.2.1 hJ0.S3 hJ0.A5 hJ0.1 rfl rfl rfl rfl
  have r1 := f2 (b + 1) (by omega) (by omega)
  have r2 := f2 (b + 2) (by omega) (by omega)
  have r4 := f2 (b + 4) (by omega) (by omega)
  have r6 := f2 (b + 6) (by omega) (by omega)
  have hJ2 : CM0 J2 b c := hJ0.cg (fun i _ _ => by rw [f2 b (by omega) (by omega)]) r1 r2 (f2 _ (by omega) (by omega)) r4 (f2 _ (by omega) (by omega))
  have hgd : GD J2 b c := by
    refine ⟨fun j hj => ?_, ?_, ?_⟩
    · rw [r1, r2, r4, r6, q1, q2, q4]
      obtain ⟨a1, a2⟩ := e3 j hj
      exact ⟨a1, fun hne => (a2.mp hne).1, fun h6 h0 => Classical.byContradiction fun hn => (a2.mpr ⟨h6, hn⟩) h0⟩
    · rw [r1, r2, r4, r6, q1, q2, q4]
      refine mlo_add (g := fun _ => 0) (mlo_0 (fun k _ q => q rfl)) (fun j hj hne => Or.inr ?_)
      have hh := (e3 j hj).2.mp hne
      exact ⟨hh.1, fun d hd h0 hs => absurd ⟨d, hd, h0, hs⟩ hh.2⟩
    · rw [r1, r2, r4, r6]; exact f3
  obtain ⟨J3, s1, s2, s3, s4⟩ := c_set52 hb FU 0 J2 hJ2 hgd (Nat.zero_le _) (by have := fu_ge; omega) (Nat.zero_le _)
  refine ⟨J3, ?_, fun q a5 a6 a7 => (s2 q a5 a6 a7).trans ((f2 q a5 a7).trans (e2 q a6)), s3, ?_⟩
  · unfold fn_Mod_settleJumps
    have e1' : fn_Mod_settleJumps_2 FU b 0 I = vv 1 b (fn_Mod_placeWords b J) (fun J2 => fn_Mod_settleJumps_52 FU b 0 J2) := e1
    rw [e1', vv_t hb.1 f1]
    exact s1
  · rw [r1, r2, r4, q1, q2, q4] at s4
    exact s4
end C5
