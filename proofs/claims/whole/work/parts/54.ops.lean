theorem r_append {B : fm_I} {m c : Nat} {k a y now : Int32} (h : RM0 B m c) (hc : c < 20) (h5 : k = 5 → 1 ≤ a ∧ a ≤ 16) : ∃ J, fn_Ref_add_146 78 (nI m) k a y (nI (20 * m + c)) now B = ri 1 J ∧ RM0 J m (c + 1) ∧ RG0 J m (c + 1) ∧ mcl (c + 1) (sK J m) (sA J m) (sS J m) (sG J m) ∧ (∀ j, J 80 (20 * m + j) = upd (sK B m) c k j ∧ J 81 (20 * m + j) = upd (sA B m) c a j ∧ J 82 (20 * m + j) = upd (sB B m) c y j ∧ J 83 (20 * m + j) = upd (sS B m) c (if k = 2 then a else now) j) ∧ (∀ n, n ≠ m → J 79 n = B 79 n) ∧ (∀ i, i ≠ 20 * m + c → J 80 i = B 80 i ∧ J 81 i = B 81 i ∧ J 82 i = B 82 i ∧ J 83 i = B 83 i) ∧ (∀ i, (∀ j, j < c + 1 → i ≠ 20 * m + j) → J 84 i = B 84 i) ∧ (∀ q, q < 79 ∨ 84 < q → J q = B q) := by
  obtain ⟨hm, hc0, h4, hsp⟩ := id h
  have hs : 20 * m + c < 120 := by omega
  have h188 : ∀ v I, I 79 m = nI c → fn_Ref_add_188 78 (nI m) 83 (nI (20 * m + c)) v I = vv 6 78 (fn_Ref_settle 78 (nI m) (fm_up (fm_up I 83 (20 * m + c) v) 79 m (nI (c + 1)))) (fun J6 => rz 1 J6) := fun v I hI => by
    unfold fn_Ref_add_188
    rw [sI_t (N := 120) rfl rfl hs, r78_0, r78_0, ld_t (N := 6) rfl rfl hm, fm_up_p _ _ _ (by decide), hI, sI_t (N := 6) rfl rfl hm, nI_1]
  have e146 : fn_Ref_add_146 78 (nI m) k a y (nI (20 * m + c)) now B = vv 6 78 (fn_Ref_settle 78 (nI m) (fm_up (fm_up (fm_up (fm_up (fm_up B 80 (20 * m + c) k) 81 (20 * m + c) a) 82 (20 * m + c) y) 83 (20 * m + c) (if k = 2 then a else now)) 79 m (nI (c + 1)))) (fun J6 => rz 1 J6) := by
    unfold fn_Ref_add_146
    rw [r78_1, sI_t (N := 120) rfl rfl hs, r78_2, sI_t (N := 120) rfl rfl hs, r78_3, sI_t (N := 120) rfl rfl hs, r78_4]
    have h79 : fm_up (fm_up (fm_up B 80 (20 * m + c) k) 81 (20 * m + c) a) 82 (20 * m + c) y 79 m = nI c := by
      rw [fm_up_p _ _ _ (by decide), fm_up_p _ _ _ (by decide), fm_up_p _ _ _ (by decide)]; exact h4
    by_cases e2 : k = 2
    · rw [if_pos e2, if_pos e2, h188 _ _ h79]
    · rw [if_neg e2, if_neg e2, h188 _ _ h79]
  rw [e146]
  generalize hI : fm_up (fm_up (fm_up (fm_up (fm_up B 80 (20 * m + c) k) 81 (20 * m + c) a) 82 (20 * m + c) y) 83 (20 * m + c) (if k = 2 then a else now)) 79 m (nI (c + 1)) = I
  have f80 : I 80 = upd (B 80) (20 * m + c) k := by rw [← hI, fm_up_q _ (by decide), fm_up_q _ (by decide), fm_up_q _ (by decide), fm_up_q _ (by decide), upd_fm]
  have f81 : I 81 = upd (B 81) (20 * m + c) a := by rw [← hI, fm_up_q _ (by decide), fm_up_q _ (by decide), fm_up_q _ (by decide), upd_fm, fm_up_q _ (by decide)]
  have f82 : I 82 = upd (B 82) (20 * m + c) y := by rw [← hI, fm_up_q _ (by decide), fm_up_q _ (by decide), upd_fm, fm_up_q _ (by decide), fm_up_q _ (by decide)]
  have f83 : I 83 = upd (B 83) (20 * m + c) (if k = 2 then a else now) := by rw [← hI, fm_up_q _ (by decide), upd_fm, fm_up_q _ (by decide), fm_up_q _ (by decide), fm_up_q _ (by decide)]
  have f79 : I 79 = upd (B 79) m (nI (c + 1)) := by rw [← hI, upd_fm, fm_up_q _ (by decide), fm_up_q _ (by decide), fm_up_q _ (by decide), fm_up_q _ (by decide)]
  have fq : ∀ q, q ≠ 79 → q ≠ 80 → q ≠ 81 → q ≠ 82 → q ≠ 83 → I q = B q := fun q q1 q2 q3 q4 q5 => by rw [← hI, fm_up_q _ q1, fm_up_q _ q5, fm_up_q _ q4, fm_up_q _ q3, fm_up_q _ q2]
  have hsh : ∀ (f : Nat → Int32) (x : Int32) (j : Nat), upd f (20 * m + c) x (20 * m + j) = upd (fun i => f (20 * m + i)) c x j := fun f x j => by
    by_cases e : j = c
    · subst e; rw [pk_us, pk_us]
    · rw [pk_un (by omega), pk_un e]
  have hRM : RM0 I m (c + 1) := by
    refine ⟨hm, by omega, by rw [f79, pk_us], fun j hj => ?_⟩
    show I 80 (20 * m + j) = 5 → 1 ≤ I 81 (20 * m + j) ∧ I 81 (20 * m + j) ≤ 16
    rw [f80, f81, hsh, hsh]
    by_cases e : j = c
    · subst e; rw [pk_us, pk_us]; exact h5
    · rw [pk_un e, pk_un e]; exact hsp j (by omega)
  obtain ⟨J, s1, s2, s3, s4, s5⟩ := r_settle hRM
  rw [vv_t rfl s1, rz_1]
  refine ⟨J, rfl, hRM.cg (by rw [s2 79 (by decide)]) (s2 80 (by decide)) (s2 81 (by decide)), s4, s5, fun j => ?_, fun n hn => ?_, fun i hi => ?_, fun i hi => ?_, fun q hq => ?_⟩
  · rw [s2 80 (by decide), s2 81 (by decide), s2 82 (by decide), s2 83 (by decide), f80, f81, f82, f83, hsh, hsh, hsh, hsh]
    exact ⟨rfl, rfl, rfl, rfl⟩
  · rw [s2 79 (by decide), f79, pk_un hn]
  · rw [s2 80 (by decide), s2 81 (by decide), s2 82 (by decide), s2 83 (by decide), f80, f81, f82, f83, pk_un hi, pk_un hi, pk_un hi, pk_un hi]
    exact ⟨rfl, rfl, rfl, rfl⟩
  · rw [s3 i hi, fq 84 (by decide) (by decide) (by decide) (by decide) (by decide)]
  · rw [s2 q (by omega), fq q (by omega) (by omega) (by omega) (by omega) (by omega)]
theorem CM0.cgA {A A' : fm_I} {b c : Nat} (h : CM0 A b c) (hA : ∀ q, b ≤ q → q < b + 9 → A' q = A q) : CM0 A' b c := h.cg (fun j _ _ => by rw [hA b (by omega) (by omega)]) (hA _ (by omega) (by omega)) (hA _ (by omega) (by omega)) (hA _ (by omega) (by omega)) (hA _ (by omega) (by omega)) (hA _ (by omega) (by omega))
theorem GD.cgA {A A' : fm_I} {b c : Nat} (h : GD A b c) (hA : ∀ q, b ≤ q → q < b + 9 → A' q = A q) : GD A' b c := by
  unfold GD plc
  rw [hA (b + 1) (by omega) (by omega), hA (b + 2) (by omega) (by omega), hA (b + 4) (by omega) (by omega), hA (b + 5) (by omega) (by omega), hA (b + 6) (by omega) (by omega), hA (b + 7) (by omega) (by omega)]
  exact h
theorem MRc.cg {A A' B B' : fm_I} {m c : Nat} (h : MRc A B m c) (hA : ∀ q, 2 + 9 * m ≤ q → q < 2 + 9 * m + 9 → A' q = A q) (h79 : B' 79 m = B 79 m) (hB : ∀ k, k < c → B' 80 (20 * m + k) = B 80 (20 * m + k) ∧ B' 81 (20 * m + k) = B 81 (20 * m + k) ∧ B' 82 (20 * m + k) = B 82 (20 * m + k) ∧ B' 83 (20 * m + k) = B 83 (20 * m + k) ∧ B' 84 (20 * m + k) = B 84 (20 * m + k)) : MRc A' B' m c := by
  obtain ⟨h1, h2, h3, h4, h5, h6, h7⟩ := h
  have a1 := hA (2 + 9 * m + 1) (by omega) (by omega)
  have a2 := hA (2 + 9 * m + 2) (by omega) (by omega)
  have a3 := hA (2 + 9 * m + 3) (by omega) (by omega)
  have a4 := hA (2 + 9 * m + 4) (by omega) (by omega)
  have a6 := hA (2 + 9 * m + 6) (by omega) (by omega)
  have hk : ∀ j, j < c → sK B m j = sK B' m j ∧ sA B m j = sA B' m j ∧ sS B m j = sS B' m j := fun j hj => ⟨(hB j hj).1.symm, (hB j hj).2.1.symm, (hB j hj).2.2.2.1.symm⟩
  have hg : ∀ j, j < c → (sG B m j ≠ 0 ↔ sG B' m j ≠ 0) := fun j hj => by
    show B 84 _ ≠ 0 ↔ B' 84 _ ≠ 0
    rw [(hB j hj).2.2.2.2]
  refine ⟨h1.cgA hA, h2.cgA hA, by rw [a1, a2, a4, a6]; exact h3, ⟨h4.1, h4.2.1, h79.trans h4.2.2.1, fun j hj => ?_⟩, fun j hj => ?_, ⟨fun j hj => ?_, mlo_cg hg (mlo_kg hk h6.2)⟩, mcl_cg hg (mcl_kg hk h7)⟩
  · show B' 80 (20 * m + j) = 5 → 1 ≤ B' 81 (20 * m + j) ∧ B' 81 (20 * m + j) ≤ 16
    rw [(hB j hj).1, (hB j hj).2.1]
    exact h4.2.2.2 j hj
  · show B' 80 (20 * m + j) = _ ∧ B' 81 (20 * m + j) = _ ∧ B' 82 (20 * m + j) = _ ∧ B' 83 (20 * m + j) = _
    rw [(hB j hj).1, (hB j hj).2.1, (hB j hj).2.2.1, (hB j hj).2.2.2.1, a1, a2, a3, a4]
    exact h5 j hj
  · show B' 84 (20 * m + j) = 0 ∨ B' 84 (20 * m + j) = 1
    rw [(hB j hj).2.2.2.2]
    exact h6.1 j hj
theorem op_clear {A B : fm_I} (h : ∀ m, m < 6 → MRl A B m) (x : Int32) : ∃ v A' B', fn_SL_clear 0 x A = ri v A' ∧ fn_Ref_clear 78 x B = ri v B' ∧ (∀ m, m < 6 → MRl A' B' m) ∧ (∀ q, q < 2 ∨ 55 < q → A' q = A q) ∧ (∀ q, q < 79 ∨ 84 < q → B' q = B q) := by
  by_cases hx : mdl x
  rotate_left
  · refine ⟨-1, A, B, ?_, ?_, h, fun _ _ => rfl, fun _ _ => rfl⟩
    · unfold fn_SL_clear
      rw [bi_t (px_isModule x A), zb_f hx, if_pos (by decide)]
    · unfold fn_Ref_clear
      rw [vi_t rfl ref_module, zb_f hx, if_pos (by decide)]
  obtain ⟨m, hm, rfl⟩ := mdl_n hx
  obtain ⟨hb, ha⟩ := isMod_m m hm
  obtain ⟨c, hc⟩ := h m hm
  obtain ⟨h1, h2, h3, h4, h5, h6, h7⟩ := id hc
  generalize hbe : 2 + 9 * m = b at hb ha h1
  have hA0 : CM0 (fm_up (fm_up (fm_up (fm_up (fm_up A b 8 0) b 9 0) b 10 0) b 11 0) b 12 0) b 0 := by
    have z : ∀ a, a < 32 → ∀ Q : Nat → Prop, (bt 0 a = true ↔ ∃ k, k < 0 ∧ Q k) := fun a _ Q => ⟨fun q => (by rw [b_0] at q; cases q), fun ⟨k, hk, _⟩ => absurd hk (by omega)⟩
    refine ⟨by rw [fm_up_k _ _ (by decide), fm_up_k _ _ (by decide), fm_up_k _ _ (by decide), fm_up_k _ _ (by decide), fm_up_s]; rfl, by decide, fun k hk => absurd hk (by omega), fun a ha => ?_, fun a ha => ?_, fun a ha => ?_, fun a ha => ?_, fun k a hk => absurd hk (by omega)⟩
    · rw [fm_up_k _ _ (by decide), fm_up_k _ _ (by decide), fm_up_k _ _ (by decide), fm_up_s]; exact z a ha _
    · rw [fm_up_k _ _ (by decide), fm_up_k _ _ (by decide), fm_up_s]; exact z a ha _
    · rw [fm_up_k _ _ (by decide), fm_up_s]; exact z a ha _
    · rw [fm_up_s]; exact z a ha _
  obtain ⟨J, s1, s2, s3, s4⟩ := c_settle hb hA0
  have hJ0 : CM0 J b 0 := hA0.cg (fun i _ _ => by rw [s2 b (by omega) (by omega) (by omega)]) (s2 _ (by omega) (by omega) (by omega)) (s2 _ (by omega) (by omega) (by omega)) (s2 _ (by omega) (by omega) (by omega)) (s2 _ (by omega) (by omega) (by omega)) (s2 _ (by omega) (by omega) (by omega))
  have hJq : ∀ q, q < b ∨ b + 8 < q → J q = A q := fun q hq => by
    rw [s2 q (by omega) (by omega) (by omega), fm_up_q _ (by omega), fm_up_q _ (by omega), fm_up_q _ (by omega), fm_up_q _ (by omega), fm_up_q _ (by omega)]
  refine ⟨nI c, J, fm_up B 79 m 0, ?_, ?_, fun m' hm' => ?_, fun q hq => hJq q (by omega), fun q hq => fm_up_q _ (by omega)⟩
  · have ht : fn_Mod_takeAllAway b A = ri (nI c) J := by
      unfold fn_Mod_takeAllAway
      rw [mg8 hb, h1.1, mp8 hb, mp9 hb, mp10 hb, mp11 hb, mp12 hb, vv_t hb.1 s1]
    unfold fn_SL_clear
    rw [bi_t (px_isModule _ A), zb_t hx, if_neg (by decide), r0_0, la_t ha rfl, vi_t hb.1 ht]
  · unfold fn_Ref_clear
    rw [vi_t rfl ref_module, zb_t hx, if_neg (by decide), r78_0, ld_t (N := 6) rfl rfl hm, h4.2.2.1, r78_0, sI_t (N := 6) rfl rfl hm]
  · by_cases e : m' = m
    · subst e
      subst hbe
      exact ⟨0, hJ0, s3, fun k hk => absurd hk (by omega), ⟨hm, by decide, fm_up_s _ _ _ _, fun k hk => absurd hk (by omega)⟩, fun k hk => absurd hk (by omega), ⟨fun k hk => absurd hk (by omega), fun _ _ k hk => absurd hk (by omega)⟩, fun k hk => absurd hk (by omega)⟩
    · obtain ⟨c', hc'⟩ := h m' hm'
      refine ⟨c', hc'.cg (fun q q1 q2 => hJq q (by omega)) (fm_up_k _ _ e) (fun k hk => ?_)⟩
      rw [fm_up_p _ _ _ (by decide), fm_up_p _ _ _ (by decide), fm_up_p _ _ _ (by decide), fm_up_p _ _ _ (by decide), fm_up_p _ _ _ (by decide)]
      exact ⟨rfl, rfl, rfl, rfl, rfl⟩
