-- how the functions of the program are worked out (pure)
section PX
variable {ci b k t N j q : Nat} {i x y : Int32} {I J : fm_I} {f : pR}
theorem gi_t {kk : Int32 → pR} (h : sh_i ci b k = true) : gi ci b k I kk = kk (I b k) := if_pos h
theorem gr_t {kk : Nat → pR} (h : sh_r ci b k = some q) : gr ci b k kk = kk q := by unfold gr; rw [h]
theorem pI_t {kk : fm_I → pR} (h : sh_i ci b k = true) : pI ci b k x I kk = kk (fm_up I b k x) := if_pos h
theorem pZ_t {kk : fm_I → pR} (h : sh_i ci b k = true) (hx : x &&& 1 = x) : pZ ci b k x I kk = kk (fm_up I b k x) := if_pos ⟨h, hx⟩
theorem px_in (h : sh_n t b = some N) (hj : j < N) : ¬ (nI j < 0 ∨ N ≤ (nI j).toNatClampNeg) := vp_in_nI hj (sh_n_some h).2.1
theorem ld_t {kk : Int32 → pR} (h : sh_n t b = some N) (hi : i = nI j) (hj : j < N) : ld t b i I kk = kk (I b j) := by
  subst hi
  unfold ld
  rw [h]
  show (if nI j < 0 ∨ N ≤ (nI j).toNatClampNeg then none else kk (I b (nI j).toNatClampNeg)) = _
  rw [if_neg (px_in h hj), nI_clamp (Nat.lt_trans hj (sh_n_some h).2.1)]
theorem sI_t {kk : fm_I → pR} (h : sh_n 0 b = some N) (hi : i = nI j) (hj : j < N) : sI b i x I kk = kk (fm_up I b j x) := by
  subst hi
  unfold sI
  rw [h]
  show (if nI j < 0 ∨ N ≤ (nI j).toNatClampNeg then none else kk (fm_up I b (nI j).toNatClampNeg x)) = _
  rw [if_neg (px_in h hj), nI_clamp (Nat.lt_trans hj (sh_n_some h).2.1)]
theorem sZ_t {kk : fm_I → pR} (h : sh_n 1 b = some N) (hi : i = nI j) (hj : j < N) : sZ b i x I kk = kk (fm_up I b j (vp_nar .boolean x)) := by
  subst hi
  unfold sZ
  rw [h]
  show (if nI j < 0 ∨ N ≤ (nI j).toNatClampNeg then none else kk (fm_up I b (nI j).toNatClampNeg (vp_nar .boolean x))) = _
  rw [if_neg (px_in h hj), nI_clamp (Nat.lt_trans hj (sh_n_some h).2.1)]
theorem la_t {kk : Nat → pR} (h : sh_a t b j = some q) (hi : i = nI j) : la t b i kk = kk q := by
  subst hi
  obtain ⟨-, N, g, hN, hj, -⟩ := sh_a_some h
  have hj2 : j < 2147483648 := Nat.lt_trans hj hN
  unfold la
  rw [if_neg (nI_pos hj2), nI_clamp hj2, h]
theorem ln_t {kk : Int32 → pR} (h : sh_n 0 b = some N) : ln b kk = kk (nI N) := by unfold ln; rw [h]; rfl
theorem bi_t {kk : Int32 → fm_I → pR} (hf : f = ri x J) : bi f kk = kk x J := by rw [hf]; rfl
theorem bv_t {kk : fm_I → pR} (hf : f = rv J) : bv f kk = kk J := by rw [hf]; rfl
theorem vi_t {kk : Int32 → fm_I → pR} (h : sh_o ci b = true) (hf : f = ri x J) : vi ci b f kk = kk x J := by rw [hf]; exact if_pos h
theorem vv_t {kk : fm_I → pR} (h : sh_o ci b = true) (hf : f = rv J) : vv ci b f kk = kk J := by rw [hf]; exact if_pos h
theorem rz_0 : rz 0 I = ri 0 I := if_pos (by decide)
theorem rz_1 : rz 1 I = ri 1 I := if_pos (by decide)
/-- a truth value as the program has it -/
def zb (p : Prop) [Decidable p] : Int32 := if p then 1 else 0
theorem zb_t {p : Prop} [Decidable p] (h : p) : zb p = 1 := if_pos h
theorem zb_f {p : Prop} [Decidable p] (h : ¬ p) : zb p = 0 := if_neg h
theorem zb_0 {p : Prop} [Decidable p] : zb p = 0 ↔ ¬ p := by
  by_cases h : p
  · rw [zb_t h]; exact ⟨fun q => absurd q (by decide), fun q => absurd h q⟩
  · rw [zb_f h]; exact ⟨fun _ => h, fun _ => rfl⟩
theorem rz_b {p : Prop} [Decidable p] : rz (zb p) I = ri (zb p) I := by
  by_cases h : p
  · rw [zb_t h]; exact rz_1
  · rw [zb_f h]; exact rz_0
theorem zb_iff {p r : Prop} [Decidable p] [Decidable r] (h : p ↔ r) : zb p = zb r := by
  by_cases hp : p
  · rw [zb_t hp, zb_t (h.mp hp)]
  · rw [zb_f hp, zb_f (fun q => hp (h.mpr q))]
end PX
theorem px_within (x lo hi : Int32) (I : fm_I) : fn_SL_isWithin x lo hi I = ri (zb (lo ≤ x ∧ x ≤ hi)) I := by
  unfold fn_SL_isWithin
  by_cases h1 : x < lo
  · rw [if_pos h1, rz_0, zb_f (fun h => Int32.not_le.mpr h1 h.1)]
  · rw [if_neg h1]
    by_cases h2 : hi < x
    · rw [if_pos h2, rz_0, zb_f (fun h => Int32.not_le.mpr h2 h.2)]
    · rw [if_neg h2, rz_1, zb_t ⟨Int32.not_lt.mp h1, Int32.not_lt.mp h2⟩]
theorem px_isModule (x : Int32) (I : fm_I) : fn_SL_isModule x I = ri (zb (0 ≤ x ∧ x ≤ 5)) I := by
  unfold fn_SL_isModule
  rw [bi_t (px_within x 0 5 I), rz_b]
theorem px_isSection (x : Int32) (I : fm_I) : fn_SL_isSection x I = ri (zb (0 ≤ x ∧ x ≤ 2)) I := by
  unfold fn_SL_isSection
  rw [bi_t (px_within x 0 2 I), rz_b]
theorem px_isName (x : Int32) (I : fm_I) : fn_SL_isName x I = ri (zb (0 ≤ x ∧ x ≤ 15)) I := by
  unfold fn_SL_isName
  rw [bi_t (px_within x 0 15 I), rz_b]
theorem px_isWord (x : Int32) (I : fm_I) : fn_SL_isWord x I = ri (zb (0 ≤ x ∧ x ≤ 65535)) I := by
  unfold fn_SL_isWord
  rw [bi_t (px_within x 0 65535 I), rz_b]
