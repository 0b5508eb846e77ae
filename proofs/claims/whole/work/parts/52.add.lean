abbrev nmI (a : Int32) : Prop := 0 ≤ a ∧ a ≤ 15
/-- numbers that fit the kind -/
def fitP (k a b : Int32) : Prop := if k = 0 then nmI a else if k = 1 then nmI a else if k = 2 then (0 ≤ a ∧ a ≤ 2) else if k = 3 then (0 ≤ a ∧ a ≤ 65535) else if k = 4 then (nmI a ∧ -32768 ≤ b ∧ b ≤ 32767) else if k = 5 then (1 ≤ a ∧ a ≤ 16) else if k = 6 then (nmI a ∧ 0 ≤ b ∧ b ≤ 3) else if k = 7 then (nmI a ∧ 1 ≤ b ∧ b ≤ 16) else if k = 8 then (nmI a ∧ 0 ≤ b ∧ b ≤ 65535) else False
theorem two_and {p q : Prop} [Decidable p] [Decidable q] {I : fm_I} {f : pR} (hf : f = ri (zb q) I) : (if zb p = 0 then rz 0 I else bi f (fun v J => if v = 0 then rz 0 J else rz 1 J)) = ri (zb (p ∧ q)) I := by
  by_cases hp : p
  · rw [zb_t hp, if_neg (by decide), bi_t hf]
    by_cases hq : q
    · rw [zb_t hq, if_neg (by decide), rz_1, zb_t ⟨hp, hq⟩]
    · rw [zb_f hq, if_pos (by decide), rz_0, zb_f (fun z => hq z.2)]
  · rw [zb_f hp, if_pos (by decide), rz_0, zb_f (fun z => hp z.1)]
theorem two_lt {lo hi x : Int32} {I : fm_I} : (if x < lo then rz 0 I else if hi < x then rz 0 I else rz 1 I) = ri (zb (lo ≤ x ∧ x ≤ hi)) I := by
  by_cases h1 : x < lo
  · rw [if_pos h1, rz_0, zb_f (fun h => Int32.not_le.mpr h1 h.1)]
  · rw [if_neg h1]
    by_cases h2 : hi < x
    · rw [if_pos h2, rz_0, zb_f (fun h => Int32.not_le.mpr h2 h.2)]
    · rw [if_neg h2, rz_1, zb_t ⟨Int32.not_lt.mp h1, Int32.not_lt.mp h2⟩]
theorem two_and2 {p : Prop} [Decidable p] {lo hi x : Int32} {I : fm_I} : (if zb p = 0 then rz 0 I else if x < lo then rz 0 I else if hi < x then rz 0 I else rz 1 I) = ri (zb (p ∧ lo ≤ x ∧ x ≤ hi)) I := by
  by_cases hp : p
  · rw [zb_t hp, if_neg (by decide), two_lt]
    exact congrArg (fun v => ri v I) (zb_iff ⟨fun q => ⟨hp, q⟩, fun q => q.2⟩)
  · rw [zb_f hp, if_pos (by decide), rz_0, zb_f (fun z => hp z.1)]
theorem c_fit (k a b : Int32) [Decidable (fitP k a b)] (I : fm_I) : fn_Mod_hasFittingNumbers k a b I = ri (zb (fitP k a b)) I := by
  unfold fn_Mod_hasFittingNumbers
  by_cases e0 : k = 0
  · rw [if_pos e0, bi_t (px_isName a I), rz_b, zb_iff (show fitP k a b ↔ nmI a by unfold fitP; rw [if_pos e0])]
  rw [if_neg e0]
  by_cases e1 : k = 1
  · rw [if_pos e1, bi_t (px_isName a I), rz_b, zb_iff (show fitP k a b ↔ nmI a by unfold fitP; rw [if_neg e0, if_pos e1])]
  rw [if_neg e1]
  by_cases e2 : k = 2
  · rw [if_pos e2, bi_t (px_isSection a I), rz_b, zb_iff (show fitP k a b ↔ (0 ≤ a ∧ a ≤ 2) by unfold fitP; rw [if_neg e0, if_neg e1, if_pos e2])]
  rw [if_neg e2]
  by_cases e3 : k = 3
  · rw [if_pos e3, bi_t (px_isWord a I), rz_b, zb_iff (show fitP k a b ↔ (0 ≤ a ∧ a ≤ 65535) by unfold fitP; rw [if_neg e0, if_neg e1, if_neg e2, if_pos e3])]
  rw [if_neg e3]
  by_cases e4 : k = 4
  · rw [if_pos e4, bi_t (px_isName a I), two_and (px_within b _ _ I), zb_iff (show fitP k a b ↔ (nmI a ∧ -32768 ≤ b ∧ b ≤ 32767) by unfold fitP; rw [if_neg e0, if_neg e1, if_neg e2, if_neg e3, if_pos e4])]
  rw [if_neg e4]
  by_cases e5 : k = 5
  · rw [if_pos e5, bi_t (px_within a _ _ I), rz_b, zb_iff (show fitP k a b ↔ (1 ≤ a ∧ a ≤ 16) by unfold fitP; rw [if_neg e0, if_neg e1, if_neg e2, if_neg e3, if_neg e4, if_pos e5])]
  rw [if_neg e5]
  by_cases e6 : k = 6
  · rw [if_pos e6, bi_t (px_isName a I), two_and (px_within b _ _ I), zb_iff (show fitP k a b ↔ (nmI a ∧ 0 ≤ b ∧ b ≤ 3) by unfold fitP; rw [if_neg e0, if_neg e1, if_neg e2, if_neg e3, if_neg e4, if_neg e5, if_pos e6])]
  rw [if_neg e6]
  by_cases e7 : k = 7
  · rw [if_pos e7, bi_t (px_isName a I), two_and (px_within b _ _ I), zb_iff (show fitP k a b ↔ (nmI a ∧ 1 ≤ b ∧ b ≤ 16) by unfold fitP; rw [if_neg e0, if_neg e1, if_neg e2, if_neg e3, if_neg e4, if_neg e5, if_neg e6, if_pos e7])]
  rw [if_neg e7]
  by_cases e8 : k = 8
  · rw [if_pos e8, bi_t (px_isName a I), two_and (px_isWord b I), zb_iff (show fitP k a b ↔ (nmI a ∧ 0 ≤ b ∧ b ≤ 65535) by unfold fitP; rw [if_neg e0, if_neg e1, if_neg e2, if_neg e3, if_neg e4, if_neg e5, if_neg e6, if_neg e7, if_pos e8])]
  rw [if_neg e8, rz_0, zb_f (by unfold fitP; rw [if_neg e0, if_neg e1, if_neg e2, if_neg e3, if_neg e4, if_neg e5, if_neg e6, if_neg e7, if_neg e8]; exact id)]
theorem r_fit (k a b : Int32) [Decidable (fitP k a b)] (I : fm_I) : fn_Ref_fits 78 k a b I = ri (zb (fitP k a b)) I := by
  unfold fn_Ref_fits
  by_cases e0 : k = 0
  · rw [if_pos e0, vi_t rfl ref_name, rz_b, zb_iff (show fitP k a b ↔ nmI a by unfold fitP; rw [if_pos e0])]
  rw [if_neg e0]
  by_cases e1 : k = 1
  · rw [if_pos e1, vi_t rfl ref_name, rz_b, zb_iff (show fitP k a b ↔ nmI a by unfold fitP; rw [if_neg e0, if_pos e1])]
  rw [if_neg e1]
  by_cases e2 : k = 2
  · rw [if_pos e2, two_lt, zb_iff (show fitP k a b ↔ (0 ≤ a ∧ a ≤ 2) by unfold fitP; rw [if_neg e0, if_neg e1, if_pos e2])]
  rw [if_neg e2]
  by_cases e3 : k = 3
  · rw [if_pos e3, vi_t rfl ref_isWord, rz_b, zb_iff (show fitP k a b ↔ (0 ≤ a ∧ a ≤ 65535) by unfold fitP; rw [if_neg e0, if_neg e1, if_neg e2, if_pos e3])]
  rw [if_neg e3]
  by_cases e4 : k = 4
  · rw [if_pos e4, vi_t rfl ref_name, two_and2, zb_iff (show fitP k a b ↔ (nmI a ∧ -32768 ≤ b ∧ b ≤ 32767) by unfold fitP; rw [if_neg e0, if_neg e1, if_neg e2, if_neg e3, if_pos e4])]
  rw [if_neg e4]
  by_cases e5 : k = 5
  · rw [if_pos e5, two_lt, zb_iff (show fitP k a b ↔ (1 ≤ a ∧ a ≤ 16) by unfold fitP; rw [if_neg e0, if_neg e1, if_neg e2, if_neg e3, if_neg e4, if_pos e5])]
  rw [if_neg e5]
  by_cases e6 : k = 6
  · rw [if_pos e6, vi_t rfl ref_name, two_and2, zb_iff (show fitP k a b ↔ (nmI a ∧ 0 ≤ b ∧ b ≤ 3) by unfold fitP; rw [if_neg e0, if_neg e1, if_neg e2, if_neg e3, if_neg e4, if_neg e5, if_pos e6])]
  rw [if_neg e6]
  by_cases e7 : k = 7
  · rw [if_pos e7, vi_t rfl ref_name, two_and2, zb_iff (show fitP k a b ↔ (nmI a ∧ 1 ≤ b ∧ b ≤ 16) by unfold fitP; rw [if_neg e0, if_neg e1, if_neg e2, if_neg e3, if_neg e4, if_neg e5, if_neg e6, if_pos e7])]
  rw [if_neg e7]
  by_cases e8 : k = 8
  · have h8 : fitP k a b ↔ (nmI a ∧ 0 ≤ b ∧ b ≤ 65535) := by unfold fitP; rw [if_neg e0, if_neg e1, if_neg e2, if_neg e3, if_neg e4, if_neg e5, if_neg e6, if_neg e7, if_pos e8]
    rw [if_pos e8, vi_t rfl ref_name, zb_iff h8]
    by_cases hn : nmI a
    · rw [zb_t hn, if_neg (by decide), vi_t rfl ref_isWord]
      by_cases hw : 0 ≤ b ∧ b ≤ 65535
      · rw [zb_t hw, if_neg (by decide), rz_1, zb_t ⟨hn, hw⟩]
      · rw [zb_f hw, if_pos (by decide), rz_0, zb_f (fun z => hw z.2)]
    · rw [zb_f hn, if_pos (by decide), rz_0, zb_f (fun z => hn z.1)]
  rw [if_neg e8, rz_0, zb_f (by unfold fitP; rw [if_neg e0, if_neg e1, if_neg e2, if_neg e3, if_neg e4, if_neg e5, if_neg e6, if_neg e7, if_neg e8]; exact id)]
theorem fit_ok {k a b s : Int32} (h : fitP k a b) (hs : ∃ n : Nat, n < 3 ∧ s = nI n) (h6 : k = 6 → s = 0) : okS k a b s := by
  have nm : nmI a → ∃ n : Nat, n < 16 ∧ a = nI n := fun q => by
    obtain ⟨j, hj, e⟩ := nI_of2 (x := a) (M := 15) (n := 15) (by decide) (fun z => Int32.not_le.mpr z q.1) q.2
    exact ⟨j, by omega, e⟩
  have wdd : ∀ x : Int32, 0 ≤ x ∧ x ≤ 65535 → wd x := fun x q => by
    obtain ⟨j, hj, e⟩ := nI_of2 (x := x) (M := 65535) (n := 65535) (by decide) (fun z => Int32.not_le.mpr z q.1) q.2
    exact ⟨j, by omega, e⟩
  unfold fitP at h
  refine ⟨hs, fun q => ?_, fun q => ?_, fun q => ?_, h6, fun q => ?_, fun q => ?_, fun q => ?_⟩
  · rcases q with q | q | q | q | q | q <;> subst q
    · rw [if_pos rfl] at h; exact nm h
    · rw [if_neg (by decide), if_pos rfl] at h; exact nm h
    · rw [if_neg (by decide), if_neg (by decide), if_neg (by decide), if_neg (by decide), if_pos rfl] at h; exact nm h.1
    · rw [if_neg (by decide), if_neg (by decide), if_neg (by decide), if_neg (by decide), if_neg (by decide), if_neg (by decide), if_pos rfl] at h; exact nm h.1
    · rw [if_neg (by decide), if_neg (by decide), if_neg (by decide), if_neg (by decide), if_neg (by decide), if_neg (by decide), if_neg (by decide), if_pos rfl] at h; exact nm h.1
    · rw [if_neg (by decide), if_neg (by decide), if_neg (by decide), if_neg (by decide), if_neg (by decide), if_neg (by decide), if_neg (by decide), if_neg (by decide), if_pos rfl] at h; exact nm h.1
  · subst q
    rw [if_neg (by decide), if_neg (by decide), if_neg (by decide), if_neg (by decide), if_neg (by decide), if_pos rfl] at h; exact h
  · subst q
    rw [if_neg (by decide), if_neg (by decide), if_neg (by decide), if_neg (by decide), if_neg (by decide), if_neg (by decide), if_neg (by decide), if_pos rfl] at h; exact h.2
  · subst q
    rw [if_neg (by decide), if_neg (by decide), if_neg (by decide), if_pos rfl] at h; exact wdd a h
  · subst q
    rw [if_neg (by decide), if_neg (by decide), if_neg (by decide), if_neg (by decide), if_neg (by decide), if_neg (by decide), if_neg (by decide), if_neg (by decide), if_pos rfl] at h; exact wdd b h.2
  · subst q
    rw [if_neg (by decide), if_neg (by decide), if_neg (by decide), if_neg (by decide), if_neg (by decide), if_neg (by decide), if_pos rfl] at h
    obtain ⟨j, hj, e⟩ := nI_of2 (x := b) (M := 3) (n := 3) (by decide) (fun z => Int32.not_le.mpr z h.2.1) h.2.2
    exact ⟨j, by omega, e⟩
-- name sets that grow
theorem set_add {X : Int32} {Qk : Int32 → Prop} {K F : Nat → Int32} {c a : Nat} {k : Int32} (h : ∀ i, i < 32 → (bt X i = true ↔ ∃ j, j < c ∧ Qk (K j) ∧ F j = nI i)) (hq : Qk k) (ha : a < 32) : ∀ i, i < 32 → (bt (X ||| ((1 : Int32) <<< (nI a &&& 31))) i = true ↔ ∃ j, j < c + 1 ∧ Qk (upd K c k j) ∧ upd F c (nI a) j = nI i) := by
  intro i hi
  rw [b_or, bt_set ha hi, Bool.or_eq_true, decide_eq_true_eq]
  constructor
  · rintro (q | q)
    · obtain ⟨j, j1, j2, j3⟩ := (h i hi).mp q
      exact ⟨j, by omega, by rw [pk_un (by omega)]; exact j2, by rw [pk_un (by omega)]; exact j3⟩
    · subst q
      exact ⟨c, by omega, by rw [pk_us]; exact hq, pk_us⟩
  · rintro ⟨j, j1, j2, j3⟩
    by_cases e : j = c
    · subst e
      rw [pk_us] at j3
      exact Or.inr ((nI_eq (by omega) (by omega)).mp j3).symm
    · rw [pk_un e] at j2 j3
      exact Or.inl ((h i hi).mpr ⟨j, by omega, j2, j3⟩)
theorem set_keep {X : Int32} {Qk : Int32 → Prop} {K F : Nat → Int32} {c : Nat} {k f : Int32} (h : ∀ i, i < 32 → (bt X i = true ↔ ∃ j, j < c ∧ Qk (K j) ∧ F j = nI i)) (hq : ¬ Qk k) : ∀ i, i < 32 → (bt X i = true ↔ ∃ j, j < c + 1 ∧ Qk (upd K c k j) ∧ upd F c f j = nI i) := by
  intro i hi
  rw [h i hi]
  constructor
  · rintro ⟨j, j1, j2, j3⟩
    exact ⟨j, by omega, by rw [pk_un (by omega)]; exact j2, by rw [pk_un (by omega)]; exact j3⟩
  · rintro ⟨j, j1, j2, j3⟩
    by_cases e : j = c
    · subst e
      rw [pk_us] at j2
      exact absurd j2 hq
    · rw [pk_un e] at j2 j3
      exact ⟨j, by omega, j2, j3⟩
/-- which set grows with a statement of kind k about the name a -/
def gs (X : Int32) (p : Prop) [Decidable p] (a : Int32) : Int32 := if p then X ||| ((1 : Int32) <<< (a &&& 31)) else X
theorem set_gs {X : Int32} {Qk : Int32 → Prop} {K F : Nat → Int32} {c : Nat} {k a : Int32} [Decidable (Qk k)] (h : ∀ i, i < 32 → (bt X i = true ↔ ∃ j, j < c ∧ Qk (K j) ∧ F j = nI i)) (ha : Qk k → ∃ n : Nat, n < 16 ∧ a = nI n) : ∀ i, i < 32 → (bt (gs X (Qk k) a) i = true ↔ ∃ j, j < c + 1 ∧ Qk (upd K c k j) ∧ upd F c a j = nI i) := by
  unfold gs
  by_cases hq : Qk k
  · obtain ⟨n, hn, rfl⟩ := ha hq
    rw [if_pos hq]
    exact set_add h hq (by omega)
  · rw [if_neg hq]
    exact set_keep h hq
theorem CM0.add {A A1 : fm_I} {b c : Nat} {k a y s : Int32} (h : CM0 A b c) (hc : c < 20) (hok : okS k a y s)
    (h8 : A1 b 8 = nI (c + 1)) (h9 : A1 b 9 = gs (A b 9) (k = 0 ∨ k = 8) a) (h10 : A1 b 10 = gs (A b 10) (k = 7) a) (h11 : A1 b 11 = gs (A b 11) (k = 1) a) (h12 : A1 b 12 = gs (A b 12) (k = 4 ∨ k = 6) a)
    (e1 : A1 (b + 1) = upd (A (b + 1)) c k) (e2 : A1 (b + 2) = upd (A (b + 2)) c a) (e3 : A1 (b + 3) = upd (A (b + 3)) c y) (e4 : A1 (b + 4) = upd (A (b + 4)) c s)
    (e8a : hold7 k → ∀ n, n < 16 → a = nI n → A1 (b + 8) n = nI c) (e8b : ∀ n, n < 16 → (hold7 k → a ≠ nI n) → A1 (b + 8) n = A (b + 8) n) (htw : hold7 k → ∀ j, j < c → hold7 (A (b + 1) j) → A (b + 2) j ≠ a) : CM0 A1 b (c + 1) := by
  obtain ⟨q1, q2, q3, q4, q5, q6, q7, q8⟩ := h
  refine ⟨h8, by omega, fun j hj => ?_, ?_, ?_, ?_, ?_, fun j n hj hn16 hh hn => ?_⟩
  · rw [e1, e2, e3, e4]
    by_cases e : j = c
    · subst e; rw [pk_us, pk_us, pk_us, pk_us]; exact hok
    · rw [pk_un e, pk_un e, pk_un e, pk_un e]; exact q3 j (by omega)
  · rw [h9, e1, e2]
    exact set_gs (Qk := fun x => x = 0 ∨ x = 8) q4 (fun q => hok.2.1 (by rcases q with q | q <;> rw [q] <;> decide))
  · rw [h10, e1, e2]
    exact set_gs (Qk := fun x => x = 7) q5 (fun q => hok.2.1 (by rw [q]; decide))
  · rw [h11, e1, e2]
    exact set_gs (Qk := fun x => x = 1) q6 (fun q => hok.2.1 (by rw [q]; decide))
  · rw [h12, e1, e2]
    exact set_gs (Qk := fun x => x = 4 ∨ x = 6) q7 (fun q => hok.2.1 (by rcases q with q | q <;> rw [q] <;> decide))
  · rw [e1] at hh
    rw [e2] at hn
    by_cases e : j = c
    · subst e
      rw [pk_us] at hh hn
      exact e8a hh n hn16 hn
    · rw [pk_un e] at hh hn
      rw [e8b n hn16 (fun q1 q2 => htw q1 j (by omega) hh (hn.trans q2.symm))]
      exact q8 j n (by omega) hn16 hh hn
