-- the machine on both sides. MA A0 A ..: the class's machine in A; what it leaves of A0. MB: the reference's
abbrev wd (x : Int32) : Prop := ∃ k : Nat, k < 65536 ∧ x = nI k
def MA (A0 A : fm_I) (T f t : Nat) (x a r p s o : Int32) (w tp L : Nat → Int32) : Prop := (A 74 3 = nI T ∧ A 74 4 = x ∧ A 74 5 = a ∧ A 74 6 = r ∧ A 74 7 = p ∧ A 74 8 = s ∧ A 74 9 = nI f ∧ A 74 10 = nI t ∧ A 74 11 = o) ∧ (∀ j, j < T → A 75 j = w j) ∧ (∀ j, j < f → A 76 j = tp j) ∧ (∀ j, j < 4 → A 77 j = L j) ∧ (∀ q, q ≠ 74 → q ≠ 75 → q ≠ 77 → A q = A0 q) ∧ A 74 12 = A0 74 12
def MB (B0 B : fm_I) (T f t : Nat) (x a r p s o : Int32) (w tp L : Nat → Int32) : Prop := (B 78 18 = nI T ∧ B 89 0 = x ∧ B 78 23 = a ∧ B 78 24 = r ∧ B 78 25 = p ∧ B 78 26 = s ∧ B 78 30 = nI f ∧ B 78 31 = nI t ∧ B 78 27 = o) ∧ (∀ j, j < T → B 91 j = w j) ∧ (∀ j, j < f → B 93 j = tp j) ∧ (∀ j, j < 4 → B 92 j = L j) ∧ (∀ q, q ≠ 78 → q ≠ 91 → q ≠ 92 → B q = B0 q) ∧ (∀ j, j < 23 → B 78 j = B0 78 j)
def RG (T f t : Nat) (a r p : Int32) (w tp : Nat → Int32) : Prop := T ≤ 200 ∧ f ≤ 8 ∧ t ≤ f ∧ wd a ∧ wd r ∧ wd p ∧ (∀ j, j < T → wd (w j)) ∧ (∀ j, j < f → wd (tp j))
section MAC
variable {A0 A B0 B : fm_I} {T f t : Nat} {x a r p s o : Int32} {w tp L : Nat → Int32}
theorem ma_5 {v : Int32} (h : MA A0 A T f t x a r p s o w tp L) : MA A0 (fm_up A 74 5 v) T f t x v r p s o w tp L := by
  obtain ⟨⟨h1, h2, h3, h4, h5, h6, h7, h8, h9⟩, h10, h11, h12, h13, h14⟩ := h
  refine ⟨⟨?_, ?_, ?_, ?_, ?_, ?_, ?_, ?_, ?_⟩, fun j hj => ?_, fun j hj => ?_, fun j hj => ?_, fun q q1 q2 q3 => funext fun j => ?_, ?_⟩
  all_goals try (first | exact fm_up_s _ _ _ _ | (rw [fm_up_k _ _ (by decide)]; assumption))
  · rw [fm_up_p _ _ _ (by decide)]; exact h10 j hj
  · rw [fm_up_p _ _ _ (by decide)]; exact h11 j hj
  · rw [fm_up_p _ _ _ (by decide)]; exact h12 j hj
  · rw [fm_up_p _ _ _ q1, h13 q q1 q2 q3]
theorem ma_6 {v : Int32} (h : MA A0 A T f t x a r p s o w tp L) : MA A0 (fm_up A 74 6 v) T f t x a v p s o w tp L := by
  obtain ⟨⟨h1, h2, h3, h4, h5, h6, h7, h8, h9⟩, h10, h11, h12, h13, h14⟩ := h
  refine ⟨⟨?_, ?_, ?_, ?_, ?_, ?_, ?_, ?_, ?_⟩, fun j hj => ?_, fun j hj => ?_, fun j hj => ?_, fun q q1 q2 q3 => funext fun j => ?_, ?_⟩
  all_goals try (first | exact fm_up_s _ _ _ _ | (rw [fm_up_k _ _ (by decide)]; assumption))
  · rw [fm_up_p _ _ _ (by decide)]; exact h10 j hj
  · rw [fm_up_p _ _ _ (by decide)]; exact h11 j hj
  · rw [fm_up_p _ _ _ (by decide)]; exact h12 j hj
  · rw [fm_up_p _ _ _ q1, h13 q q1 q2 q3]
theorem ma_7 {v : Int32} (h : MA A0 A T f t x a r p s o w tp L) : MA A0 (fm_up A 74 7 v) T f t x a r v s o w tp L := by
  obtain ⟨⟨h1, h2, h3, h4, h5, h6, h7, h8, h9⟩, h10, h11, h12, h13, h14⟩ := h
  refine ⟨⟨?_, ?_, ?_, ?_, ?_, ?_, ?_, ?_, ?_⟩, fun j hj => ?_, fun j hj => ?_, fun j hj => ?_, fun q q1 q2 q3 => funext fun j => ?_, ?_⟩
  all_goals try (first | exact fm_up_s _ _ _ _ | (rw [fm_up_k _ _ (by decide)]; assumption))
  · rw [fm_up_p _ _ _ (by decide)]; exact h10 j hj
  · rw [fm_up_p _ _ _ (by decide)]; exact h11 j hj
  · rw [fm_up_p _ _ _ (by decide)]; exact h12 j hj
  · rw [fm_up_p _ _ _ q1, h13 q q1 q2 q3]
theorem ma_8 {v : Int32} (h : MA A0 A T f t x a r p s o w tp L) : MA A0 (fm_up A 74 8 v) T f t x a r p v o w tp L := by
  obtain ⟨⟨h1, h2, h3, h4, h5, h6, h7, h8, h9⟩, h10, h11, h12, h13, h14⟩ := h
  refine ⟨⟨?_, ?_, ?_, ?_, ?_, ?_, ?_, ?_, ?_⟩, fun j hj => ?_, fun j hj => ?_, fun j hj => ?_, fun q q1 q2 q3 => funext fun j => ?_, ?_⟩
  all_goals try (first | exact fm_up_s _ _ _ _ | (rw [fm_up_k _ _ (by decide)]; assumption))
  · rw [fm_up_p _ _ _ (by decide)]; exact h10 j hj
  · rw [fm_up_p _ _ _ (by decide)]; exact h11 j hj
  · rw [fm_up_p _ _ _ (by decide)]; exact h12 j hj
  · rw [fm_up_p _ _ _ q1, h13 q q1 q2 q3]
theorem ma_11 {v : Int32} (h : MA A0 A T f t x a r p s o w tp L) : MA A0 (fm_up A 74 11 v) T f t x a r p s v w tp L := by
  obtain ⟨⟨h1, h2, h3, h4, h5, h6, h7, h8, h9⟩, h10, h11, h12, h13, h14⟩ := h
  refine ⟨⟨?_, ?_, ?_, ?_, ?_, ?_, ?_, ?_, ?_⟩, fun j hj => ?_, fun j hj => ?_, fun j hj => ?_, fun q q1 q2 q3 => funext fun j => ?_, ?_⟩
  all_goals try (first | exact fm_up_s _ _ _ _ | (rw [fm_up_k _ _ (by decide)]; assumption))
  · rw [fm_up_p _ _ _ (by decide)]; exact h10 j hj
  · rw [fm_up_p _ _ _ (by decide)]; exact h11 j hj
  · rw [fm_up_p _ _ _ (by decide)]; exact h12 j hj
  · rw [fm_up_p _ _ _ q1, h13 q q1 q2 q3]
theorem ma_10 {t' : Nat} (h : MA A0 A T f t x a r p s o w tp L) : MA A0 (fm_up A 74 10 (nI t')) T f t' x a r p s o w tp L := by
  obtain ⟨⟨h1, h2, h3, h4, h5, h6, h7, h8, h9⟩, h10, h11, h12, h13, h14⟩ := h
  refine ⟨⟨?_, ?_, ?_, ?_, ?_, ?_, ?_, ?_, ?_⟩, fun j hj => ?_, fun j hj => ?_, fun j hj => ?_, fun q q1 q2 q3 => funext fun j => ?_, ?_⟩
  all_goals try (first | exact fm_up_s _ _ _ _ | (rw [fm_up_k _ _ (by decide)]; assumption))
  · rw [fm_up_p _ _ _ (by decide)]; exact h10 j hj
  · rw [fm_up_p _ _ _ (by decide)]; exact h11 j hj
  · rw [fm_up_p _ _ _ (by decide)]; exact h12 j hj
  · rw [fm_up_p _ _ _ q1, h13 q q1 q2 q3]
theorem mb_23 {v : Int32} (h : MB B0 B T f t x a r p s o w tp L) : MB B0 (fm_up B 78 23 v) T f t x v r p s o w tp L := by
  obtain ⟨⟨h1, h2, h3, h4, h5, h6, h7, h8, h9⟩, h10, h11, h12, h13, h14⟩ := h
  refine ⟨⟨?_, ?_, ?_, ?_, ?_, ?_, ?_, ?_, ?_⟩, fun j hj => ?_, fun j hj => ?_, fun j hj => ?_, fun q q1 q2 q3 => funext fun j => ?_, fun j hj => ?_⟩
  all_goals try (first | exact fm_up_s _ _ _ _ | (rw [fm_up_k _ _ (by decide)]; assumption) | (rw [fm_up_p _ _ _ (by decide)]; assumption))
  · rw [fm_up_p _ _ _ (by decide)]; exact h10 j hj
  · rw [fm_up_p _ _ _ (by decide)]; exact h11 j hj
  · rw [fm_up_p _ _ _ (by decide)]; exact h12 j hj
  · rw [fm_up_p _ _ _ q1, h13 q q1 q2 q3]
  · rw [fm_up_k _ _ (by omega)]; exact h14 j hj
theorem mb_24 {v : Int32} (h : MB B0 B T f t x a r p s o w tp L) : MB B0 (fm_up B 78 24 v) T f t x a v p s o w tp L := by
  obtain ⟨⟨h1, h2, h3, h4, h5, h6, h7, h8, h9⟩, h10, h11, h12, h13, h14⟩ := h
  refine ⟨⟨?_, ?_, ?_, ?_, ?_, ?_, ?_, ?_, ?_⟩, fun j hj => ?_, fun j hj => ?_, fun j hj => ?_, fun q q1 q2 q3 => funext fun j => ?_, fun j hj => ?_⟩
  all_goals try (first | exact fm_up_s _ _ _ _ | (rw [fm_up_k _ _ (by decide)]; assumption) | (rw [fm_up_p _ _ _ (by decide)]; assumption))
  · rw [fm_up_p _ _ _ (by decide)]; exact h10 j hj
  · rw [fm_up_p _ _ _ (by decide)]; exact h11 j hj
  · rw [fm_up_p _ _ _ (by decide)]; exact h12 j hj
  · rw [fm_up_p _ _ _ q1, h13 q q1 q2 q3]
  · rw [fm_up_k _ _ (by omega)]; exact h14 j hj
theorem mb_25 {v : Int32} (h : MB B0 B T f t x a r p s o w tp L) : MB B0 (fm_up B 78 25 v) T f t x a r v s o w tp L := by
  obtain ⟨⟨h1, h2, h3, h4, h5, h6, h7, h8, h9⟩, h10, h11, h12, h13, h14⟩ := h
  refine ⟨⟨?_, ?_, ?_, ?_, ?_, ?_, ?_, ?_, ?_⟩, fun j hj => ?_, fun j hj => ?_, fun j hj => ?_, fun q q1 q2 q3 => funext fun j => ?_, fun j hj => ?_⟩
  all_goals try (first | exact fm_up_s _ _ _ _ | (rw [fm_up_k _ _ (by decide)]; assumption) | (rw [fm_up_p _ _ _ (by decide)]; assumption))
  · rw [fm_up_p _ _ _ (by decide)]; exact h10 j hj
  · rw [fm_up_p _ _ _ (by decide)]; exact h11 j hj
  · rw [fm_up_p _ _ _ (by decide)]; exact h12 j hj
  · rw [fm_up_p _ _ _ q1, h13 q q1 q2 q3]
  · rw [fm_up_k _ _ (by omega)]; exact h14 j hj
theorem mb_26 {v : Int32} (h : MB B0 B T f t x a r p s o w tp L) : MB B0 (fm_up B 78 26 v) T f t x a r p v o w tp L := by
  obtain ⟨⟨h1, h2, h3, h4, h5, h6, h7, h8, h9⟩, h10, h11, h12, h13, h14⟩ := h
  refine ⟨⟨?_, ?_, ?_, ?_, ?_, ?_, ?_, ?_, ?_⟩, fun j hj => ?_, fun j hj => ?_, fun j hj => ?_, fun q q1 q2 q3 => funext fun j => ?_, fun j hj => ?_⟩
  all_goals try (first | exact fm_up_s _ _ _ _ | (rw [fm_up_k _ _ (by decide)]; assumption) | (rw [fm_up_p _ _ _ (by decide)]; assumption))
  · rw [fm_up_p _ _ _ (by decide)]; exact h10 j hj
  · rw [fm_up_p _ _ _ (by decide)]; exact h11 j hj
  · rw [fm_up_p _ _ _ (by decide)]; exact h12 j hj
  · rw [fm_up_p _ _ _ q1, h13 q q1 q2 q3]
  · rw [fm_up_k _ _ (by omega)]; exact h14 j hj
theorem mb_27 {v : Int32} (h : MB B0 B T f t x a r p s o w tp L) : MB B0 (fm_up B 78 27 v) T f t x a r p s v w tp L := by
  obtain ⟨⟨h1, h2, h3, h4, h5, h6, h7, h8, h9⟩, h10, h11, h12, h13, h14⟩ := h
  refine ⟨⟨?_, ?_, ?_, ?_, ?_, ?_, ?_, ?_, ?_⟩, fun j hj => ?_, fun j hj => ?_, fun j hj => ?_, fun q q1 q2 q3 => funext fun j => ?_, fun j hj => ?_⟩
  all_goals try (first | exact fm_up_s _ _ _ _ | (rw [fm_up_k _ _ (by decide)]; assumption) | (rw [fm_up_p _ _ _ (by decide)]; assumption))
  · rw [fm_up_p _ _ _ (by decide)]; exact h10 j hj
  · rw [fm_up_p _ _ _ (by decide)]; exact h11 j hj
  · rw [fm_up_p _ _ _ (by decide)]; exact h12 j hj
  · rw [fm_up_p _ _ _ q1, h13 q q1 q2 q3]
  · rw [fm_up_k _ _ (by omega)]; exact h14 j hj
theorem mb_31 {t' : Nat} (h : MB B0 B T f t x a r p s o w tp L) : MB B0 (fm_up B 78 31 (nI t')) T f t' x a r p s o w tp L := by
  obtain ⟨⟨h1, h2, h3, h4, h5, h6, h7, h8, h9⟩, h10, h11, h12, h13, h14⟩ := h
  refine ⟨⟨?_, ?_, ?_, ?_, ?_, ?_, ?_, ?_, ?_⟩, fun j hj => ?_, fun j hj => ?_, fun j hj => ?_, fun q q1 q2 q3 => funext fun j => ?_, fun j hj => ?_⟩
  all_goals try (first | exact fm_up_s _ _ _ _ | (rw [fm_up_k _ _ (by decide)]; assumption) | (rw [fm_up_p _ _ _ (by decide)]; assumption))
  · rw [fm_up_p _ _ _ (by decide)]; exact h10 j hj
  · rw [fm_up_p _ _ _ (by decide)]; exact h11 j hj
  · rw [fm_up_p _ _ _ (by decide)]; exact h12 j hj
  · rw [fm_up_p _ _ _ q1, h13 q q1 q2 q3]
  · rw [fm_up_k _ _ (by omega)]; exact h14 j hj
theorem ma_75 {m : Nat} {v : Int32} (h : MA A0 A T f t x a r p s o w tp L) : MA A0 (fm_up A 75 m v) T f t x a r p s o (upd w m v) tp L := by
  obtain ⟨⟨h1, h2, h3, h4, h5, h6, h7, h8, h9⟩, h10, h11, h12, h13, h14⟩ := h
  refine ⟨⟨?_, ?_, ?_, ?_, ?_, ?_, ?_, ?_, ?_⟩, fun j hj => ?_, fun j hj => ?_, fun j hj => ?_, fun q q1 q2 q3 => funext fun j => ?_, ?_⟩
  all_goals try (rw [fm_up_p _ _ _ (by decide)]; assumption)
  · by_cases e : j = m
    · subst e; rw [fm_up_s, pk_us]
    · rw [fm_up_k _ _ e, pk_un e]; exact h10 j hj
  · rw [fm_up_p _ _ _ (by decide)]; exact h11 j hj
  · rw [fm_up_p _ _ _ (by decide)]; exact h12 j hj
  · rw [fm_up_p _ _ _ q2, h13 q q1 q2 q3]
theorem mb_91 {m : Nat} {v : Int32} (h : MB B0 B T f t x a r p s o w tp L) : MB B0 (fm_up B 91 m v) T f t x a r p s o (upd w m v) tp L := by
  obtain ⟨⟨h1, h2, h3, h4, h5, h6, h7, h8, h9⟩, h10, h11, h12, h13, h14⟩ := h
  refine ⟨⟨?_, ?_, ?_, ?_, ?_, ?_, ?_, ?_, ?_⟩, fun j hj => ?_, fun j hj => ?_, fun j hj => ?_, fun q q1 q2 q3 => funext fun j => ?_, fun j hj => ?_⟩
  all_goals try (rw [fm_up_p _ _ _ (by decide)]; assumption)
  · by_cases e : j = m
    · subst e; rw [fm_up_s, pk_us]
    · rw [fm_up_k _ _ e, pk_un e]; exact h10 j hj
  · rw [fm_up_p _ _ _ (by decide)]; exact h11 j hj
  · rw [fm_up_p _ _ _ (by decide)]; exact h12 j hj
  · rw [fm_up_p _ _ _ q2, h13 q q1 q2 q3]
  · rw [fm_up_p _ _ _ (by decide)]; exact h14 j hj
theorem ma_77 {m : Nat} {v : Int32} (h : MA A0 A T f t x a r p s o w tp L) : MA A0 (fm_up A 77 m v) T f t x a r p s o w tp (upd L m v) := by
  obtain ⟨⟨h1, h2, h3, h4, h5, h6, h7, h8, h9⟩, h10, h11, h12, h13, h14⟩ := h
  refine ⟨⟨?_, ?_, ?_, ?_, ?_, ?_, ?_, ?_, ?_⟩, fun j hj => ?_, fun j hj => ?_, fun j hj => ?_, fun q q1 q2 q3 => funext fun j => ?_, ?_⟩
  all_goals try (rw [fm_up_p _ _ _ (by decide)]; assumption)
  · rw [fm_up_p _ _ _ (by decide)]; exact h10 j hj
  · rw [fm_up_p _ _ _ (by decide)]; exact h11 j hj
  · by_cases e : j = m
    · subst e; rw [fm_up_s, pk_us]
    · rw [fm_up_k _ _ e, pk_un e]; exact h12 j hj
  · rw [fm_up_p _ _ _ q3, h13 q q1 q2 q3]
theorem mb_92 {m : Nat} {v : Int32} (h : MB B0 B T f t x a r p s o w tp L) : MB B0 (fm_up B 92 m v) T f t x a r p s o w tp (upd L m v) := by
  obtain ⟨⟨h1, h2, h3, h4, h5, h6, h7, h8, h9⟩, h10, h11, h12, h13, h14⟩ := h
  refine ⟨⟨?_, ?_, ?_, ?_, ?_, ?_, ?_, ?_, ?_⟩, fun j hj => ?_, fun j hj => ?_, fun j hj => ?_, fun q q1 q2 q3 => funext fun j => ?_, fun j hj => ?_⟩
  all_goals try (rw [fm_up_p _ _ _ (by decide)]; assumption)
  · rw [fm_up_p _ _ _ (by decide)]; exact h10 j hj
  · rw [fm_up_p _ _ _ (by decide)]; exact h11 j hj
  · by_cases e : j = m
    · subst e; rw [fm_up_s, pk_us]
    · rw [fm_up_k _ _ e, pk_un e]; exact h12 j hj
  · rw [fm_up_p _ _ _ q3, h13 q q1 q2 q3]
  · rw [fm_up_p _ _ _ (by decide)]; exact h14 j hj
end MAC
-- numbers
theorem n_div {v : Nat} (h : v < 65536) : nI v / 4096 = nI (v / 4096) := pk_div (d := 4096) (by omega) (by decide) (by decide)
theorem n_rem {v : Nat} (h : v < 65536) : nI v - nI v / 4096 * 4096 = nI (v % 4096) := pk_rem (d := 4096) (by omega) (by decide) (by decide)
theorem n_shr {v : Nat} (h : v < 65536) : nI v >>> ((12 : Int32) &&& 31) = nI (v / 4096) := pk_shrN (by omega) _ 12 (by decide)
theorem n_and {v : Nat} (h : v < 65536) : nI v &&& 4095 = nI (v % 4096) := pk_andN (by omega) 12 (by decide)
theorem n_c1 {n : Nat} (h : n < 4096) : (nI n / 256) - (nI n / 256) / 4 * 4 = nI (n / 256 % 4) := by
  rw [show nI n / 256 = nI (n / 256) from pk_div (d := 256) (by omega) (by decide) (by decide)]
  exact pk_rem (d := 4) (by omega) (by decide) (by decide)
theorem n_c2 {n : Nat} (h : n < 4096) : (nI n >>> ((8 : Int32) &&& 31)) &&& 3 = nI (n / 256 % 4) := by
  rw [pk_shrN (n := n) (by omega) _ 8 (by decide)]
  exact pk_andN (by omega) 2 (by decide)
theorem n_l1 {n : Nat} (h : n < 4096) : nI n - nI n / 256 * 256 = nI (n % 256) := pk_rem (d := 256) (by omega) (by decide) (by decide)
theorem n_l2 {n : Nat} (h : n < 4096) : nI n &&& 255 = nI (n % 256) := pk_andN (by omega) 8 (by decide)
theorem n_h1 {n : Nat} (h : n < 4096) : nI n - nI n / 16 * 16 = nI (n % 16) := pk_rem (d := 16) (by omega) (by decide) (by decide)
theorem n_h2 {n : Nat} (h : n < 4096) : nI n &&& 15 = nI (n % 16) := pk_andN (by omega) 4 (by decide)
theorem n_s1 : ∀ k, k < 16 → (((nI k).toUInt32 &&& Int32.toUInt32 31).toBitVec % 32).toNat = k := by decide
theorem n_s2 : ∀ k, k < 16 → ((nI k &&& 31).toBitVec.smod 32).toNat = k := by decide
theorem n_u {a k : Nat} (ha : a < 65536) (hk : k < 16) : ((nI a).toUInt32 >>> ((nI k).toUInt32 &&& Int32.toUInt32 31)).toInt32 = nI (a / 2 ^ k) := pk_ushrN (by omega) _ k (n_s1 k hk)
theorem n_v {a k : Nat} (ha : a < 65536) (hk : k < 16) : nI a >>> (nI k &&& 31) = nI (a / 2 ^ k) := pk_shrN (by omega) _ k (n_s2 k hk)
theorem n_w {p : Nat} (h : p < 65536) : nI p &&& 65535 = nI p := by
  rw [pk_andN (n := p) (by omega) (m := 65535) 16 (by decide), Nat.mod_eq_of_lt h]
theorem n_wd (x : Int32) : wd (x &&& 65535) := by
  obtain ⟨j, h1, h2⟩ := pk_andE x (m := 65535) 16 (by decide)
  exact ⟨j, h1, h2⟩
theorem n_eq {a : Nat} (c : Nat) (ha : a < 65536) (hc : c < 65536) : (nI a = nI c) ↔ a = c := nI_eq (by omega) (by omega)
