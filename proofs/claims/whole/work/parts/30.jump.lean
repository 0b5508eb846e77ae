-- modules as tables of ints (K kinds, A first, B second numbers, S sections, g long jumps: not 0), pure
/-- words of a statement -/
def mw (K A g : Nat → Int32) (k : Nat) : Nat := if K k = 3 ∨ K k = 4 then 1 else if K k = 5 then (A k).toNatClampNeg else if K k = 6 then (if g k = 0 then 1 else 2) else 0
/-- words of a section ahead of statement k -/
def mp (K A S g : Nat → Int32) (s : Int32) : Nat → Nat
  | 0 => 0
  | k + 1 => mp K A S g s k + (if S k = s then mw K A g k else 0)
/-- the statement among the first c that defines the name a -/
def md (K A : Nat → Int32) (a : Int32) : Nat → Option Nat
  | 0 => none
  | c + 1 => match md K A a c with
    | some k => some k
    | none => if (K c = 0 ∨ K c = 8) ∧ A c = a then some c else none
section MJ
variable {K A S g g' : Nat → Int32} {c : Nat}
theorem mw_le {k : Nat} (hg : g k ≠ 0 → g' k ≠ 0) : mw K A g k ≤ mw K A g' k := by
  unfold mw
  split
  · exact Nat.le_refl _
  · split
    · exact Nat.le_refl _
    · split
      · by_cases h : g k = 0
        · rw [if_pos h]
          split <;> omega
        · rw [if_neg h, if_neg (hg h)]
          exact Nat.le_refl _
      · exact Nat.le_refl _
theorem mw_eq {k : Nat} (hg : g k ≠ 0 ↔ g' k ≠ 0) : mw K A g k = mw K A g' k := Nat.le_antisymm (mw_le hg.1) (mw_le hg.2)
theorem mp_succ (s : Int32) (k : Nat) : mp K A S g s (k + 1) = mp K A S g s k + (if S k = s then mw K A g k else 0) := rfl
theorem mp_up {s : Int32} {a : Nat} : ∀ b, a ≤ b → mp K A S g s a ≤ mp K A S g s b
  | 0, h => by
    have : a = 0 := by omega
    subst this
    exact Nat.le_refl _
  | b + 1, h => by
    by_cases e : a = b + 1
    · subst e
      exact Nat.le_refl _
    · have ih := mp_up (s := s) (a := a) b (by omega)
      rw [mp_succ]
      omega
theorem mp_diff {s : Int32} (hg : ∀ j, j < c → g j ≠ 0 → g' j ≠ 0) {a : Nat} : ∀ b, a ≤ b → b ≤ c → mp K A S g s b + mp K A S g' s a ≤ mp K A S g' s b + mp K A S g s a
  | 0, h, _ => by
    have : a = 0 := by omega
    subst this
    exact Nat.le_refl _
  | b + 1, h, hb => by
    by_cases e : a = b + 1
    · subst e
      omega
    · have ih := mp_diff (s := s) hg (a := a) b (by omega) (by omega)
      have hw := mw_le (K := K) (A := A) (hg b (by omega))
      rw [mp_succ, mp_succ]
      split <;> omega
theorem mp_eq {s : Int32} : ∀ k, (∀ j, j < k → (g j ≠ 0 ↔ g' j ≠ 0)) → mp K A S g s k = mp K A S g' s k
  | 0, _ => rfl
  | k + 1, h => by
    rw [mp_succ, mp_succ, mp_eq k (fun j hj => h j (by omega)), mw_eq (h k (by omega))]
theorem md_some {a : Int32} : ∀ {c d : Nat}, md K A a c = some d → d < c ∧ (K d = 0 ∨ K d = 8) ∧ A d = a
  | 0, d, h => by cases h
  | c + 1, d, h => by
    unfold md at h
    cases hm : md K A a c with
    | some k =>
      rw [hm] at h
      have e : k = d := Option.some.inj h
      subst e
      obtain ⟨h1, h2⟩ := md_some hm
      exact ⟨by omega, h2⟩
    | none =>
      rw [hm] at h
      by_cases hc : (K c = 0 ∨ K c = 8) ∧ A c = a
      · simp only [if_pos hc] at h
        have e : c = d := Option.some.inj h
        subst e
        exact ⟨by omega, hc⟩
      · simp only [if_neg hc] at h
        cases h
theorem md_none {a : Int32} : ∀ {c : Nat}, md K A a c = none → ∀ j, j < c → ¬ ((K j = 0 ∨ K j = 8) ∧ A j = a)
  | 0, _, j, hj => by omega
  | c + 1, h, j, hj => by
    unfold md at h
    cases hm : md K A a c with
    | some k => rw [hm] at h; cases h
    | none =>
      rw [hm] at h
      by_cases hc : (K c = 0 ∨ K c = 8) ∧ A c = a
      · simp only [if_pos hc] at h
        cases h
      · by_cases e : j = c
        · subst e
          exact hc
        · exact md_none hm j (by omega)
/-- jump k of a module of c statements needs two words, where g are the long ones -/
def mfar (c : Nat) (K A S g : Nat → Int32) (k : Nat) : Prop := K k = 6 ∧ ∀ d, md K A (A k) c = some d → K d = 0 → S d = 0 → ((mp K A S g 0 d : Int) - mp K A S g 0 k - 1 < -8 ∨ 7 < (mp K A S g 0 d : Int) - mp K A S g 0 k - 1)
def mcl (c : Nat) (K A S g : Nat → Int32) : Prop := ∀ k, k < c → mfar c K A S g k → g k ≠ 0
def mlo (c : Nat) (K A S g : Nat → Int32) : Prop := ∀ g' : Nat → Int32, mcl c K A S g' → ∀ k, k < c → g k ≠ 0 → g' k ≠ 0
theorem mfar_mono {k : Nat} (hk : k < c) (hg : ∀ j, j < c → g j ≠ 0 → g' j ≠ 0) (h : mfar c K A S g k) : mfar c K A S g' k := by
  refine ⟨h.1, fun d hd h0 h1 => ?_⟩
  have hd' := (md_some hd).1
  have h2 := h.2 d hd h0 h1
  rcases Nat.le_total d k with e | e
  · have a1 := mp_diff (K := K) (A := A) (S := S) (s := 0) hg k e (by omega)
    have a2 := mp_up (K := K) (A := A) (S := S) (g := g) (s := 0) k e
    omega
  · have a1 := mp_diff (K := K) (A := A) (S := S) (s := 0) hg d e (by omega)
    have a2 := mp_up (K := K) (A := A) (S := S) (g := g) (s := 0) d e
    omega
theorem mlo_add (h : mlo c K A S g) (ha : ∀ k, k < c → g' k ≠ 0 → g k ≠ 0 ∨ mfar c K A S g k) : mlo c K A S g' := by
  intro g2 h2 k hk hg
  rcases ha k hk hg with h1 | h1
  · exact h g2 h2 k hk h1
  · exact h2 k hk (mfar_mono hk (h g2 h2) h1)
theorem mlo_0 (h : ∀ k, k < c → g k ≠ 0 → False) : mlo c K A S g := fun _ _ k hk hg => (h k hk hg).elim
theorem m_same (h1 : mcl c K A S g) (h2 : mlo c K A S g) (h3 : mcl c K A S g') (h4 : mlo c K A S g') : ∀ k, k < c → (g k ≠ 0 ↔ g' k ≠ 0) := fun k hk => ⟨h2 g' h3 k hk, h4 g h1 k hk⟩
end MJ
