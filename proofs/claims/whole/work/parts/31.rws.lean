-- rows of numbers, pure
/-- the first place among n where f has x -/
def rFind (f : Nat → Int32) (x : Int32) : Nat → Option Nat
  | 0 => none
  | n + 1 => match rFind f x n with
    | some k => some k
    | none => if f n = x then some n else none
def rIns (f : Nat → Int32) (p : Nat) (x : Int32) : Nat → Int32 := fun j => if j < p then f j else if j = p then x else f (j - 1)
def rRem (f : Nat → Int32) (p : Nat) : Nat → Int32 := fun j => if j < p then f j else f (j + 1)
theorem rFind_none {f : Nat → Int32} {x : Int32} : ∀ {n : Nat}, rFind f x n = none → ∀ j, j < n → f j ≠ x
  | 0, _, j, hj => by omega
  | n + 1, h, j, hj => by
    unfold rFind at h
    cases hm : rFind f x n with
    | some k => rw [hm] at h; cases h
    | none =>
      rw [hm] at h
      by_cases hc : f n = x
      · simp only [if_pos hc] at h
        cases h
      · by_cases e : j = n
        · subst e
          exact hc
        · exact rFind_none hm j (by omega)
theorem rFind_some {f : Nat → Int32} {x : Int32} : ∀ {n p : Nat}, rFind f x n = some p → p < n ∧ f p = x ∧ ∀ j, j < p → f j ≠ x
  | 0, p, h => by cases h
  | n + 1, p, h => by
    unfold rFind at h
    cases hm : rFind f x n with
    | some k =>
      rw [hm] at h
      have e : k = p := Option.some.inj h
      subst e
      obtain ⟨h1, h2⟩ := rFind_some hm
      exact ⟨by omega, h2⟩
    | none =>
      rw [hm] at h
      by_cases hc : f n = x
      · simp only [if_pos hc] at h
        have e : n = p := Option.some.inj h
        subst e
        exact ⟨by omega, hc, fun j hj e => by
          have := rFind_none hm j hj
          exact this e⟩
      · simp only [if_neg hc] at h
        cases h
/-- from the loop that looks for it: what was met, and how it ends -/
theorem rFind_is {f : Nat → Int32} {x : Int32} {n p : Nat} (hp : p < n) (hx : f p = x) (hb : ∀ j, j < p → f j ≠ x) : rFind f x n = some p := by
  induction n with
  | zero => omega
  | succ n ih =>
    unfold rFind
    by_cases e : p = n
    · subst e
      have hn : rFind f x p = none := by
        cases hm : rFind f x p with
        | none => rfl
        | some k =>
          obtain ⟨h1, h2, -⟩ := rFind_some hm
          exact (hb k h1 h2).elim
      rw [hn]
      simp only [if_pos hx]
    · rw [ih (by omega)]
theorem rFind_no {f : Nat → Int32} {x : Int32} {n : Nat} (hb : ∀ j, j < n → f j ≠ x) : rFind f x n = none := by
  cases hm : rFind f x n with
  | none => rfl
  | some k =>
    obtain ⟨h1, h2, -⟩ := rFind_some hm
    exact (hb k h1 h2).elim
theorem rFind_cg {f g : Nat → Int32} {x : Int32} : ∀ {n : Nat}, (∀ j, j < n → f j = g j) → rFind f x n = rFind g x n
  | 0, _ => rfl
  | n + 1, h => by
    unfold rFind
    rw [rFind_cg (n := n) (fun j hj => h j (by omega)), h n (by omega)]
/-- no more different numbers below k than k -/
theorem r_pigeon : ∀ (k n : Nat) (f : Nat → Nat), (∀ j, j < n → f j < k) → (∀ i j, i < n → j < n → f i = f j → i = j) → n ≤ k
  | 0, n, f, h, _ => by
    cases n with
    | zero => exact Nat.le_refl _
    | succ n => exact absurd (h 0 (by omega)) (by omega)
  | k + 1, n, f, h, hi => by
    by_cases hx : ∃ i, i < n ∧ f i = k
    · obtain ⟨i, hin, hik⟩ := hx
      cases n with
      | zero => omega
      | succ n =>
        have := r_pigeon k n (fun j => if j < i then f j else f (j + 1)) (fun j hj => by
            by_cases hji : j < i
            · simp only [if_pos hji]
              have h1 := h j (by omega)
              have h2 : f j ≠ k := fun e => by
                have := hi j i (by omega) hin (e.trans hik.symm)
                omega
              omega
            · simp only [if_neg hji]
              have h1 := h (j + 1) (by omega)
              have h2 : f (j + 1) ≠ k := fun e => by
                have := hi (j + 1) i (by omega) hin (e.trans hik.symm)
                omega
              omega) (fun a b ha hb e => by
            by_cases h1 : a < i <;> by_cases h2 : b < i
            · simp only [if_pos h1, if_pos h2] at e
              exact hi a b (by omega) (by omega) e
            · simp only [if_pos h1, if_neg h2] at e
              have := hi a (b + 1) (by omega) (by omega) e
              omega
            · simp only [if_neg h1, if_pos h2] at e
              have := hi (a + 1) b (by omega) (by omega) e
              omega
            · simp only [if_neg h1, if_neg h2] at e
              have := hi (a + 1) (b + 1) (by omega) (by omega) e
              omega)
        omega
    · have := r_pigeon k n f (fun j hj => by
        have h1 := h j hj
        have h2 : f j ≠ k := fun e => hx ⟨j, hj, e⟩
        omega) hi
      omega
