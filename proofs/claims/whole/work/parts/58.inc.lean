-- the class's sets of names while modules are included
def LM (A : fm_I) (o : Nat → Nat) (c : Nat) (want : Int32) : Prop := (∀ a, a < 32 → (bt (A 56 2) a = true ↔ (want = nI a ∨ ∃ k, k < c ∧ rfB A (o k) a))) ∧ (∀ a, a < 32 → (bt (A 56 3) a = true ↔ ∃ k, k < c ∧ exB A (o k) a)) ∧ (∀ a, a < 32 → (bt (A 56 4) a = true ↔ ∃ k, k < c ∧ cmB A (o k) a)) ∧ (∀ a, a < 32 → (bt (A 56 5) a = true ↔ ∃ i j, i < j ∧ j < c ∧ exB A (o i) a ∧ exB A (o j) a))
def FRA (A A' : fm_I) : Prop := ∀ q, q ≠ 56 → q ≠ 57 → q ≠ 58 → A' q = A q
def FRB (B B' : fm_I) : Prop := (∀ q, q ≠ 78 → q ≠ 87 → B' q = B q) ∧ (∀ j, j ≠ 11 → B' 78 j = B 78 j)
theorem FRA.tr {A A' A'' : fm_I} (h : FRA A A') (h' : FRA A' A'') : FRA A A'' := fun q q1 q2 q3 => (h' q q1 q2 q3).trans (h q q1 q2 q3)
theorem FRB.tr {A A' A'' : fm_I} (h : FRB A A') (h' : FRB A' A'') : FRB A A'' := ⟨fun q q1 q2 => (h'.1 q q1 q2).trans (h.1 q q1 q2), fun j hj => (h'.2 j hj).trans (h.2 j hj)⟩
theorem FRA.mod {A A' : fm_I} (h : FRA A A') {m : Nat} (hm : m < 6) : A' (2 + 9 * m) = A (2 + 9 * m) := h _ (by omega) (by omega) (by omega)
theorem MRl.fr {A A' B B' : fm_I} (h : ∀ m, m < 6 → MRl A B m) (ha : FRA A A') (hb : FRB B B') : ∀ m, m < 6 → MRl A' B' m := fun m hm => by
  obtain ⟨c, hc⟩ := h m hm
  refine ⟨c, hc.cg (fun q q1 q2 => ha q (by omega) (by omega) (by omega)) (by rw [hb.1 79 (by decide) (by decide)]) (fun k _ => ?_)⟩
  rw [hb.1 80 (by decide) (by decide), hb.1 81 (by decide) (by decide), hb.1 82 (by decide) (by decide), hb.1 83 (by decide) (by decide), hb.1 84 (by decide) (by decide)]
  exact ⟨rfl, rfl, rfl, rfl, rfl⟩
theorem b_not (x : Int32) {a : Nat} (ha : a < 32) : bt (x ^^^ (-1)) a = true ↔ ¬ bt x a = true := by
  rw [b_xor, b_m1 a ha]
  cases bt x a <;> decide
section IC
variable {A B : fm_I} {o : Nat → Nat} {c : Nat} {want : Int32}
theorem c_wm (h : LM A o c want) {a : Nat} (ha : a < 32) : bt ((A 56 2 &&& (A 56 3 ^^^ (-1))) &&& (A 56 4 ^^^ (-1))) a = true ↔ wnt A o c want a := by
  rw [b_and, b_and, Bool.and_eq_true, Bool.and_eq_true, b_not _ ha, b_not _ ha, h.1 a ha, h.2.1 a ha, h.2.2.1 a ha]
  unfold wnt
  constructor
  · rintro ⟨⟨q1, q2⟩, q3⟩
    exact ⟨q1, fun k hk z => q2 ⟨k, hk, z⟩, fun k hk z => q3 ⟨k, hk, z⟩⟩
  · rintro ⟨q1, q2, q3⟩
    exact ⟨⟨q1, fun ⟨k, hk, z⟩ => q2 k hk z⟩, fun ⟨k, hk, z⟩ => q3 k hk z⟩
theorem ex16 {m c' a : Nat} (h : CM0 A (2 + 9 * m) c') (ha : a < 32) (hb : bt (A (2 + 9 * m) 9) a = true) : a < 16 := by
  obtain ⟨k, k1, k2, k3⟩ := (h.2.2.2.1 a ha).mp hb
  obtain ⟨n, n1, n2⟩ := (h.2.2.1 k k1).2.1 (by rcases k2 with q | q <;> rw [q] <;> decide)
  have := (nI_eq (by omega) (by omega)).mp (k3.symm.trans n2)
  omega
theorem c_exN {b : Nat} {I : fm_I} (hb : isMod b) : fn_Mod_exportedNames b I = ri (I b 9 &&& I b 11) I := by
  unfold fn_Mod_exportedNames
  rw [mg9 hb, mg11 hb]
theorem c_cmN {b : Nat} {I : fm_I} (hb : isMod b) : fn_Mod_commons b I = ri (I b 10) I := by
  unfold fn_Mod_commons
  rw [mg10 hb]
theorem c_rfN {b : Nat} {I : fm_I} (hb : isMod b) : fn_Mod_referredNames b I = ri (((I b 11 ||| I b 12) &&& (I b 9 ^^^ (-1))) &&& (I b 10 ^^^ (-1))) I := by
  unfold fn_Mod_referredNames
  rw [mg11 hb, mg12 hb, mg9 hb, mg10 hb]
theorem c_wantedN {I : fm_I} : fn_Inc_wantedNames 56 I = ri ((I 56 2 &&& (I 56 3 ^^^ (-1))) &&& (I 56 4 ^^^ (-1))) I := by
  unfold fn_Inc_wantedNames
  rw [g56_2, g56_3, g56_4]
theorem bt_ne0 {x : Int32} : x = 0 ↔ ∀ a, a < 32 → ¬ bt x a = true := by
  constructor
  · intro e a ha q
    rw [e, b_0] at q
    cases q
  · intro h
    apply b_ext
    intro i hi
    rw [b_0]
    cases hb : bt x i with
    | false => rfl
    | true => exact absurd hb (h i hi)
theorem c_expw (hM : ∀ m, m < 6 → MRl A B m) (hm : LM A o c want) {m : Nat} (h6 : m < 6) : ∃ z, fn_Inc_exportsWantedName 56 (nI m) A = ri z A ∧ ((z = 1 ∧ ∃ a, a < 16 ∧ exB A m a ∧ wnt A o c want a) ∨ (z = 0 ∧ ∀ a, a < 16 → ¬ (exB A m a ∧ wnt A o c want a))) := by
  obtain ⟨hb, ha⟩ := isMod_m m h6
  obtain ⟨c', hc'⟩ := hM m h6
  unfold fn_Inc_exportsWantedName
  rw [r56_0, la_t ha rfl, vi_t hb.1 (c_exN hb), vi_t rfl c_wantedN]
  have key : ∀ a, a < 32 → (bt ((A (2 + 9 * m) 9 &&& A (2 + 9 * m) 11) &&& ((A 56 2 &&& (A 56 3 ^^^ (-1))) &&& (A 56 4 ^^^ (-1)))) a = true ↔ exB A m a ∧ wnt A o c want a) := fun a ha => by
    rw [b_and, Bool.and_eq_true, c_wm hm ha, b_and, Bool.and_eq_true]
  by_cases e : (A (2 + 9 * m) 9 &&& A (2 + 9 * m) 11) &&& ((A 56 2 &&& (A 56 3 ^^^ (-1))) &&& (A 56 4 ^^^ (-1))) = 0
  · rw [if_pos e, rz_0]
    exact ⟨0, rfl, Or.inr ⟨rfl, fun a ha q => bt_ne0.mp e a (by omega) ((key a (by omega)).mpr q)⟩⟩
  · rw [if_neg e, rz_1]
    refine ⟨1, rfl, Or.inl ⟨rfl, Classical.byContradiction fun q => e (bt_ne0.mpr (fun a ha z => ?_))⟩⟩
    have h1 := (key a ha).mp z
    exact q ⟨a, ex16 hc'.1 ha h1.1.1, h1⟩
def uN (o : Nat → Nat) (c m : Nat) : Nat → Nat := fun j => if j = c then m else o j
theorem uN_s (o : Nat → Nat) (c m : Nat) : uN o c m c = m := if_pos rfl
theorem uN_n {o : Nat → Nat} {c m j : Nat} (h : j ≠ c) : uN o c m j = o j := if_neg h
theorem ex_add {Q : Nat → Prop} {m : Nat} : (∃ k, k < c + 1 ∧ Q (uN o c m k)) ↔ (∃ k, k < c ∧ Q (o k)) ∨ Q m := by
  constructor
  · rintro ⟨k, k1, k2⟩
    by_cases e : k = c
    · subst e; rw [uN_s] at k2; exact Or.inr k2
    · rw [uN_n e] at k2; exact Or.inl ⟨k, by omega, k2⟩
  · rintro (⟨k, k1, k2⟩ | q)
    · exact ⟨k, by omega, by rw [uN_n (by omega)]; exact k2⟩
    · exact ⟨c, by omega, by rw [uN_s]; exact q⟩
theorem LO.lt {m : Nat} (h : LO A B o c) (hm : m < 6) (hn : ∀ j, j < c → o j ≠ m) : c < 6 := by
  obtain ⟨-, -, l3, l4, l5⟩ := h
  have := r_pigeon 6 (c + 1) (uN o c m) (fun j hj => by
    by_cases e : j = c
    · subst e; rw [uN_s]; exact hm
    · rw [uN_n e]; exact (l4 j (by omega)).1) (fun i j hi hj e => by
    by_cases e1 : i = c <;> by_cases e2 : j = c
    · omega
    · subst e1; rw [uN_s, uN_n e2] at e; exact absurd e.symm (hn j (by omega))
    · subst e2; rw [uN_s, uN_n e1] at e; exact absurd e (hn i (by omega))
    · rw [uN_n e1, uN_n e2] at e; exact l5 i j (by omega) (by omega) e)
  omega
theorem b_include (hM : ∀ m, m < 6 → MRl A B m) (hL : LO A B o c) (hm : LM A o c want) {m : Nat} (h6 : m < 6) (hn : ∀ j, j < c → o j ≠ m) : ∃ A' B', fn_Inc_include 56 (nI m) A = rv A' ∧ fn_Ref_include 78 (nI m) B = rv B' ∧ LO A' B' (uN o c m) (c + 1) ∧ LM A' (uN o c m) (c + 1) want ∧ FRA A A' ∧ FRB B B' := by
  have hc6 := hL.lt h6 hn
  obtain ⟨l1, l2, l3, l4, l5⟩ := id hL
  obtain ⟨hb, ha⟩ := isMod_m m h6
  obtain ⟨R, r1, r2, r3, r4⟩ := row_append (x := nI m) isRow_57 l1 hc6
  have hRm : ∀ n, n < 6 → R (2 + 9 * n) = A (2 + 9 * n) := fun n hn => r4 _ (by omega) (by omega)
  have hR56 : R 56 = A 56 := r4 56 (by decide) (by decide)
  -- the class's table
  have hcl : fn_Inc_include 56 (nI m) A = rv (fm_up (fm_up (fm_up (fm_up R 56 5 (A 56 5 ||| (A 56 3 &&& (A (2 + 9 * m) 9 &&& A (2 + 9 * m) 11)))) 56 3 (A 56 3 ||| (A (2 + 9 * m) 9 &&& A (2 + 9 * m) 11))) 56 4 (A 56 4 ||| A (2 + 9 * m) 10)) 56 2 (A 56 2 ||| (((A (2 + 9 * m) 11 ||| A (2 + 9 * m) 12) &&& (A (2 + 9 * m) 9 ^^^ (-1))) &&& (A (2 + 9 * m) 10 ^^^ (-1))))) := by
    unfold fn_Inc_include
    rw [r56_0, la_t ha rfl, r56_1, vi_t rfl r1, g56_5, g56_3, vi_t hb.1 (c_exN hb), p56_5, g56_3, vi_t hb.1 (c_exN hb), p56_3, g56_4, vi_t hb.1 (c_cmN hb), p56_4, g56_2, vi_t hb.1 (c_rfN hb), p56_2]
    have hne : 2 + 9 * m ≠ 56 := by omega
    simp only [fm_up_p _ _ _ hne, hRm m h6, hR56, fm_up_k _ _ (show (3 : Nat) ≠ 5 by decide), fm_up_k _ _ (show (4 : Nat) ≠ 3 by decide), fm_up_k _ _ (show (4 : Nat) ≠ 5 by decide), fm_up_k _ _ (show (2 : Nat) ≠ 4 by decide), fm_up_k _ _ (show (2 : Nat) ≠ 3 by decide), fm_up_k _ _ (show (2 : Nat) ≠ 5 by decide)]
  generalize hJ : fm_up (fm_up (fm_up (fm_up R 56 5 (A 56 5 ||| (A 56 3 &&& (A (2 + 9 * m) 9 &&& A (2 + 9 * m) 11)))) 56 3 (A 56 3 ||| (A (2 + 9 * m) 9 &&& A (2 + 9 * m) 11))) 56 4 (A 56 4 ||| A (2 + 9 * m) 10)) 56 2 (A 56 2 ||| (((A (2 + 9 * m) 11 ||| A (2 + 9 * m) 12) &&& (A (2 + 9 * m) 9 ^^^ (-1))) &&& (A (2 + 9 * m) 10 ^^^ (-1)))) = J at hcl
  have j2 : J 56 2 = A 56 2 ||| (((A (2 + 9 * m) 11 ||| A (2 + 9 * m) 12) &&& (A (2 + 9 * m) 9 ^^^ (-1))) &&& (A (2 + 9 * m) 10 ^^^ (-1))) := by rw [← hJ, fm_up_s]
  have j4 : J 56 4 = A 56 4 ||| A (2 + 9 * m) 10 := by rw [← hJ, fm_up_k _ _ (by decide), fm_up_s]
  have j3 : J 56 3 = A 56 3 ||| (A (2 + 9 * m) 9 &&& A (2 + 9 * m) 11) := by rw [← hJ, fm_up_k _ _ (by decide), fm_up_k _ _ (by decide), fm_up_s]
  have j5 : J 56 5 = A 56 5 ||| (A 56 3 &&& (A (2 + 9 * m) 9 &&& A (2 + 9 * m) 11)) := by rw [← hJ, fm_up_k _ _ (by decide), fm_up_k _ _ (by decide), fm_up_k _ _ (by decide), fm_up_s]
  have jq : ∀ q, q ≠ 56 → J q = R q := fun q hq => by rw [← hJ, fm_up_q _ hq, fm_up_q _ hq, fm_up_q _ hq, fm_up_q _ hq]
  have hFA : FRA A J := fun q q1 q2 q3 => (jq q q1).trans (r4 q q2 q3)
  have hex : ∀ n a, n < 6 → (exB J n a ↔ exB A n a) := fun n a hn => by show (bt (J (2 + 9 * n) 9) a = true ∧ bt (J (2 + 9 * n) 11) a = true) ↔ _; rw [hFA.mod hn]
  have hcm : ∀ n a, n < 6 → (cmB J n a ↔ cmB A n a) := fun n a hn => by show bt (J (2 + 9 * n) 10) a = true ↔ _; rw [hFA.mod hn]
  have hrf : ∀ n a, n < 6 → (rfB J n a ↔ rfB A n a) := fun n a hn => by
    show ((bt (J (2 + 9 * n) 11) a = true ∨ bt (J (2 + 9 * n) 12) a = true) ∧ ¬ bt (J (2 + 9 * n) 9) a = true ∧ ¬ bt (J (2 + 9 * n) 10) a = true) ↔ _
    rw [hFA.mod hn]
  have hu6 : ∀ k, k < c + 1 → uN o c m k < 6 := fun k hk => by
    by_cases e : k = c
    · subst e; rw [uN_s]; exact h6
    · rw [uN_n e]; exact (l4 k (by omega)).1
  -- the reference's table
  have hrf2 : fn_Ref_include 78 (nI m) B = rv (fm_up (fm_up B 87 c (nI m)) 78 11 (nI (c + 1))) := by
    unfold fn_Ref_include
    rw [r78_12, g78_11, l2, sI_t (N := 6) rfl rfl hc6, g78_11, fm_up_p _ _ _ (by decide), l2, p78_11, nI_1]
  refine ⟨J, _, hcl, hrf2, ⟨?_, fm_up_s _ _ _ _, by omega, fun k hk => ⟨hu6 k hk, ?_, ?_⟩, fun i j hi hj e => ?_⟩, ⟨fun a ha => ?_, fun a ha => ?_, fun a ha => ?_, fun a ha => ?_⟩, hFA, ⟨fun q q1 q2 => ?_, fun j hj => ?_⟩⟩
  · rw [jq 57 (by decide)]; exact r2
  · rw [jq 58 (by decide), r3 k]
    by_cases e : k = c
    · subst e; rw [if_pos rfl, uN_s]
    · rw [if_neg e, uN_n e]; exact (l4 k (by omega)).2.1
  · rw [fm_up_p _ _ _ (by decide)]
    by_cases e : k = c
    · subst e; rw [fm_up_s, uN_s]
    · rw [fm_up_k _ _ e, uN_n e]; exact (l4 k (by omega)).2.2
  · by_cases e1 : i = c <;> by_cases e2 : j = c
    · omega
    · subst e1; rw [uN_s, uN_n e2] at e; exact absurd e.symm (hn j (by omega))
    · subst e2; rw [uN_s, uN_n e1] at e; exact absurd e (hn i (by omega))
    · rw [uN_n e1, uN_n e2] at e; exact l5 i j (by omega) (by omega) e
  · rw [j2, b_or, Bool.or_eq_true, hm.1 a ha, b_and, b_and, b_or, Bool.and_eq_true, Bool.and_eq_true, Bool.or_eq_true, b_not _ ha, b_not _ ha]
    have h1 : (∃ k, k < c + 1 ∧ rfB J (uN o c m k) a) ↔ (∃ k, k < c ∧ rfB A (o k) a) ∨ rfB A m a := by
      rw [← ex_add (Q := fun n => rfB A n a)]
      exact ⟨fun ⟨k, k1, k2⟩ => ⟨k, k1, (hrf _ a (hu6 k k1)).mp k2⟩, fun ⟨k, k1, k2⟩ => ⟨k, k1, (hrf _ a (hu6 k k1)).mpr k2⟩⟩
    rw [h1]
    constructor
    · rintro ((q | q) | q)
      · exact Or.inl q
      · exact Or.inr (Or.inl q)
      · exact Or.inr (Or.inr ⟨q.1.1, q.1.2, q.2⟩)
    · rintro (q | q | q)
      · exact Or.inl (Or.inl q)
      · exact Or.inl (Or.inr q)
      · exact Or.inr ⟨⟨q.1, q.2.1⟩, q.2.2⟩
  · rw [j3, b_or, Bool.or_eq_true, hm.2.1 a ha, b_and, Bool.and_eq_true]
    have h1 : (∃ k, k < c + 1 ∧ exB J (uN o c m k) a) ↔ (∃ k, k < c ∧ exB A (o k) a) ∨ exB A m a := by
      rw [← ex_add (Q := fun n => exB A n a)]
      exact ⟨fun ⟨k, k1, k2⟩ => ⟨k, k1, (hex _ a (hu6 k k1)).mp k2⟩, fun ⟨k, k1, k2⟩ => ⟨k, k1, (hex _ a (hu6 k k1)).mpr k2⟩⟩
    rw [h1]
  · rw [j4, b_or, Bool.or_eq_true, hm.2.2.1 a ha]
    have h1 : (∃ k, k < c + 1 ∧ cmB J (uN o c m k) a) ↔ (∃ k, k < c ∧ cmB A (o k) a) ∨ cmB A m a := by
      rw [← ex_add (Q := fun n => cmB A n a)]
      exact ⟨fun ⟨k, k1, k2⟩ => ⟨k, k1, (hcm _ a (hu6 k k1)).mp k2⟩, fun ⟨k, k1, k2⟩ => ⟨k, k1, (hcm _ a (hu6 k k1)).mpr k2⟩⟩
    rw [h1]
  · rw [j5, b_or, Bool.or_eq_true, hm.2.2.2 a ha, b_and, Bool.and_eq_true, hm.2.1 a ha, b_and, Bool.and_eq_true]
    constructor
    · rintro (⟨i, j, i1, i2, i3, i4⟩ | ⟨⟨i, i1, i2⟩, q⟩)
      · exact ⟨i, j, i1, by omega, (hex _ a (hu6 i (by omega))).mpr (by rw [uN_n (by omega)]; exact i3), (hex _ a (hu6 j (by omega))).mpr (by rw [uN_n (by omega)]; exact i4)⟩
      · exact ⟨i, c, i1, by omega, (hex _ a (hu6 i (by omega))).mpr (by rw [uN_n (by omega)]; exact i2), (hex _ a (hu6 c (by omega))).mpr (by rw [uN_s]; exact q)⟩
    · rintro ⟨i, j, i1, i2, i3, i4⟩
      have k3 := (hex _ a (hu6 i (by omega))).mp i3
      have k4 := (hex _ a (hu6 j (by omega))).mp i4
      rw [uN_n (show i ≠ c by omega)] at k3
      by_cases e : j = c
      · rw [e, uN_s] at k4
        exact Or.inr ⟨⟨i, by omega, k3⟩, k4⟩
      · rw [uN_n e] at k4
        exact Or.inl ⟨i, j, i1, by omega, k3, k4⟩
  · rw [fm_up_q _ q1, fm_up_q _ q2]
  · rw [fm_up_k _ _ hj, fm_up_p _ _ _ (by decide)]
end IC
