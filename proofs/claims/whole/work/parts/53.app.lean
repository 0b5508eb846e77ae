theorem c_holds {k : Int32} {I : fm_I} : (hold7 k → fn_Mod_holdsName k I = ri 1 I) ∧ (¬ hold7 k → fn_Mod_holdsName k I = ri 0 I) := by
  unfold fn_Mod_holdsName hold7
  constructor
  · rintro (q | q | q)
    · rw [if_pos q, rz_1]
    · rw [if_neg (by rw [q]; decide), if_pos q, rz_1]
    · rw [if_neg (by rw [q]; decide), if_neg (by rw [q]; decide), if_pos q, rz_1]
  · intro q
    rw [if_neg (fun z => q (Or.inl z)), if_neg (fun z => q (Or.inr (Or.inl z))), if_neg (fun z => q (Or.inr (Or.inr z))), rz_0]
theorem c_note17 {b : Nat} {k a : Int32} {I : fm_I} (hb : isMod b) : ∃ J, fn_Mod_noteName_17 b k a I = rv J ∧ J b 9 = gs (I b 9) (k = 0 ∨ k = 8) a ∧ J b 10 = gs (I b 10) (k = 7) a ∧ J b 11 = gs (I b 11) (k = 1) a ∧ J b 12 = gs (I b 12) (k = 4 ∨ k = 6) a ∧ J b 8 = I b 8 ∧ (∀ q, q ≠ b → J q = I q) := by
  unfold fn_Mod_noteName_17 gs
  have hs : fn_SL_setOf a I = ri ((1 : Int32) <<< (a &&& 31)) I := rfl
  by_cases e0 : k = 0
  · rw [if_pos e0, mg9 hb, bi_t hs, mp9 hb]
    refine ⟨_, rfl, ?_, ?_, ?_, ?_, fm_up_k _ _ (by decide), fun q hq => fm_up_q _ hq⟩
    · rw [fm_up_s, if_pos (Or.inl e0)]
    · rw [fm_up_k _ _ (by decide), if_neg (by rw [e0]; decide)]
    · rw [fm_up_k _ _ (by decide), if_neg (by rw [e0]; decide)]
    · rw [fm_up_k _ _ (by decide), if_neg (by rw [e0]; decide)]
  rw [if_neg e0]
  by_cases e8 : k = 8
  · rw [if_pos e8, mg9 hb, bi_t hs, mp9 hb]
    refine ⟨_, rfl, ?_, ?_, ?_, ?_, fm_up_k _ _ (by decide), fun q hq => fm_up_q _ hq⟩
    · rw [fm_up_s, if_pos (Or.inr e8)]
    · rw [fm_up_k _ _ (by decide), if_neg (by rw [e8]; decide)]
    · rw [fm_up_k _ _ (by decide), if_neg (by rw [e8]; decide)]
    · rw [fm_up_k _ _ (by decide), if_neg (by rw [e8]; decide)]
  rw [if_neg e8]
  have n9 : ¬ (k = 0 ∨ k = 8) := fun q => q.elim e0 e8
  by_cases e7 : k = 7
  · rw [if_pos e7, mg10 hb, bi_t hs, mp10 hb]
    refine ⟨_, rfl, ?_, ?_, ?_, ?_, fm_up_k _ _ (by decide), fun q hq => fm_up_q _ hq⟩
    · rw [fm_up_k _ _ (by decide), if_neg n9]
    · rw [fm_up_s, if_pos e7]
    · rw [fm_up_k _ _ (by decide), if_neg (by rw [e7]; decide)]
    · rw [fm_up_k _ _ (by decide), if_neg (by rw [e7]; decide)]
  rw [if_neg e7]
  by_cases e1 : k = 1
  · rw [if_pos e1, mg11 hb, bi_t hs, mp11 hb]
    refine ⟨_, rfl, ?_, ?_, ?_, ?_, fm_up_k _ _ (by decide), fun q hq => fm_up_q _ hq⟩
    · rw [fm_up_k _ _ (by decide), if_neg n9]
    · rw [fm_up_k _ _ (by decide), if_neg e7]
    · rw [fm_up_s, if_pos e1]
    · rw [fm_up_k _ _ (by decide), if_neg (by rw [e1]; decide)]
  rw [if_neg e1]
  by_cases e4 : k = 4
  · rw [if_pos e4, mg12 hb, bi_t hs, mp12 hb]
    refine ⟨_, rfl, ?_, ?_, ?_, ?_, fm_up_k _ _ (by decide), fun q hq => fm_up_q _ hq⟩
    · rw [fm_up_k _ _ (by decide), if_neg n9]
    · rw [fm_up_k _ _ (by decide), if_neg e7]
    · rw [fm_up_k _ _ (by decide), if_neg e1]
    · rw [fm_up_s, if_pos (Or.inl e4)]
  rw [if_neg e4]
  by_cases e6 : k = 6
  · rw [if_pos e6, mg12 hb, bi_t hs, mp12 hb]
    refine ⟨_, rfl, ?_, ?_, ?_, ?_, fm_up_k _ _ (by decide), fun q hq => fm_up_q _ hq⟩
    · rw [fm_up_k _ _ (by decide), if_neg n9]
    · rw [fm_up_k _ _ (by decide), if_neg e7]
    · rw [fm_up_k _ _ (by decide), if_neg e1]
    · rw [fm_up_s, if_pos (Or.inr e6)]
  rw [if_neg e6, if_neg n9, if_neg e7, if_neg e1, if_neg (show ¬ (k = 4 ∨ k = 6) from fun q => q.elim e4 e6)]
  exact ⟨I, rfl, rfl, rfl, rfl, rfl, rfl, fun _ _ => rfl⟩
theorem c_note {b : Nat} {k a : Int32} {I : fm_I} (hb : isMod b) (ha : hold7 k → ∃ n : Nat, n < 16 ∧ a = nI n) : ∃ J, fn_Mod_noteName b k a I = rv J ∧ J b 9 = gs (I b 9) (k = 0 ∨ k = 8) a ∧ J b 10 = gs (I b 10) (k = 7) a ∧ J b 11 = gs (I b 11) (k = 1) a ∧ J b 12 = gs (I b 12) (k = 4 ∨ k = 6) a ∧ J b 8 = I b 8 ∧ (∀ q, q ≠ b → q ≠ b + 8 → J q = I q) ∧ (hold7 k → ∀ n, n < 16 → a = nI n → J (b + 8) n = I b 8) ∧ (∀ n, n < 16 → (hold7 k → a ≠ nI n) → J (b + 8) n = I (b + 8) n) := by
  unfold fn_Mod_noteName
  by_cases hh : hold7 k
  · obtain ⟨m, hm, rfl⟩ := ha hh
    rw [bi_t (c_holds.1 hh), if_neg (by decide), mr7 hb, mg8 hb, sI_t (mn8 hb) rfl hm]
    obtain ⟨J, e1, e2, e3, e4, e5, e6, e7⟩ := c_note17 (k := k) (a := nI m) (I := fm_up I (b + 8) m (I b 8)) hb
    have hq : ∀ j, fm_up I (b + 8) m (I b 8) b j = I b j := fun j => fm_up_p _ _ _ (by omega)
    rw [hq] at e2 e3 e4 e5 e6
    refine ⟨J, e1, e2, e3, e4, e5, e6, fun q q1 q2 => (e7 q q1).trans (fm_up_q _ q2), fun _ n hn en => ?_, fun n hn q => ?_⟩
    · have := (nI_eq (by omega) (by omega)).mp en
      subst this
      rw [e7 (b + 8) (by omega), fm_up_s]
    · rw [e7 (b + 8) (by omega), fm_up_k _ _ (fun z => q hh (by rw [z]))]
  · rw [bi_t (c_holds.2 hh), if_pos (by decide)]
    obtain ⟨J, e1, e2, e3, e4, e5, e6, e7⟩ := c_note17 (k := k) (a := a) (I := I) hb
    exact ⟨J, e1, e2, e3, e4, e5, e6, fun q q1 _ => e7 q q1, fun q => absurd q hh, fun n _ _ => by rw [e7 (b + 8) (by omega)]⟩
theorem upd_fm {I : fm_I} {p c : Nat} {x : Int32} : fm_up I p c x p = upd (I p) c x := funext fun j => by
  by_cases e : j = c
  · subst e; rw [fm_up_s, pk_us]
  · rw [fm_up_k _ _ e, pk_un e]
theorem c_append13 {b c : Nat} {k a y s : Int32} {A : fm_I} (hb : isMod b) (h : CM0 A b c) (hc : c < 20) (hok : okS k a y s) (htw : hold7 k → ∀ j, j < c → hold7 (A (b + 1) j) → A (b + 2) j ≠ a) : ∃ J, fn_Mod_append_13 b k a y s A = rv J ∧ CM0 J b (c + 1) ∧ GD J b (c + 1) ∧ mcl (c + 1) (J (b + 1)) (J (b + 2)) (J (b + 4)) (J (b + 6)) ∧ J (b + 1) = upd (A (b + 1)) c k ∧ J (b + 2) = upd (A (b + 2)) c a ∧ J (b + 3) = upd (A (b + 3)) c y ∧ J (b + 4) = upd (A (b + 4)) c s ∧ (∀ q, q < b ∨ b + 8 < q → J q = A q) := by
  have h8 := h.1
  have hna : hold7 k → ∃ n : Nat, n < 16 ∧ a = nI n := fun q => hok.2.1 (by rcases q with q | q | q <;> rw [q] <;> decide)
  unfold fn_Mod_append_13
  rw [mr0 hb, mg8 hb, h8, sI_t (mn1 hb) rfl hc, mr1 hb, mg8 hb, fm_up_p _ _ _ (show b ≠ b + 1 by omega), h8, sI_t (mn2 hb) rfl hc, mr2 hb, mg8 hb, fm_up_p _ _ _ (show b ≠ b + 2 by omega), fm_up_p _ _ _ (show b ≠ b + 1 by omega), h8, sI_t (mn3 hb) rfl hc, mr3 hb, mg8 hb, fm_up_p _ _ _ (show b ≠ b + 3 by omega), fm_up_p _ _ _ (show b ≠ b + 2 by omega), fm_up_p _ _ _ (show b ≠ b + 1 by omega), h8, sI_t (mn4 hb) rfl hc]
  generalize hI : fm_up (fm_up (fm_up (fm_up A (b + 1) c k) (b + 2) c a) (b + 3) c y) (b + 4) c s = I
  have i0 : ∀ j, I b j = A b j := fun j => by rw [← hI, fm_up_p _ _ _ (by omega), fm_up_p _ _ _ (by omega), fm_up_p _ _ _ (by omega), fm_up_p _ _ _ (by omega)]
  have i1 : I (b + 1) = upd (A (b + 1)) c k := by rw [← hI, fm_up_q _ (by omega), fm_up_q _ (by omega), fm_up_q _ (by omega), upd_fm]
  have i2 : I (b + 2) = upd (A (b + 2)) c a := by rw [← hI, fm_up_q _ (by omega), fm_up_q _ (by omega), upd_fm, fm_up_q _ (by omega)]
  have i3 : I (b + 3) = upd (A (b + 3)) c y := by rw [← hI, fm_up_q _ (by omega), upd_fm, fm_up_q _ (by omega), fm_up_q _ (by omega)]
  have i4 : I (b + 4) = upd (A (b + 4)) c s := by rw [← hI, upd_fm, fm_up_q _ (by omega), fm_up_q _ (by omega), fm_up_q _ (by omega)]
  have iq : ∀ q, q ≠ b + 1 → q ≠ b + 2 → q ≠ b + 3 → q ≠ b + 4 → I q = A q := fun q q1 q2 q3 q4 => by rw [← hI, fm_up_q _ q4, fm_up_q _ q3, fm_up_q _ q2, fm_up_q _ q1]
  obtain ⟨N, n1, n2, n3, n4, n5, n6, n7, n8, n9⟩ := c_note (k := k) (a := a) (I := I) hb hna
  rw [i0] at n2 n3 n4 n5 n6 n8
  rw [vv_t hb.1 n1, mg8 hb, n6, h8, mp8 hb, nI_1]
  have hA1 : CM0 (fm_up N b 8 (nI (c + 1))) b (c + 1) := by
    refine h.add hc hok (fm_up_s _ _ _ _) ?_ ?_ ?_ ?_ ?_ ?_ ?_ ?_ (fun q n hn en => ?_) (fun n hn q => ?_) htw
    · rw [fm_up_k _ _ (by decide)]; exact n2
    · rw [fm_up_k _ _ (by decide)]; exact n3
    · rw [fm_up_k _ _ (by decide)]; exact n4
    · rw [fm_up_k _ _ (by decide)]; exact n5
    · rw [fm_up_q _ (by omega), n7 _ (by omega) (by omega)]; exact i1
    · rw [fm_up_q _ (by omega), n7 _ (by omega) (by omega)]; exact i2
    · rw [fm_up_q _ (by omega), n7 _ (by omega) (by omega)]; exact i3
    · rw [fm_up_q _ (by omega), n7 _ (by omega) (by omega)]; exact i4
    · rw [fm_up_p _ _ _ (by omega), n8 q n hn en, h8]
    · rw [fm_up_p _ _ _ (by omega), n9 n hn q, iq (b + 8) (by omega) (by omega) (by omega) (by omega)]
  obtain ⟨J, s1, s2, s3, s4⟩ := c_settle hb hA1
  rw [vv_t hb.1 s1]
  have j1 : J (b + 1) = upd (A (b + 1)) c k := by rw [s2 _ (by omega) (by omega) (by omega), fm_up_q _ (by omega), n7 _ (by omega) (by omega)]; exact i1
  have j2 : J (b + 2) = upd (A (b + 2)) c a := by rw [s2 _ (by omega) (by omega) (by omega), fm_up_q _ (by omega), n7 _ (by omega) (by omega)]; exact i2
  have j3 : J (b + 3) = upd (A (b + 3)) c y := by rw [s2 _ (by omega) (by omega) (by omega), fm_up_q _ (by omega), n7 _ (by omega) (by omega)]; exact i3
  have j4 : J (b + 4) = upd (A (b + 4)) c s := by rw [s2 _ (by omega) (by omega) (by omega), fm_up_q _ (by omega), n7 _ (by omega) (by omega)]; exact i4
  refine ⟨J, rfl, hA1.cg (fun i _ _ => by rw [s2 b (by omega) (by omega) (by omega)]) (s2 _ (by omega) (by omega) (by omega)) (s2 _ (by omega) (by omega) (by omega)) (s2 _ (by omega) (by omega) (by omega)) (s2 _ (by omega) (by omega) (by omega)) (s2 _ (by omega) (by omega) (by omega)), s3, ?_, j1, j2, j3, j4, fun q hq => ?_⟩
  · rw [s2 (b + 1) (by omega) (by omega) (by omega), s2 (b + 2) (by omega) (by omega) (by omega), s2 (b + 4) (by omega) (by omega) (by omega)]
    exact s4
  · rw [s2 q (by omega) (by omega) (by omega), fm_up_q _ (by omega), n7 q (by omega) (by omega), iq q (by omega) (by omega) (by omega) (by omega)]
-- COMMONs of the reference
def mcf (K A : Nat → Int32) (a : Int32) : Nat → Option Nat
  | 0 => none
  | c + 1 => match mcf K A a c with
    | some k => some k
    | none => if K c = 7 ∧ A c = a then some c else none
theorem mcf_some {K A : Nat → Int32} {a : Int32} : ∀ {c d : Nat}, mcf K A a c = some d → d < c ∧ K d = 7 ∧ A d = a
  | 0, d, h => by cases h
  | c + 1, d, h => by
    unfold mcf at h
    cases hm : mcf K A a c with
    | some k =>
      rw [hm] at h
      have e : k = d := Option.some.inj h
      subst e
      obtain ⟨h1, h2⟩ := mcf_some hm
      exact ⟨by omega, h2⟩
    | none =>
      rw [hm] at h
      by_cases hc : K c = 7 ∧ A c = a
      · simp only [if_pos hc] at h
        have e : c = d := Option.some.inj h
        subst e
        exact ⟨by omega, hc⟩
      · simp only [if_neg hc] at h
        cases h
theorem mcf_no {K A : Nat → Int32} {a : Int32} {c : Nat} (h : ∀ j, j < c → ¬ (K j = 7 ∧ A j = a)) : mcf K A a c = none := by
  cases hm : mcf K A a c with
  | none => rfl
  | some d =>
    obtain ⟨h1, h2⟩ := mcf_some hm
    exact absurd h2 (h d h1)
theorem mcf_at {K A : Nat → Int32} {a : Int32} {d : Nat} : ∀ {c : Nat}, d < c → K d = 7 ∧ A d = a → (∀ j, j < d → ¬ (K j = 7 ∧ A j = a)) → mcf K A a c = some d
  | 0, h, _, _ => by omega
  | c + 1, h, h1, h2 => by
    unfold mcf
    by_cases e : d = c
    · subst e
      rw [mcf_no h2]
      simp only [if_pos h1]
    · rw [mcf_at (c := c) (by omega) h1 h2]
theorem mcf_none {K A : Nat → Int32} {a : Int32} : ∀ {c : Nat}, mcf K A a c = none → ∀ j, j < c → ¬ (K j = 7 ∧ A j = a)
  | 0, _, j, hj => by omega
  | c + 1, h, j, hj => by
    unfold mcf at h
    cases hm : mcf K A a c with
    | some k => rw [hm] at h; cases h
    | none =>
      rw [hm] at h
      by_cases hc : K c = 7 ∧ A c = a
      · simp only [if_pos hc] at h
        cases h
      · by_cases e : j = c
        · subst e
          exact hc
        · exact mcf_none hm j (by omega)
def rcm (Y : Nat → Int32) (o : Option Nat) : Int32 := match o with
  | some d => Y d
  | none => 0
theorem r_com_lp {B : fm_I} {m c : Nat} (h : RM0 B m c) {a : Int32} : ∀ (n k : Nat), k ≤ c → c < n + k → (∀ j, j < k → ¬ (sK B m j = 7 ∧ sA B m j = a)) → fn_Ref_common_5 n 78 (nI m) a (nI (20 * m + k)) B = ri (rcm (sB B m) (mcf (sK B m) (sA B m) a c)) B
  | 0, k, h1, h2, _ => by omega
  | n + 1, k, h1, h2, h3 => by
    obtain ⟨hm, hc, h4, h5⟩ := id h
    unfold fn_Ref_common_5
    rw [r78_0, ld_t (N := 6) rfl rfl hm, h4, n20, nI_add]
    by_cases hk : k = c
    · subst hk
      rw [if_pos (nI_le (Nat.le_refl _) (by omega)), mcf_no h3]
      rfl
    · rw [if_neg (nI_ge (show 20 * m + k < 20 * m + c by omega) (by omega)), r78_1, ld_t (N := 120) rfl rfl (by omega), nI_1]
      have go : ¬ (sK B m k = 7 ∧ sA B m k = a) → fn_Ref_common_5 n 78 (nI m) a (nI (20 * m + k + 1)) B = ri (rcm (sB B m) (mcf (sK B m) (sA B m) a c)) B := fun q => r_com_lp h n (k + 1) (by omega) (by omega) (lt_s h3 q)
      by_cases e7 : B 80 (20 * m + k) = 7
      · rw [if_pos e7, r78_2, ld_t (N := 120) rfl rfl (by omega)]
        by_cases ea : B 81 (20 * m + k) = a
        · rw [if_pos ea, r78_3, ld_t (N := 120) rfl rfl (by omega), mcf_at (show k < c by omega) ⟨e7, ea⟩ h3]
          rfl
        · rw [if_neg ea]; exact go (fun q => ea q.2)
      · rw [if_neg e7]; exact go (fun q => e7 q.1)
theorem r_common {B : fm_I} {m c : Nat} (h : RM0 B m c) {a : Int32} : fn_Ref_common 78 (nI m) a B = ri (rcm (sB B m) (mcf (sK B m) (sA B m) a c)) B := by
  unfold fn_Ref_common
  rw [n20]
  exact r_com_lp h FU 0 (Nat.zero_le _) (by have := h.2.1; have := fu_ge; omega) lt_0
