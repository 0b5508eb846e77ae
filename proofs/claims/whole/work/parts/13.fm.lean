-- flat memory. Behind the constructors no cell comes and no reference changes: a heap is a shape and a table of ints I : position → slot → int.
/-- shapes: ints (table, length); references (table, length, which); an object (class, its fields: a position, or none for an int) -/
abbrev fm_S : Type := (Nat × Nat) ⊕ (Nat × Nat × (Nat → Option Nat)) ⊕ (Nat × List (Option Nat))
abbrev fm_I : Type := Nat → Nat → Int32
def fm_fs (f : Nat → Int32) : Nat → List (Option Nat) → List am_V
  | _, [] => []
  | k, some q :: r => vR q :: fm_fs f (k + 1) r
  | k, none :: r => vI (f k) :: fm_fs f (k + 1) r
def fm_c (s : fm_S) (f : Nat → Int32) : am_E := match s with
  | .inl (t, N) => .inl (t, N, .inl f)
  | .inr (.inl (t, N, g)) => .inl (t, N, .inr g)
  | .inr (.inr (ci, fs)) => .inr (ci, fm_fs f 0 fs)
theorem fm_fs_i (f : Nat → Int32) : ∀ (fs : List (Option Nat)) (j k : Nat), fs[k]? = some none → (fm_fs f j fs)[k]? = some (vI (f (j + k)))
  | [], _, k, h => by simp at h
  | o :: r, j, 0, h => by
    have e : o = none := by simpa using h
    subst e
    rfl
  | o :: r, j, k + 1, h => by
    have h2 : r[k]? = some none := by simpa using h
    have := fm_fs_i f r (j + 1) k h2
    rw [show j + 1 + k = j + (k + 1) by omega] at this
    cases o <;> simpa [fm_fs] using this
theorem fm_fs_r (f : Nat → Int32) : ∀ (fs : List (Option Nat)) (j k q : Nat), fs[k]? = some (some q) → (fm_fs f j fs)[k]? = some (vR q)
  | [], _, k, _, h => by simp at h
  | o :: r, j, 0, q, h => by
    have e : o = some q := by simpa using h
    subst e
    rfl
  | o :: r, j, k + 1, q, h => by
    have h2 : r[k]? = some (some q) := by simpa using h
    have := fm_fs_r f r (j + 1) k q h2
    cases o <;> simpa [fm_fs] using this
theorem fm_fs_cg {f g : Nat → Int32} : ∀ (fs : List (Option Nat)) (j : Nat), (∀ i, j ≤ i → f i = g i) → fm_fs f j fs = fm_fs g j fs
  | [], _, _ => rfl
  | some q :: r, j, h => by
    show vR q :: fm_fs f (j + 1) r = vR q :: fm_fs g (j + 1) r
    rw [fm_fs_cg r (j + 1) (fun i hi => h i (by omega))]
  | none :: r, j, h => by
    show vI (f j) :: fm_fs f (j + 1) r = vI (g j) :: fm_fs g (j + 1) r
    rw [fm_fs_cg r (j + 1) (fun i hi => h i (by omega)), h j (Nat.le_refl _)]
theorem fm_fs_set {f : Nat → Int32} {x : Int32} : ∀ (fs : List (Option Nat)) (j k : Nat), fs[k]? = some none → (fm_fs f j fs).set k (vI x) = fm_fs (upd f (j + k) x) j fs
  | [], _, k, h => by simp at h
  | o :: r, j, 0, h => by
    have e : o = none := by simpa using h
    subst e
    show vI x :: fm_fs f (j + 1) r = vI (upd f (j + 0) x j) :: fm_fs (upd f (j + 0) x) (j + 1) r
    rw [fm_fs_cg (f := upd f (j + 0) x) (g := f) r (j + 1) (fun i hi => pk_un (by omega)), show upd f (j + 0) x j = x from pk_us]
  | o :: r, j, k + 1, h => by
    have h2 : r[k]? = some none := by simpa using h
    have := fm_fs_set (f := f) (x := x) r (j + 1) k h2
    rw [show j + 1 + k = j + (k + 1) by omega] at this
    cases o with
    | none =>
      show vI (f j) :: (fm_fs f (j + 1) r).set k (vI x) = vI (upd f (j + (k + 1)) x j) :: fm_fs (upd f (j + (k + 1)) x) (j + 1) r
      rw [this, pk_un (by omega)]
    | some q =>
      show vR q :: (fm_fs f (j + 1) r).set k (vI x) = vR q :: fm_fs (upd f (j + (k + 1)) x) (j + 1) r
      rw [this]
theorem fm_fs_len (f : Nat → Int32) : ∀ (fs : List (Option Nat)) (j : Nat), (fm_fs f j fs).length = fs.length
  | [], _ => rfl
  | some q :: r, j => by show (fm_fs f (j + 1) r).length + 1 = r.length + 1; rw [fm_fs_len f r]
  | none :: r, j => by show (fm_fs f (j + 1) r).length + 1 = r.length + 1; rw [fm_fs_len f r]
-- the shape of this program's heap behind both constructors: positions in the order of making
-- 0 SpanLinker; 1 its modules; 2 + 9 m: module m, 3 + 9 m .. 10 + 9 m its rows; 56 Inclusion, 57 order, 58; 59 archive, 60; 61 line, 62; 63 Image, 64 bases, 65 .. 70 their rows, 71 words, 72 sizes, 73 values; 74 Machine, 75 words, 76 tape, 77 latest; 78 the reference, 79 .. 93 its rows
-- class numbers: as 'classes' has them (here: 0 SpanLinker, 1 SourceModule, 2 Inclusion, 3 Row, 4 Image, 5 Machine, 6 SpanLinkerModel)
def fm_mod (b j : Nat) : fm_S := match j with
  | 0 => .inr (.inr (1, [some (b + 1), some (b + 2), some (b + 3), some (b + 4), some (b + 5), some (b + 6), some (b + 7), some (b + 8), none, none, none, none, none]))
  | 6 => .inl (1, 20)
  | 7 => .inl (0, 3)
  | 8 => .inl (0, 16)
  | _ => .inl (0, 20)
def fm_low (p : Nat) : fm_S := match p with
  | 0 => .inr (.inr (0, [some 1, some 59, some 61, some 56, some 63, some 74]))
  | _ => .inr (.inl (2, 6, fun i => if i < 6 then some (2 + 9 * i) else none))
def fm_top (p : Nat) : fm_S := match p with
  | 56 => .inr (.inr (2, [some 1, some 57, none, none, none, none]))
  | 57 => .inr (.inr (3, [some 58, none]))
  | 58 => .inl (0, 6)
  | 59 => .inr (.inr (3, [some 60, none]))
  | 60 => .inl (0, 6)
  | 61 => .inr (.inr (3, [some 62, none]))
  | 62 => .inl (0, 8)
  | 63 => .inr (.inr (4, [some 1, some 56, some 64, some 71, some 72, some 73, none, none, none, none]))
  | 64 => .inr (.inl (3, 6, fun i => if i < 6 then some (65 + i) else none))
  | 71 => .inl (0, 200)
  | 72 => .inl (0, 3)
  | 73 => .inl (0, 16)
  | 74 => .inr (.inr (5, [some 75, some 76, some 77, none, none, none, none, none, none, none, none, none, none]))
  | 75 => .inl (0, 200)
  | 76 => .inl (0, 8)
  | 77 => .inl (0, 4)
  | 78 => .inr (.inr (6, [some 79, some 80, some 81, some 82, some 83, some 84, none, some 85, none, some 86, none, none, some 87, none, none, none, some 88, some 89, none, some 90, none, none, some 91, none, none, none, none, none, some 92, some 93, none, none]))
  | 79 => .inl (0, 6)
  | 80 => .inl (0, 120)
  | 81 => .inl (0, 120)
  | 82 => .inl (0, 120)
  | 83 => .inl (0, 120)
  | 84 => .inl (1, 120)
  | 85 => .inl (0, 6)
  | 86 => .inl (0, 8)
  | 87 => .inl (0, 6)
  | 88 => .inl (0, 200)
  | 89 => .inl (0, 3)
  | 90 => .inl (0, 16)
  | 91 => .inl (0, 200)
  | 92 => .inl (0, 4)
  | 93 => .inl (0, 8)
  | _ => .inl (0, 3)
def fm_sh (p : Nat) : fm_S := if p < 2 then fm_low p else if p < 56 then fm_mod (2 + 9 * ((p - 2) / 9)) ((p - 2) % 9) else fm_top p
abbrev fm_N : Nat := 94
def fm_hp (I : fm_I) : am_H := fun p => fm_c (fm_sh p) (I p)
def fm_up (I : fm_I) (p k : Nat) (x : Int32) : fm_I := va_up I p (upd (I p) k x)
theorem fm_sh_mod {m j : Nat} (hm : m < 6) (hj : j < 9) : fm_sh (2 + 9 * m + j) = fm_mod (2 + 9 * m) j := by
  unfold fm_sh
  rw [if_neg (by omega), if_pos (by omega), show (2 + 9 * m + j - 2) / 9 = m by omega, show (2 + 9 * m + j - 2) % 9 = j by omega]
theorem fm_up_s (I : fm_I) (p k : Nat) (x : Int32) : fm_up I p k x p k = x := by unfold fm_up; rw [va_up_self]; exact pk_us
theorem fm_up_k (I : fm_I) {p k j : Nat} (x : Int32) (h : j ≠ k) : fm_up I p k x p j = I p j := by unfold fm_up; rw [va_up_self]; exact pk_un h
theorem fm_up_p (I : fm_I) {p k q : Nat} (j : Nat) (x : Int32) (h : q ≠ p) : fm_up I p k x q j = I q j := by unfold fm_up; rw [va_up_ne _ _ h]
theorem fm_hp_up {I : fm_I} {p : Nat} {f : Nat → Int32} : va_up (fm_hp I) p (fm_c (fm_sh p) f) = fm_hp (va_up I p f) := funext fun q => by
  by_cases e : q = p
  · subst e
    rw [va_up_self]
    show _ = fm_c (fm_sh q) (va_up I q f q)
    rw [va_up_self]
  · rw [va_up_ne _ _ e]
    show fm_c (fm_sh q) (I q) = fm_c (fm_sh q) (va_up I p f q)
    rw [va_up_ne _ _ e]
-- ends: an int, nothing
def fm_Q (Q : Option am_V → fm_I → Prop) : Option am_V → Nat → am_H → Prop := fun v n' h' => n' = fm_N ∧ ∃ I', h' = fm_hp I' ∧ Q v I'
abbrev fi (P : Int32 → fm_I → Prop) : Option am_V → fm_I → Prop := fun v I' => ∃ x, v = some (vI x) ∧ P x I'
abbrev fv (P : fm_I → Prop) : Option am_V → fm_I → Prop := fun v I' => v = none ∧ P I'
/-- a walk, and a contract, over the flat memory -/
abbrev fW (M : am_M) (d : Nat) (Q : Option am_V → fm_I → Prop) (pc : Nat) (L : Nat → Option am_V) (st : List am_V) (I : fm_I) : Prop := am_AW M d 0 0 none (fm_Q Q) pc L st fm_N (fm_hp I) 0 0
abbrev fM (M : am_M) (d : Nat) (av : List am_V) (I : fm_I) (Q : Option am_V → fm_I → Prop) : Prop := am_AM M d 0 0 av fm_N (fm_hp I) (fm_Q Q)
section FM
variable {M : am_M} {d mc ms : Nat} {SC : Option (Nat × (Nat → Int32))} {Q : Option am_V → Nat → am_H → Prop} {pc : Nat} {L : Nat → Option am_V} {rest : List am_V} {I : fm_I} {uc us : Nat}
theorem f_geti {C : String} {T : u_T} {N ci index b k : Nat} {fs : List (Option Nat)} {x : Int32} (hd : decode M.2.2.1 pc = .ok (.getfield index, 3)) (hc : classes[ci]? = some (C, T, N)) (hin : ∀ w ∈ u_ws C T N, w ∈ am_all) (hk : k < N) (hlk : Cond.fieldLink M.1 index (T k).1 (T k).2.1 (T k).2.2.1 ∈ am_all) (hf : fs[k]? = some none) (hb : b < fm_N) (hs : fm_sh b = .inr (.inr (ci, fs))) (hv : I b k = x)
    (kk : am_AW M d mc ms SC Q (pc + 3) L (vI x :: rest) fm_N (fm_hp I) uc us) : am_AW M d mc ms SC Q pc L (vR b :: rest) fm_N (fm_hp I) uc us :=
  i_getf hd hc hin hk hlk hb (fs := fm_fs (I b) 0 fs) (by show fm_c (fm_sh b) (I b) = _; rw [hs]; rfl) (v := vI x) (by rw [fm_fs_i (I b) fs 0 k hf, Nat.zero_add, hv]) kk
theorem f_getr {C : String} {T : u_T} {N ci index b k q : Nat} {fs : List (Option Nat)} (hd : decode M.2.2.1 pc = .ok (.getfield index, 3)) (hc : classes[ci]? = some (C, T, N)) (hin : ∀ w ∈ u_ws C T N, w ∈ am_all) (hk : k < N) (hlk : Cond.fieldLink M.1 index (T k).1 (T k).2.1 (T k).2.2.1 ∈ am_all) (hf : fs[k]? = some (some q)) (hb : b < fm_N) (hs : fm_sh b = .inr (.inr (ci, fs)))
    (kk : am_AW M d mc ms SC Q (pc + 3) L (vR q :: rest) fm_N (fm_hp I) uc us) : am_AW M d mc ms SC Q pc L (vR b :: rest) fm_N (fm_hp I) uc us :=
  i_getf hd hc hin hk hlk hb (fs := fm_fs (I b) 0 fs) (by show fm_c (fm_sh b) (I b) = _; rw [hs]; rfl) (v := vR q) (fm_fs_r (I b) fs 0 k q hf) kk
theorem f_puti {C : String} {T : u_T} {N ci index b k : Nat} {fs : List (Option Nat)} {x : Int32} {ty : FieldType} (ty0 : Nat → FieldType) (hty : ∀ k, k < N → parseFieldDescriptor (T k).2.2.1 = some (ty0 k)) (hnm : ∀ a, a < N → ∀ b, b < N → a ≠ b → (T a).2.1 ≠ (T b).2.1) (hd : decode M.2.2.1 pc = .ok (.putfield index, 3)) (hc : classes[ci]? = some (C, T, N)) (hin : ∀ w ∈ u_ws C T N, w ∈ am_all) (hk : k < N) (hlk : Cond.fieldLink M.1 index (T k).1 (T k).2.1 (T k).2.2.1 ∈ am_all) (hfin : (T k).2.2.2 = false) (hpd : parseFieldDescriptor (T k).2.2.1 = some ty) (hf : fs[k]? = some none) (hnr : narrow ty (.int x) = .int x) (hft : fits ty (.int x) = true) (hb : b < fm_N) (hs : fm_sh b = .inr (.inr (ci, fs)))
    (kk : am_AW M d mc ms SC Q (pc + 3) L rest fm_N (fm_hp (fm_up I b k x)) uc us) : am_AW M d mc ms SC Q pc L (vI x :: vR b :: rest) fm_N (fm_hp I) uc us := by
  have hlt : k < fs.length := (List.getElem?_eq_some_iff.mp hf).1
  refine i_putf ty0 hty hnm hd hc hin hk hlk hfin hb (fs := fm_fs (I b) 0 fs) (by show fm_c (fm_sh b) (I b) = _; rw [hs]; rfl) (by rw [fm_fs_len]; exact hlt) hpd (fun _ => hnr) (fun _ => hft) ?_
  have e : va_up (fm_hp I) b (.inr (ci, (fm_fs (I b) 0 fs).set k (vI x))) = fm_hp (fm_up I b k x) := by
    rw [fm_fs_set fs 0 k hf, Nat.zero_add]
    have := fm_hp_up (I := I) (p := b) (f := upd (I b) k x)
    rw [hs] at this
    exact this
  rw [e]
  exact kk
theorem f_iald {b N j : Nat} {i x : Int32} (hd : decode M.2.2.1 pc = .ok (.iaload, 1)) (hb : b < fm_N) (hs : fm_sh b = .inl (0, N)) (hN : N < 2147483648) (hi : i = nI j) (hj : j < N) (hv : I b j = x)
    (kk : am_AW M d mc ms SC Q (pc + 1) L (vI x :: rest) fm_N (fm_hp I) uc us) : am_AW M d mc ms SC Q pc L (vI i :: vR b :: rest) fm_N (fm_hp I) uc us := by
  subst hi; subst hv
  refine i_iald (f := I b) hd hb (by show fm_c (fm_sh b) (I b) = _; rw [hs]; rfl) (vp_in_nI hj hN) ?_
  rw [nI_clamp (Nat.lt_trans hj hN)]
  exact kk
theorem f_zald {b N j : Nat} {i x : Int32} (hd : decode M.2.2.1 pc = .ok (.baload, 1)) (hb : b < fm_N) (hs : fm_sh b = .inl (1, N)) (hN : N < 2147483648) (hi : i = nI j) (hj : j < N) (hv : I b j = x)
    (kk : am_AW M d mc ms SC Q (pc + 1) L (vI x :: rest) fm_N (fm_hp I) uc us) : am_AW M d mc ms SC Q pc L (vI i :: vR b :: rest) fm_N (fm_hp I) uc us := by
  subst hi; subst hv
  refine i_zald (f := I b) hd hb (by show fm_c (fm_sh b) (I b) = _; rw [hs]; rfl) (vp_in_nI hj hN) ?_
  rw [nI_clamp (Nat.lt_trans hj hN)]
  exact kk
theorem f_iast {b N j : Nat} {i x : Int32} (hd : decode M.2.2.1 pc = .ok (.iastore, 1)) (hb : b < fm_N) (hs : fm_sh b = .inl (0, N)) (hN : N < 2147483648) (hi : i = nI j) (hj : j < N)
    (kk : am_AW M d mc ms SC Q (pc + 1) L rest fm_N (fm_hp (fm_up I b j x)) uc us) : am_AW M d mc ms SC Q pc L (vI x :: vI i :: vR b :: rest) fm_N (fm_hp I) uc us := by
  subst hi
  refine i_iast (f := I b) hd hb (by show fm_c (fm_sh b) (I b) = _; rw [hs]; rfl) (vp_in_nI hj hN) ?_
  rw [nI_clamp (Nat.lt_trans hj hN)]
  have := fm_hp_up (I := I) (p := b) (f := upd (I b) j x)
  rw [hs] at this
  show am_AW M d mc ms SC Q (pc + 1) L rest fm_N (va_up (fm_hp I) b (fm_c (.inl (0, N)) (upd (I b) j x))) uc us
  rw [this]
  exact kk
theorem f_zast {b N j : Nat} {i x y : Int32} (hd : decode M.2.2.1 pc = .ok (.bastore, 1)) (hb : b < fm_N) (hs : fm_sh b = .inl (1, N)) (hN : N < 2147483648) (hi : i = nI j) (hj : j < N) (hx : vp_nar .boolean x = y)
    (kk : am_AW M d mc ms SC Q (pc + 1) L rest fm_N (fm_hp (fm_up I b j y)) uc us) : am_AW M d mc ms SC Q pc L (vI x :: vI i :: vR b :: rest) fm_N (fm_hp I) uc us := by
  subst hi; subst hx
  refine i_zast (f := I b) hd hb (by show fm_c (fm_sh b) (I b) = _; rw [hs]; rfl) (vp_in_nI hj hN) ?_
  rw [nI_clamp (Nat.lt_trans hj hN)]
  have := fm_hp_up (I := I) (p := b) (f := upd (I b) j (vp_nar .boolean x))
  rw [hs] at this
  show am_AW M d mc ms SC Q (pc + 1) L rest fm_N (va_up (fm_hp I) b (fm_c (.inl (1, N)) (upd (I b) j (vp_nar .boolean x)))) uc us
  rw [this]
  exact kk
theorem f_aald {b N j y : Nat} {g : Nat → Option Nat} {i : Int32} (hd : decode M.2.2.1 pc = .ok (.aaload, 1)) (hb : b < fm_N) (hs : fm_sh b = .inr (.inl (2, N, g))) (hN : N < 2147483648) (hi : i = nI j) (hj : j < N) (hy : g j = some y)
    (kk : am_AW M d mc ms SC Q (pc + 1) L (vR y :: rest) fm_N (fm_hp I) uc us) : am_AW M d mc ms SC Q pc L (vI i :: vR b :: rest) fm_N (fm_hp I) uc us := by
  subst hi
  exact i_aald (g := g) hd hb (by show fm_c (fm_sh b) (I b) = _; rw [hs]; rfl) (vp_in_nI hj hN) (by rw [nI_clamp (Nat.lt_trans hj hN)]; exact hy) kk
theorem f_alen {b N : Nat} {x : Int32} (hd : decode M.2.2.1 pc = .ok (.arraylength, 1)) (hb : b < fm_N) (hs : fm_sh b = .inl (0, N)) (hx : Int32.ofNat N = x)
    (kk : am_AW M d mc ms SC Q (pc + 1) L (vI x :: rest) fm_N (fm_hp I) uc us) : am_AW M d mc ms SC Q pc L (vR b :: rest) fm_N (fm_hp I) uc us :=
  i_alen (f := .inl (I b)) hd hb (by show fm_c (fm_sh b) (I b) = _; rw [hs]; rfl) (fun _ => rfl) hx kk
end FM
theorem f_iret {M : am_M} {d mc ms : Nat} {SC : Option (Nat × (Nat → Int32))} {P : Int32 → fm_I → Prop} {pc : Nat} {L : Nat → Option am_V} {I : fm_I} {uc us : Nat} {x : Int32} {ty : FieldType} (hd : decode M.2.2.1 pc = .ok (.ireturn, 1)) (hty : M.2.2.2.2 = some ty) (hn : narrow ty (.int x) = .int x) (hc : uc ≤ mc) (hs : us ≤ ms) (hP : P x I) : am_AW M d mc ms SC (fm_Q (fi P)) pc L [vI x] fm_N (fm_hp I) uc us := i_iret hd hty hn hc hs ⟨rfl, I, rfl, x, rfl, hP⟩
theorem f_ret {M : am_M} {d mc ms : Nat} {SC : Option (Nat × (Nat → Int32))} {P : fm_I → Prop} {pc : Nat} {L : Nat → Option am_V} {I : fm_I} {uc us : Nat} (hd : decode M.2.2.1 pc = .ok (.return_, 1)) (hty : M.2.2.2.2 = none) (hc : uc ≤ mc) (hs : us ≤ ms) (hP : P I) : am_AW M d mc ms SC (fm_Q (fv P)) pc L [] fm_N (fm_hp I) uc us := i_ret hd hty hc hs ⟨rfl, I, rfl, rfl, hP⟩
theorem f_met {M : am_M} {d : Nat} {av : List am_V} {I : fm_I} {Q : Option am_V → fm_I → Prop} (hy : plainName M.2.1.cls = true) (how : M.1 = M.2.1.cls) (hlen : av.length ≤ M.2.2.2.1) (hw : fW M d Q 0 (fun i => av[i]?) [] I) : fM M d av I Q := am_met hy how hlen hw
theorem f_sp : fm_N ≤ am_SP := by decide
-- calls over the flat memory. am_all = am_codes ++ am_links; am_allgood: every word of it is good (by decide, once)
theorem am_good {M' : am_M} {ws : List Cond} (hc : Cond.code M'.2.1 M'.2.2.1 M'.2.2.2.1 M'.2.2.2.2 ∈ am_all) (hws : ∀ w ∈ ws, w ∈ am_all) : GoodIn am_all (ws ++ am_w M') := by
  intro w hw
  have h : w ∈ am_all := by
    rcases List.mem_append.mp hw with h | h
    · exact hws w h
    · rcases List.mem_cons.mp h with rfl | h
      · exact hc
      · exact h
  exact ⟨h, am_allgood w h⟩
theorem am_good0 {M' : am_M} (hc : Cond.code M'.2.1 M'.2.2.1 M'.2.2.2.1 M'.2.2.2.2 ∈ am_all) : GoodIn am_all (am_w M') := am_good (ws := []) hc (fun _ h => by cases h)
section FC
variable {M M' : am_M} {d d' mc ms : Nat} {SC : Option (Nat × (Nat → Int32))} {Q : Option am_V → Nat → am_H → Prop} {pc : Nat} {L : Nat → Option am_V} {rest st As : List am_V} {I : fm_I} {uc us : Nat}
theorem f_callV {b ci N index : Nat} {C : String} {T : u_T} {fs : List (Option Nat)} {Q' : Option am_V → fm_I → Prop} (hM : fM M' d' (vR b :: As) I Q') (hst : st = As.reverse ++ vR b :: rest) (hd : decode M.2.2.1 pc = .ok (.invokevirtual index, 3))
    (hcw : Cond.code M'.2.1 M'.2.2.1 M'.2.2.2.1 M'.2.2.2.2 ∈ am_all) (hws : ∀ w ∈ ([.methodLink M.1 index M'.2.1, .instanceMethod M'.2.1, .selects C M'.2.1 M'.2.1, .initialized C] : List Cond), w ∈ am_all)
    (hy : M'.2.1.cls = C ∧ M'.2.1.cls ≠ "java/lang/invoke/MethodHandle" ∧ M'.2.1.cls ≠ "java/lang/invoke/VarHandle" ∧ (parseMethodDescriptor M'.2.1.desc).map (fun d => d.parameters.length) = some As.length)
    (hdd : d' + 1 ≤ d) (hnl : M'.2.2.2.1 ≤ 21) (hb : b < fm_N) (hs : fm_sh b = .inr (.inr (ci, fs))) (hc : classes[ci]? = some (C, T, N)) (hrs : rest.length ≤ 8) (hcc : uc ≤ mc) (hss : us ≤ ms)
    (kk : ∀ v I', Q' v I' → am_AW M d mc ms SC Q (pc + 3) L (v.toList ++ rest) fm_N (fm_hp I') uc us) : am_AW M d mc ms SC Q pc L st fm_N (fm_hp I) uc us :=
  am_callV (mc' := 0) (ms' := 0) hM hst hd (am_good hcw hws) hy hdd hnl hb (fs := fm_fs (I b) 0 fs) (by show fm_c (fm_sh b) (I b) = _; rw [hs]; rfl) hc hrs hcc hss (fun v n' h' q => by obtain ⟨e, -⟩ := q; rw [e]; exact am_sc.same f_sp) (fun v n' h' q _ => by obtain ⟨e, I', e2, q⟩ := q; subst e; subst e2; exact kk v I' q)
theorem f_callS {index : Nat} {Q' : Option am_V → fm_I → Prop} (hM : fM M' d' As I Q') (hst : st = As.reverse ++ rest) (hd : decode M.2.2.1 pc = .ok (.invokestatic index, 3))
    (hcw : Cond.code M'.2.1 M'.2.2.1 M'.2.2.2.1 M'.2.2.2.2 ∈ am_all) (hws : ∀ w ∈ ([.methodLink M.1 index M'.2.1, .static M'.2.1, .initialized M.1] : List Cond), w ∈ am_all)
    (hy : M'.2.1.cls = M.1 ∧ M'.2.1.cls ≠ "java/lang/invoke/MethodHandle" ∧ M'.2.1.cls ≠ "java/lang/invoke/VarHandle" ∧ (parseMethodDescriptor M'.2.1.desc).map (fun d => d.parameters.length) = some As.length)
    (hdd : d' + 1 ≤ d) (hnl : M'.2.2.2.1 ≤ 21) (hrs : rest.length ≤ 8) (hcc : uc ≤ mc) (hss : us ≤ ms)
    (kk : ∀ v I', Q' v I' → am_AW M d mc ms SC Q (pc + 3) L (v.toList ++ rest) fm_N (fm_hp I') uc us) : am_AW M d mc ms SC Q pc L st fm_N (fm_hp I) uc us :=
  am_callS (mc' := 0) (ms' := 0) hM hst hd (am_good hcw hws) hy hdd hnl hrs hcc hss (fun v n' h' q => by obtain ⟨e, -⟩ := q; rw [e]; exact am_sc.same f_sp) (fun v n' h' q _ => by obtain ⟨e, I', e2, q⟩ := q; subst e; subst e2; exact kk v I' q)
theorem f_callSN {index : Nat} {host : String} {Q' : Option am_V → fm_I → Prop} (hM : fM M' d' As I Q') (hst : st = As.reverse ++ rest) (hd : decode M.2.2.1 pc = .ok (.invokestatic index, 3))
    (hcw : Cond.code M'.2.1 M'.2.2.1 M'.2.2.2.1 M'.2.2.2.2 ∈ am_all) (hnw : Cond.methodLinkNest M.1 index M'.2.1 host ∈ am_nest) (hini : Cond.initialized M'.2.1.cls ∈ am_all) (hstt : Cond.static M'.2.1 ∈ am_all)
    (hy : M'.2.1.cls ≠ "java/lang/invoke/MethodHandle" ∧ M'.2.1.cls ≠ "java/lang/invoke/VarHandle" ∧ (parseMethodDescriptor M'.2.1.desc).map (fun d => d.parameters.length) = some As.length)
    (hdd : d' + 1 ≤ d) (hnl : M'.2.2.2.1 ≤ 21) (hrs : rest.length ≤ 8) (hcc : uc ≤ mc) (hss : us ≤ ms)
    (kk : ∀ v I', Q' v I' → am_AW M d mc ms SC Q (pc + 3) L (v.toList ++ rest) fm_N (fm_hp I') uc us) : am_AW M d mc ms SC Q pc L st fm_N (fm_hp I) uc us :=
  am_callSN (mc' := 0) (ms' := 0) hM hst hd (am_good0 hcw) hnw hini hstt hy hdd hnl hrs hcc hss (fun v n' h' q => by obtain ⟨e, -⟩ := q; rw [e]; exact am_sc.same f_sp) (fun v n' h' q _ => by obtain ⟨e, I', e2, q⟩ := q; subst e; subst e2; exact kk v I' q)
end FC
-- from a general end to an int's or to none: behind a call 'fun v I2 q => by obtain ⟨x, rfl, q⟩ := q; ..'
