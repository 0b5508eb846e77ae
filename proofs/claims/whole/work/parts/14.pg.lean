-- printed by wip/whole/gen/gen_pg.py: what a method answers, as a function of its arguments and of the table of ints
abbrev pR : Type := Option (Option am_V × fm_I)
abbrev ri (x : Int32) (I : fm_I) : pR := some (some (vI x), I)
abbrev rv (I : fm_I) : pR := some (none, I)
def bi (r : pR) (k : Int32 → fm_I → pR) : pR := match r with
  | some (some (.inl x), I) => k x I
  | _ => none
def bv (r : pR) (k : fm_I → pR) : pR := match r with
  | some (none, I) => k I
  | _ => none
def bn (x : Int32) (k : Int32 → pR) : pR := k x
def rz (x : Int32) (I : fm_I) : pR := if x &&& 1 = x then ri x I else none
def sh_o (ci b : Nat) : Bool := match fm_sh b with
  | .inr (.inr (c, _)) => decide (c = ci) && decide (b < fm_N)
  | _ => false
def sh_i (ci b k : Nat) : Bool := match fm_sh b with
  | .inr (.inr (c, fs)) => decide (c = ci) && decide (b < fm_N) && decide (fs[k]? = some none)
  | _ => false
def sh_r (ci b k : Nat) : Option Nat := match fm_sh b with
  | .inr (.inr (c, fs)) => if c = ci ∧ b < fm_N then (fs[k]?).join else none
  | _ => none
def sh_n (t b : Nat) : Option Nat := match fm_sh b with
  | .inl (u, N) => if u = t ∧ b < fm_N ∧ N < 2147483648 then some N else none
  | _ => none
def sh_a (t b j : Nat) : Option Nat := match fm_sh b with
  | .inr (.inl (u, N, g)) => if u = t ∧ b < fm_N ∧ N < 2147483648 ∧ j < N then g j else none
  | _ => none
def gi (ci b k : Nat) (I : fm_I) (kk : Int32 → pR) : pR := if sh_i ci b k = true then kk (I b k) else none
def gr (ci b k : Nat) (kk : Nat → pR) : pR := match sh_r ci b k with
  | some q => kk q
  | none => none
def pI (ci b k : Nat) (x : Int32) (I : fm_I) (kk : fm_I → pR) : pR := if sh_i ci b k = true then kk (fm_up I b k x) else none
def pZ (ci b k : Nat) (x : Int32) (I : fm_I) (kk : fm_I → pR) : pR := if sh_i ci b k = true ∧ x &&& 1 = x then kk (fm_up I b k x) else none
def ld (t b : Nat) (i : Int32) (I : fm_I) (kk : Int32 → pR) : pR := match sh_n t b with
  | some N => if i < 0 ∨ N ≤ i.toNatClampNeg then none else kk (I b i.toNatClampNeg)
  | none => none
def sI (b : Nat) (i x : Int32) (I : fm_I) (kk : fm_I → pR) : pR := match sh_n 0 b with
  | some N => if i < 0 ∨ N ≤ i.toNatClampNeg then none else kk (fm_up I b i.toNatClampNeg x)
  | none => none
def sZ (b : Nat) (i x : Int32) (I : fm_I) (kk : fm_I → pR) : pR := match sh_n 1 b with
  | some N => if i < 0 ∨ N ≤ i.toNatClampNeg then none else kk (fm_up I b i.toNatClampNeg (vp_nar .boolean x))
  | none => none
def la (t b : Nat) (i : Int32) (kk : Nat → pR) : pR := if i < 0 then none else match sh_a t b i.toNatClampNeg with
  | some q => kk q
  | none => none
def ln (b : Nat) (kk : Int32 → pR) : pR := match sh_n 0 b with
  | some N => kk (Int32.ofNat N)
  | none => none
def vi (ci b : Nat) (f : pR) (kk : Int32 → fm_I → pR) : pR := if sh_o ci b = true then bi f kk else none
def vv (ci b : Nat) (f : pR) (kk : fm_I → pR) : pR := if sh_o ci b = true then bv f kk else none
def sl (S : Nat × (Nat → Int32)) (i : Int32) (kk : Int32 → pR) : pR := if i < 0 ∨ S.1 ≤ i.toNatClampNeg then none else kk (S.2 i.toNatClampNeg)
def FU : Nat := 4096
-- what is looked up of the tables, for a place in the constant pool
def fk (own : String) (index ci k : Nat) : Prop := ∃ (Cn : String) (T : u_T) (N : Nat), classes[ci]? = some (Cn, T, N) ∧ (∀ w ∈ u_ws Cn T N, w ∈ am_all) ∧ k < N ∧ Cond.fieldLink own index (T k).1 (T k).2.1 (T k).2.2.1 ∈ am_all
def fp (own : String) (index ci k : Nat) (ty : FieldType) : Prop := ∃ (Cn : String) (T : u_T) (N : Nat) (ty0 : Nat → FieldType), classes[ci]? = some (Cn, T, N) ∧ (∀ w ∈ u_ws Cn T N, w ∈ am_all) ∧ k < N ∧ Cond.fieldLink own index (T k).1 (T k).2.1 (T k).2.2.1 ∈ am_all ∧ (∀ k, k < N → parseFieldDescriptor (T k).2.2.1 = some (ty0 k)) ∧ (∀ a, a < N → ∀ b, b < N → a ≠ b → (T a).2.1 ≠ (T b).2.1) ∧ (T k).2.2.2 = false ∧ parseFieldDescriptor (T k).2.2.1 = some ty
def ckV (own : String) (index ci na : Nat) (M' : am_M) : Prop := Cond.code M'.2.1 M'.2.2.1 M'.2.2.2.1 M'.2.2.2.2 ∈ am_all ∧ (∀ w ∈ ([.methodLink own index M'.2.1, .instanceMethod M'.2.1, .selects M'.2.1.cls M'.2.1 M'.2.1, .initialized M'.2.1.cls] : List Cond), w ∈ am_all) ∧ (M'.2.1.cls ≠ "java/lang/invoke/MethodHandle" ∧ M'.2.1.cls ≠ "java/lang/invoke/VarHandle" ∧ (parseMethodDescriptor M'.2.1.desc).map (fun d => d.parameters.length) = some na) ∧ M'.2.2.2.1 ≤ 21 ∧ ∃ (T : u_T) (N : Nat), classes[ci]? = some (M'.2.1.cls, T, N)
def ckS (own : String) (index na : Nat) (M' : am_M) : Prop := Cond.code M'.2.1 M'.2.2.1 M'.2.2.2.1 M'.2.2.2.2 ∈ am_all ∧ (∀ w ∈ ([.methodLink own index M'.2.1, .static M'.2.1, .initialized own] : List Cond), w ∈ am_all) ∧ (M'.2.1.cls = own ∧ M'.2.1.cls ≠ "java/lang/invoke/MethodHandle" ∧ M'.2.1.cls ≠ "java/lang/invoke/VarHandle" ∧ (parseMethodDescriptor M'.2.1.desc).map (fun d => d.parameters.length) = some na) ∧ M'.2.2.2.1 ≤ 21
def ckN (own : String) (index na : Nat) (M' : am_M) : Prop := Cond.code M'.2.1 M'.2.2.1 M'.2.2.2.1 M'.2.2.2.2 ∈ am_all ∧ (∃ host, Cond.methodLinkNest own index M'.2.1 host ∈ am_nest) ∧ Cond.initialized M'.2.1.cls ∈ am_all ∧ Cond.static M'.2.1 ∈ am_all ∧ (M'.2.1.cls ≠ "java/lang/invoke/MethodHandle" ∧ M'.2.1.cls ≠ "java/lang/invoke/VarHandle" ∧ (parseMethodDescriptor M'.2.1.desc).map (fun d => d.parameters.length) = some na) ∧ M'.2.2.2.1 ≤ 21
-- method, depth, cells, slots, script, cells and slots so far
abbrev gC : Type := am_M × Nat × Nat × Nat × Option (Nat × (Nat → Int32)) × Nat × Nat
def gW (C : gC) (r : pR) (pc : Nat) (L : Nat → Option am_V) (st : List am_V) (I : fm_I) : Prop := ∀ (Q : Option am_V → fm_I → Prop) (v : Option am_V) (J : fm_I), r = some (v, J) → Q v J → am_AW C.1 C.2.1 C.2.2.1 C.2.2.2.1 C.2.2.2.2.1 (fm_Q Q) pc L st fm_N (fm_hp I) C.2.2.2.2.2.1 C.2.2.2.2.2.2
def gM (M : am_M) (d : Nat) (r : pR) (av : List am_V) (I : fm_I) : Prop := ∀ (v : Option am_V) (J : fm_I), r = some (v, J) → fM M d av I (fun w K => w = v ∧ K = J)
theorem gM_of {M : am_M} {d : Nat} {r : pR} {av : List am_V} {I : fm_I} (hy : plainName M.2.1.cls = true) (how : M.1 = M.2.1.cls) (hlen : av.length ≤ M.2.2.2.1) (hw : gW (M, d, 0, 0, none, 0, 0) r 0 (fun i => av[i]?) [] I) : gM M d r av I := fun v J e => f_met hy how hlen (hw _ v J e ⟨rfl, rfl⟩)
theorem bi_some {f : pR} {kk : Int32 → fm_I → pR} {v : Option am_V} {J : fm_I} (e : bi f kk = some (v, J)) : ∃ x K, f = some (some (vI x), K) ∧ kk x K = some (v, J) := by
  unfold bi at e
  split at e
  · exact ⟨_, _, rfl, e⟩
  · cases e
theorem bv_some {f : pR} {kk : fm_I → pR} {v : Option am_V} {J : fm_I} (e : bv f kk = some (v, J)) : ∃ K, f = some (none, K) ∧ kk K = some (v, J) := by
  unfold bv at e
  split at e
  · exact ⟨_, rfl, e⟩
  · cases e
theorem sh_o_some {ci b : Nat} (h : sh_o ci b = true) : b < fm_N ∧ ∃ fs, fm_sh b = .inr (.inr (ci, fs)) := by
  unfold sh_o at h
  split at h
  · rename_i c fs e
    simp only [Bool.and_eq_true, decide_eq_true_eq] at h
    obtain ⟨rfl, h2⟩ := h
    exact ⟨h2, fs, e⟩
  · cases h
theorem sh_i_some {ci b k : Nat} (h : sh_i ci b k = true) : b < fm_N ∧ ∃ fs, fm_sh b = .inr (.inr (ci, fs)) ∧ fs[k]? = some none := by
  unfold sh_i at h
  split at h
  · rename_i c fs e
    simp only [Bool.and_eq_true, decide_eq_true_eq] at h
    obtain ⟨⟨rfl, h2⟩, h3⟩ := h
    exact ⟨h2, fs, e, h3⟩
  · cases h
theorem sh_r_some {ci b k q : Nat} (h : sh_r ci b k = some q) : b < fm_N ∧ ∃ fs, fm_sh b = .inr (.inr (ci, fs)) ∧ fs[k]? = some (some q) := by
  unfold sh_r at h
  split at h
  · rename_i c fs e
    split at h
    · rename_i h1
      obtain ⟨rfl, h2⟩ := h1
      refine ⟨h2, fs, e, ?_⟩
      cases hf : fs[k]? with
      | none => rw [hf] at h; cases h
      | some o => rw [hf] at h; exact congrArg some h
    · cases h
  · cases h
theorem sh_n_some {t b N : Nat} (h : sh_n t b = some N) : b < fm_N ∧ N < 2147483648 ∧ fm_sh b = .inl (t, N) := by
  unfold sh_n at h
  split at h
  · rename_i u N' e
    split at h
    · rename_i h1
      obtain ⟨rfl, h2, h3⟩ := h1
      cases h
      exact ⟨h2, h3, e⟩
    · cases h
  · cases h
theorem sh_a_some {t b j q : Nat} (h : sh_a t b j = some q) : b < fm_N ∧ ∃ N g, N < 2147483648 ∧ j < N ∧ fm_sh b = .inr (.inl (t, N, g)) ∧ g j = some q := by
  unfold sh_a at h
  split at h
  · rename_i u N g e
    split at h
    · rename_i h1
      obtain ⟨rfl, h2, h3, h4⟩ := h1
      exact ⟨h2, N, g, h3, h4, e, h⟩
    · cases h
  · cases h
theorem am_ni {x c : Int32} {z : Int} (h : ¬ x = c) (e : c.toInt = z) : x.toInt ≠ z := fun q => h (Int32.toInt_inj.mp (q.trans e.symm))
section PG
variable {C : gC} {r : pR} {pc : Nat} {L : Nat → Option am_V} {rest st As : List am_V} {I : fm_I}
theorem g_none : gW C none pc L st I := fun _ _ _ e => by cases e
theorem g_bn {x : Int32} {kk : Int32 → pR} (k : ∀ y, gW C (kk y) pc L (vI y :: rest) I) : gW C (bn x kk) pc L (vI x :: rest) I := k x
theorem g_iconst {z : Int} {x : Int32} (hd : decode C.1.2.2.1 pc = .ok (.iconst z, 1)) (hv : Int32.ofInt z = x) (kk : gW C r (pc + 1) L (vI x :: rest) I) : gW C r pc L rest I := fun Q v J e q => i_iconst hd hv (kk Q v J e q)
theorem g_bipush {z : Int} {x : Int32} (hd : decode C.1.2.2.1 pc = .ok (.bipush z, 2)) (hv : (Int8.ofInt z).toInt32 = x) (kk : gW C r (pc + 2) L (vI x :: rest) I) : gW C r pc L rest I := fun Q v J e q => i_bipush hd hv (kk Q v J e q)
theorem g_sipush {z : Int} {x : Int32} (hd : decode C.1.2.2.1 pc = .ok (.sipush z, 3)) (hv : (Int16.ofInt z).toInt32 = x) (kk : gW C r (pc + 3) L (vI x :: rest) I) : gW C r pc L rest I := fun Q v J e q => i_sipush hd hv (kk Q v J e q)
theorem g_ldc {index : Nat} {x : Int32} (hd : decode C.1.2.2.1 pc = .ok (.ldc index, 2)) (hw : Cond.constant C.1.1 index x ∈ am_all) (kk : gW C r (pc + 2) L (vI x :: rest) I) : gW C r pc L rest I := fun Q v J e q => i_ldc hd hw (kk Q v J e q)
theorem g_iload_n {k : Fin 4} {i : Nat} {x : Int32} (hd : decode C.1.2.2.1 pc = .ok (.iload_n k, 1)) (hi : (k : Nat) = i) (hL : L i = some (vI x)) (kk : gW C r (pc + 1) L (vI x :: rest) I) : gW C r pc L rest I := fun Q v J e q => i_iload_n hd hi hL (kk Q v J e q)
theorem g_iload {i : Nat} {x : Int32} (hd : decode C.1.2.2.1 pc = .ok (.iload i, 2)) (hL : L i = some (vI x)) (kk : gW C r (pc + 2) L (vI x :: rest) I) : gW C r pc L rest I := fun Q v J e q => i_iload hd hL (kk Q v J e q)
theorem g_istore_n {k : Fin 4} {i : Nat} {x : Int32} (hd : decode C.1.2.2.1 pc = .ok (.istore_n k, 1)) (hi : (k : Nat) = i) (hn : i < C.1.2.2.2.1) (kk : gW C r (pc + 1) (va_up L i (some (vI x))) rest I) : gW C r pc L (vI x :: rest) I := fun Q v J e q => i_istore_n hd hi hn (kk Q v J e q)
theorem g_istore {i : Nat} {x : Int32} (hd : decode C.1.2.2.1 pc = .ok (.istore i, 2)) (hn : i < C.1.2.2.2.1) (kk : gW C r (pc + 2) (va_up L i (some (vI x))) rest I) : gW C r pc L (vI x :: rest) I := fun Q v J e q => i_istore hd hn (kk Q v J e q)
theorem g_aload_n {k : Fin 4} {i : Nat} {x : Nat} (hd : decode C.1.2.2.1 pc = .ok (.aload_n k, 1)) (hi : (k : Nat) = i) (hL : L i = some (vR x)) (kk : gW C r (pc + 1) L (vR x :: rest) I) : gW C r pc L rest I := fun Q v J e q => i_aload_n hd hi hL (kk Q v J e q)
theorem g_aload {i : Nat} {x : Nat} (hd : decode C.1.2.2.1 pc = .ok (.aload i, 2)) (hL : L i = some (vR x)) (kk : gW C r (pc + 2) L (vR x :: rest) I) : gW C r pc L rest I := fun Q v J e q => i_aload hd hL (kk Q v J e q)
theorem g_astore_n {k : Fin 4} {i : Nat} {x : Nat} (hd : decode C.1.2.2.1 pc = .ok (.astore_n k, 1)) (hi : (k : Nat) = i) (hn : i < C.1.2.2.2.1) (kk : gW C r (pc + 1) (va_up L i (some (vR x))) rest I) : gW C r pc L (vR x :: rest) I := fun Q v J e q => i_astore_n hd hi hn (kk Q v J e q)
theorem g_astore {i : Nat} {x : Nat} (hd : decode C.1.2.2.1 pc = .ok (.astore i, 2)) (hn : i < C.1.2.2.2.1) (kk : gW C r (pc + 2) (va_up L i (some (vR x))) rest I) : gW C r pc L (vR x :: rest) I := fun Q v J e q => i_astore hd hn (kk Q v J e q)
theorem g_iinc {i : Nat} {z : Int} {x w : Int32} (hd : decode C.1.2.2.1 pc = .ok (.iinc i z, 3)) (hL : L i = some (vI x)) (hw : Int32.ofInt z = w) (hn : i < C.1.2.2.2.1) (kk : gW C r (pc + 3) (va_up L i (some (vI (x + w)))) rest I) : gW C r pc L rest I := fun Q v J e q => i_iinc hd hL hw rfl hn (kk Q v J e q)
theorem g_iadd {x y : Int32} (hd : decode C.1.2.2.1 pc = .ok (.iadd, 1)) (kk : gW C r (pc + 1) L (vI (x + y) :: rest) I) : gW C r pc L (vI y :: vI x :: rest) I := fun Q v J e q => i_iadd hd rfl (kk Q v J e q)
theorem g_isub {x y : Int32} (hd : decode C.1.2.2.1 pc = .ok (.isub, 1)) (kk : gW C r (pc + 1) L (vI (x - y) :: rest) I) : gW C r pc L (vI y :: vI x :: rest) I := fun Q v J e q => i_isub hd rfl (kk Q v J e q)
theorem g_imul {x y : Int32} (hd : decode C.1.2.2.1 pc = .ok (.imul, 1)) (kk : gW C r (pc + 1) L (vI (x * y) :: rest) I) : gW C r pc L (vI y :: vI x :: rest) I := fun Q v J e q => i_imul hd rfl (kk Q v J e q)
theorem g_iand {x y : Int32} (hd : decode C.1.2.2.1 pc = .ok (.iand, 1)) (kk : gW C r (pc + 1) L (vI (x &&& y) :: rest) I) : gW C r pc L (vI y :: vI x :: rest) I := fun Q v J e q => i_iand hd rfl (kk Q v J e q)
theorem g_ior {x y : Int32} (hd : decode C.1.2.2.1 pc = .ok (.ior, 1)) (kk : gW C r (pc + 1) L (vI (x ||| y) :: rest) I) : gW C r pc L (vI y :: vI x :: rest) I := fun Q v J e q => i_ior hd rfl (kk Q v J e q)
theorem g_ixor {x y : Int32} (hd : decode C.1.2.2.1 pc = .ok (.ixor, 1)) (kk : gW C r (pc + 1) L (vI (x ^^^ y) :: rest) I) : gW C r pc L (vI y :: vI x :: rest) I := fun Q v J e q => i_ixor hd rfl (kk Q v J e q)
theorem g_ishl {x y : Int32} (hd : decode C.1.2.2.1 pc = .ok (.ishl, 1)) (kk : gW C r (pc + 1) L (vI (x <<< (y &&& 31)) :: rest) I) : gW C r pc L (vI y :: vI x :: rest) I := fun Q v J e q => i_ishl hd rfl (kk Q v J e q)
theorem g_ishr {x y : Int32} (hd : decode C.1.2.2.1 pc = .ok (.ishr, 1)) (kk : gW C r (pc + 1) L (vI (x >>> (y &&& 31)) :: rest) I) : gW C r pc L (vI y :: vI x :: rest) I := fun Q v J e q => i_ishr hd rfl (kk Q v J e q)
theorem g_iushr {x y : Int32} (hd : decode C.1.2.2.1 pc = .ok (.iushr, 1)) (kk : gW C r (pc + 1) L (vI ((x.toUInt32 >>> (y.toUInt32 &&& Int32.toUInt32 31)).toInt32) :: rest) I) : gW C r pc L (vI y :: vI x :: rest) I := fun Q v J e q => i_iushr hd rfl (kk Q v J e q)
theorem g_idiv {x y : Int32} (hd : decode C.1.2.2.1 pc = .ok (.idiv, 1)) (hne : ¬ y = 0) (kk : gW C r (pc + 1) L (vI (x / y) :: rest) I) : gW C r pc L (vI y :: vI x :: rest) I := fun Q v J e q => i_idiv hd hne rfl (kk Q v J e q)
theorem g_irem {x y : Int32} (hd : decode C.1.2.2.1 pc = .ok (.irem, 1)) (hne : ¬ y = 0) (kk : gW C r (pc + 1) L (vI (x - x / y * y) :: rest) I) : gW C r pc L (vI y :: vI x :: rest) I := fun Q v J e q => i_irem hd hne rfl (kk Q v J e q)
theorem g_ineg {x : Int32} (hd : decode C.1.2.2.1 pc = .ok (.ineg, 1)) (kk : gW C r (pc + 1) L (vI (-x) :: rest) I) : gW C r pc L (vI x :: rest) I := fun Q v J e q => i_ineg hd rfl (kk Q v J e q)
theorem g_dup {a : am_V} (hd : decode C.1.2.2.1 pc = .ok (.dup, 1)) (kk : gW C r (pc + 1) L (a :: a :: rest) I) : gW C r pc L (a :: rest) I := fun Q v J e q => i_dup hd (kk Q v J e q)
theorem g_pop {a : am_V} (hd : decode C.1.2.2.1 pc = .ok (.pop, 1)) (kk : gW C r (pc + 1) L rest I) : gW C r pc L (a :: rest) I := fun Q v J e q => i_pop hd (kk Q v J e q)
theorem g_dup_x1 {a b : am_V} (hd : decode C.1.2.2.1 pc = .ok (.dup_x1, 1)) (kk : gW C r (pc + 1) L (a :: b :: a :: rest) I) : gW C r pc L (a :: b :: rest) I := fun Q v J e q => i_dup_x1 hd (kk Q v J e q)
theorem g_dup2 {a b : am_V} (hd : decode C.1.2.2.1 pc = .ok (.dup2, 1)) (kk : gW C r (pc + 1) L (a :: b :: a :: b :: rest) I) : gW C r pc L (a :: b :: rest) I := fun Q v J e q => i_dup2 hd (kk Q v J e q)
theorem g_goto {off : Int} {tgt : Nat} (hd : decode C.1.2.2.1 pc = .ok (.goto off, 3)) (ht : (pc : Int) + off = (tgt : Int)) (kk : gW C r tgt L rest I) : gW C r pc L rest I := fun Q v J e q => i_goto hd ht (kk Q v J e q)
theorem g_ifeq {x : Int32} {off : Int} {tgt : Nat} {a b : pR} (hd : decode C.1.2.2.1 pc = .ok (.ifCond .eq off, 3)) (ht : (pc : Int) + off = (tgt : Int)) (kt : gW C a tgt L rest I) (kf : gW C b (pc + 3) L rest I) : gW C (if x = 0 then a else b) pc L (vI x :: rest) I := fun Q v J e q => i_ifeq hd ht (fun c => kt Q v J (by rw [if_pos c] at e; exact e) q) (fun c => kf Q v J (by rw [if_neg c] at e; exact e) q)
theorem g_icmpeq {x y : Int32} {off : Int} {tgt : Nat} {a b : pR} (hd : decode C.1.2.2.1 pc = .ok (.if_icmp .eq off, 3)) (ht : (pc : Int) + off = (tgt : Int)) (kt : gW C a tgt L rest I) (kf : gW C b (pc + 3) L rest I) : gW C (if x = y then a else b) pc L (vI y :: vI x :: rest) I := fun Q v J e q => i_icmpeq hd ht (fun c => kt Q v J (by rw [if_pos c] at e; exact e) q) (fun c => kf Q v J (by rw [if_neg c] at e; exact e) q)
theorem g_ifne {x : Int32} {off : Int} {tgt : Nat} {a b : pR} (hd : decode C.1.2.2.1 pc = .ok (.ifCond .ne off, 3)) (ht : (pc : Int) + off = (tgt : Int)) (kt : gW C a tgt L rest I) (kf : gW C b (pc + 3) L rest I) : gW C (if x = 0 then b else a) pc L (vI x :: rest) I := fun Q v J e q => i_ifne hd ht (fun c => kt Q v J (by rw [if_neg c] at e; exact e) q) (fun c => kf Q v J (by rw [if_pos c] at e; exact e) q)
theorem g_icmpne {x y : Int32} {off : Int} {tgt : Nat} {a b : pR} (hd : decode C.1.2.2.1 pc = .ok (.if_icmp .ne off, 3)) (ht : (pc : Int) + off = (tgt : Int)) (kt : gW C a tgt L rest I) (kf : gW C b (pc + 3) L rest I) : gW C (if x = y then b else a) pc L (vI y :: vI x :: rest) I := fun Q v J e q => i_icmpne hd ht (fun c => kt Q v J (by rw [if_neg c] at e; exact e) q) (fun c => kf Q v J (by rw [if_pos c] at e; exact e) q)
theorem g_iflt {x : Int32} {off : Int} {tgt : Nat} {a b : pR} (hd : decode C.1.2.2.1 pc = .ok (.ifCond .lt off, 3)) (ht : (pc : Int) + off = (tgt : Int)) (kt : gW C a tgt L rest I) (kf : gW C b (pc + 3) L rest I) : gW C (if x < 0 then a else b) pc L (vI x :: rest) I := fun Q v J e q => i_iflt hd ht (fun c => kt Q v J (by rw [if_pos c] at e; exact e) q) (fun c => kf Q v J (by rw [if_neg c] at e; exact e) q)
theorem g_icmplt {x y : Int32} {off : Int} {tgt : Nat} {a b : pR} (hd : decode C.1.2.2.1 pc = .ok (.if_icmp .lt off, 3)) (ht : (pc : Int) + off = (tgt : Int)) (kt : gW C a tgt L rest I) (kf : gW C b (pc + 3) L rest I) : gW C (if x < y then a else b) pc L (vI y :: vI x :: rest) I := fun Q v J e q => i_icmplt hd ht (fun c => kt Q v J (by rw [if_pos c] at e; exact e) q) (fun c => kf Q v J (by rw [if_neg c] at e; exact e) q)
theorem g_ifge {x : Int32} {off : Int} {tgt : Nat} {a b : pR} (hd : decode C.1.2.2.1 pc = .ok (.ifCond .ge off, 3)) (ht : (pc : Int) + off = (tgt : Int)) (kt : gW C a tgt L rest I) (kf : gW C b (pc + 3) L rest I) : gW C (if 0 ≤ x then a else b) pc L (vI x :: rest) I := fun Q v J e q => i_ifge hd ht (fun c => kt Q v J (by rw [if_pos c] at e; exact e) q) (fun c => kf Q v J (by rw [if_neg c] at e; exact e) q)
theorem g_icmpge {x y : Int32} {off : Int} {tgt : Nat} {a b : pR} (hd : decode C.1.2.2.1 pc = .ok (.if_icmp .ge off, 3)) (ht : (pc : Int) + off = (tgt : Int)) (kt : gW C a tgt L rest I) (kf : gW C b (pc + 3) L rest I) : gW C (if y ≤ x then a else b) pc L (vI y :: vI x :: rest) I := fun Q v J e q => i_icmpge hd ht (fun c => kt Q v J (by rw [if_pos c] at e; exact e) q) (fun c => kf Q v J (by rw [if_neg c] at e; exact e) q)
theorem g_ifgt {x : Int32} {off : Int} {tgt : Nat} {a b : pR} (hd : decode C.1.2.2.1 pc = .ok (.ifCond .gt off, 3)) (ht : (pc : Int) + off = (tgt : Int)) (kt : gW C a tgt L rest I) (kf : gW C b (pc + 3) L rest I) : gW C (if 0 < x then a else b) pc L (vI x :: rest) I := fun Q v J e q => i_ifgt hd ht (fun c => kt Q v J (by rw [if_pos c] at e; exact e) q) (fun c => kf Q v J (by rw [if_neg c] at e; exact e) q)
theorem g_icmpgt {x y : Int32} {off : Int} {tgt : Nat} {a b : pR} (hd : decode C.1.2.2.1 pc = .ok (.if_icmp .gt off, 3)) (ht : (pc : Int) + off = (tgt : Int)) (kt : gW C a tgt L rest I) (kf : gW C b (pc + 3) L rest I) : gW C (if y < x then a else b) pc L (vI y :: vI x :: rest) I := fun Q v J e q => i_icmpgt hd ht (fun c => kt Q v J (by rw [if_pos c] at e; exact e) q) (fun c => kf Q v J (by rw [if_neg c] at e; exact e) q)
theorem g_ifle {x : Int32} {off : Int} {tgt : Nat} {a b : pR} (hd : decode C.1.2.2.1 pc = .ok (.ifCond .le off, 3)) (ht : (pc : Int) + off = (tgt : Int)) (kt : gW C a tgt L rest I) (kf : gW C b (pc + 3) L rest I) : gW C (if x ≤ 0 then a else b) pc L (vI x :: rest) I := fun Q v J e q => i_ifle hd ht (fun c => kt Q v J (by rw [if_pos c] at e; exact e) q) (fun c => kf Q v J (by rw [if_neg c] at e; exact e) q)
theorem g_icmple {x y : Int32} {off : Int} {tgt : Nat} {a b : pR} (hd : decode C.1.2.2.1 pc = .ok (.if_icmp .le off, 3)) (ht : (pc : Int) + off = (tgt : Int)) (kt : gW C a tgt L rest I) (kf : gW C b (pc + 3) L rest I) : gW C (if x ≤ y then a else b) pc L (vI y :: vI x :: rest) I := fun Q v J e q => i_icmple hd ht (fun c => kt Q v J (by rw [if_pos c] at e; exact e) q) (fun c => kf Q v J (by rw [if_neg c] at e; exact e) q)
theorem g_sw {x c : Int32} {a b : pR} (k1 : x = c → gW C a pc L (vI x :: rest) I) (k2 : ¬ x = c → gW C b pc L (vI x :: rest) I) : gW C (if x = c then a else b) pc L (vI x :: rest) I := by
  by_cases h : x = c
  · rw [if_pos h]; exact k1 h
  · rw [if_neg h]; exact k2 h
theorem g_tin {dflt lo hi : Int} {offs : Array Int} {len : Nat} {x c : Int32} {off : Int} {tgt : Nat} (hx : x = c) (hd : decode C.1.2.2.1 pc = .ok (.tableswitch dflt lo hi offs, len)) (h1 : ¬ c.toInt < lo) (h2 : ¬ hi < c.toInt) (ho : offs[(c.toInt - lo).toNat]? = some off) (ht : (pc : Int) + off = (tgt : Int)) (kk : gW C r tgt L rest I) : gW C r pc L (vI x :: rest) I := by
  subst hx
  exact fun Q v J e q => i_tableIn hd h1 h2 ho ht (kk Q v J e q)
theorem g_tout {dflt lo hi : Int} {offs : Array Int} {len : Nat} {x : Int32} {tgt : Nat} (hd : decode C.1.2.2.1 pc = .ok (.tableswitch dflt lo hi offs, len)) (hx : x.toInt < lo ∨ hi < x.toInt) (ht : (pc : Int) + dflt = (tgt : Int)) (kk : gW C r tgt L rest I) : gW C r pc L (vI x :: rest) I := fun Q v J e q => i_tableOut hd hx ht (kk Q v J e q)
theorem g_iret {x : Int32} (hd : decode C.1.2.2.1 pc = .ok (.ireturn, 1)) (hty : C.1.2.2.2.2 = some .int) (hc : C.2.2.2.2.2.1 ≤ C.2.2.1) (hs : C.2.2.2.2.2.2 ≤ C.2.2.2.1) : gW C (ri x I) pc L [vI x] I := fun Q v J e q => by
  cases e
  exact i_iret hd hty (vp_nar_int x) hc hs ⟨rfl, I, rfl, q⟩
theorem g_zret {x : Int32} (hd : decode C.1.2.2.1 pc = .ok (.ireturn, 1)) (hty : C.1.2.2.2.2 = some .boolean) (hc : C.2.2.2.2.2.1 ≤ C.2.2.1) (hs : C.2.2.2.2.2.2 ≤ C.2.2.2.1) : gW C (rz x I) pc L [vI x] I := fun Q v J e q => by
  unfold rz at e
  split at e
  · rename_i hx
    cases e
    exact i_iret hd hty (congrArg Value.int hx) hc hs ⟨rfl, I, rfl, q⟩
  · cases e
theorem g_ret (hd : decode C.1.2.2.1 pc = .ok (.return_, 1)) (hty : C.1.2.2.2.2 = none) (hc : C.2.2.2.2.2.1 ≤ C.2.2.1) (hs : C.2.2.2.2.2.2 ≤ C.2.2.2.1) : gW C (rv I) pc L [] I := fun Q v J e q => by
  cases e
  exact i_ret hd hty hc hs ⟨rfl, I, rfl, q⟩
theorem g_gi {ci index b k : Nat} {kk : Int32 → pR} (hd : decode C.1.2.2.1 pc = .ok (.getfield index, 3)) (hf : fk C.1.1 index ci k) (h : ∀ x, gW C (kk x) (pc + 3) L (vI x :: rest) I) : gW C (gi ci b k I kk) pc L (vR b :: rest) I := fun Q v J e q => by
  obtain ⟨Cn, T, N, h1, h2, h3, h4⟩ := hf
  unfold gi at e
  split at e
  · rename_i hs
    obtain ⟨hb, fs, hs, hk⟩ := sh_i_some hs
    exact f_geti hd h1 h2 h3 h4 hk hb hs rfl (h _ Q v J e q)
  · cases e
theorem g_gr {ci index b k : Nat} {kk : Nat → pR} (hd : decode C.1.2.2.1 pc = .ok (.getfield index, 3)) (hf : fk C.1.1 index ci k) (h : ∀ x, gW C (kk x) (pc + 3) L (vR x :: rest) I) : gW C (gr ci b k kk) pc L (vR b :: rest) I := fun Q v J e q => by
  obtain ⟨Cn, T, N, h1, h2, h3, h4⟩ := hf
  unfold gr at e
  split at e
  · rename_i y hs
    obtain ⟨hb, fs, hs, hk⟩ := sh_r_some hs
    exact f_getr hd h1 h2 h3 h4 hk hb hs (h _ Q v J e q)
  · cases e
theorem g_pI {ci index b k : Nat} {x : Int32} {kk : fm_I → pR} (hd : decode C.1.2.2.1 pc = .ok (.putfield index, 3)) (hf : fp C.1.1 index ci k .int) (h : ∀ J, gW C (kk J) (pc + 3) L rest J) : gW C (pI ci b k x I kk) pc L (vI x :: vR b :: rest) I := fun Q v J e q => by
  obtain ⟨Cn, T, N, ty0, h1, h2, h3, h4, h5, h6, h7, h8⟩ := hf
  unfold pI at e
  split at e
  · rename_i hs
    obtain ⟨hb, fs, hs, hk⟩ := sh_i_some hs
    exact f_puti ty0 h5 h6 hd h1 h2 h3 h4 h7 h8 hk (vp_nar_int x) rfl hb hs (h _ Q v J e q)
  · cases e
theorem g_pZ {ci index b k : Nat} {x : Int32} {kk : fm_I → pR} (hd : decode C.1.2.2.1 pc = .ok (.putfield index, 3)) (hf : fp C.1.1 index ci k .boolean) (h : ∀ J, gW C (kk J) (pc + 3) L rest J) : gW C (pZ ci b k x I kk) pc L (vI x :: vR b :: rest) I := fun Q v J e q => by
  obtain ⟨Cn, T, N, ty0, h1, h2, h3, h4, h5, h6, h7, h8⟩ := hf
  unfold pZ at e
  split at e
  · rename_i hs
    obtain ⟨hs, hx⟩ := hs
    obtain ⟨hb, fs, hs, hk⟩ := sh_i_some hs
    exact f_puti ty0 h5 h6 hd h1 h2 h3 h4 h7 h8 hk (congrArg Value.int hx) (by rw [← hx]; exact am_fitz x) hb hs (h _ Q v J e q)
  · cases e
theorem g_ldI {b : Nat} {i : Int32} {kk : Int32 → pR} (hd : decode C.1.2.2.1 pc = .ok (.iaload, 1)) (h : ∀ x, gW C (kk x) (pc + 1) L (vI x :: rest) I) : gW C (ld 0 b i I kk) pc L (vI i :: vR b :: rest) I := fun Q v J e q => by
  unfold ld at e
  split at e
  · rename_i N hs
    obtain ⟨hb, hN, hs⟩ := sh_n_some hs
    split at e
    · cases e
    · rename_i hi
      exact i_iald (f := I b) hd hb (by show fm_c (fm_sh b) (I b) = _; rw [hs]; rfl) hi (h _ Q v J e q)
  · cases e
theorem g_ldZ {b : Nat} {i : Int32} {kk : Int32 → pR} (hd : decode C.1.2.2.1 pc = .ok (.baload, 1)) (h : ∀ x, gW C (kk x) (pc + 1) L (vI x :: rest) I) : gW C (ld 1 b i I kk) pc L (vI i :: vR b :: rest) I := fun Q v J e q => by
  unfold ld at e
  split at e
  · rename_i N hs
    obtain ⟨hb, hN, hs⟩ := sh_n_some hs
    split at e
    · cases e
    · rename_i hi
      exact i_zald (f := I b) hd hb (by show fm_c (fm_sh b) (I b) = _; rw [hs]; rfl) hi (h _ Q v J e q)
  · cases e
theorem g_sI {b : Nat} {i x : Int32} {kk : fm_I → pR} (hd : decode C.1.2.2.1 pc = .ok (.iastore, 1)) (h : ∀ J, gW C (kk J) (pc + 1) L rest J) : gW C (sI b i x I kk) pc L (vI x :: vI i :: vR b :: rest) I := fun Q v J e q => by
  unfold sI at e
  split at e
  · rename_i N hs
    obtain ⟨hb, hN, hs⟩ := sh_n_some hs
    split at e
    · cases e
    · rename_i hi
      have hi2 : vp_in i N := hi
      obtain ⟨j, hj, rfl⟩ := vp_in_of hi2 hN
      rw [nI_clamp (Nat.lt_trans hj hN)] at e
      exact f_iast hd hb hs hN rfl hj (h _ Q v J e q)
  · cases e
theorem g_sZ {b : Nat} {i x : Int32} {kk : fm_I → pR} (hd : decode C.1.2.2.1 pc = .ok (.bastore, 1)) (h : ∀ J, gW C (kk J) (pc + 1) L rest J) : gW C (sZ b i x I kk) pc L (vI x :: vI i :: vR b :: rest) I := fun Q v J e q => by
  unfold sZ at e
  split at e
  · rename_i N hs
    obtain ⟨hb, hN, hs⟩ := sh_n_some hs
    split at e
    · cases e
    · rename_i hi
      have hi2 : vp_in i N := hi
      obtain ⟨j, hj, rfl⟩ := vp_in_of hi2 hN
      rw [nI_clamp (Nat.lt_trans hj hN)] at e
      exact f_zast hd hb hs hN rfl hj rfl (h _ Q v J e q)
  · cases e
theorem g_la2 {b : Nat} {i : Int32} {kk : Nat → pR} (hd : decode C.1.2.2.1 pc = .ok (.aaload, 1)) (h : ∀ x, gW C (kk x) (pc + 1) L (vR x :: rest) I) : gW C (la 2 b i kk) pc L (vI i :: vR b :: rest) I := fun Q v J e q => by
  unfold la at e
  split at e
  · cases e
  · rename_i h0
    split at e
    · rename_i y hs
      obtain ⟨hb, N, g, hN, hj, hs, hy⟩ := sh_a_some hs
      exact i_aald (g := g) hd hb (by show fm_c (fm_sh b) (I b) = _; rw [hs]; rfl) (fun z => z.elim h0 (fun z => absurd hj (by omega))) hy (h _ Q v J e q)
    · cases e
theorem g_la3 {b : Nat} {i : Int32} {kk : Nat → pR} (hd : decode C.1.2.2.1 pc = .ok (.aaload, 1)) (h : ∀ x, gW C (kk x) (pc + 1) L (vR x :: rest) I) : gW C (la 3 b i kk) pc L (vI i :: vR b :: rest) I := fun Q v J e q => by
  unfold la at e
  split at e
  · cases e
  · rename_i h0
    split at e
    · rename_i y hs
      obtain ⟨hb, N, g, hN, hj, hs, hy⟩ := sh_a_some hs
      exact i_aald3 (g := g) hd hb (by show fm_c (fm_sh b) (I b) = _; rw [hs]; rfl) (fun z => z.elim h0 (fun z => absurd hj (by omega))) hy (h _ Q v J e q)
    · cases e
theorem g_ln {b : Nat} {kk : Int32 → pR} (hd : decode C.1.2.2.1 pc = .ok (.arraylength, 1)) (h : ∀ x, gW C (kk x) (pc + 1) L (vI x :: rest) I) : gW C (ln b kk) pc L (vR b :: rest) I := fun Q v J e q => by
  unfold ln at e
  split at e
  · rename_i N hs
    obtain ⟨hb, hN, hs⟩ := sh_n_some hs
    exact f_alen hd hb hs rfl (h _ Q v J e q)
  · cases e
theorem g_sl {S : Nat × (Nat → Int32)} {i : Int32} {kk : Int32 → pR} (hS : C.2.2.2.2.1 = some S) (hd : decode C.1.2.2.1 pc = .ok (.iaload, 1)) (h : ∀ x, gW C (kk x) (pc + 1) L (vI x :: rest) I) : gW C (sl S i kk) pc L (vI i :: vR am_SP :: rest) I := fun Q v J e q => by
  unfold sl at e
  split at e
  · cases e
  · rename_i hi
    exact i_sald (Ln := S.1) (xs := S.2) hS hd hi (h _ Q v J e q)
theorem g_sn {S : Nat × (Nat → Int32)} (hS : C.2.2.2.2.1 = some S) (hd : decode C.1.2.2.1 pc = .ok (.arraylength, 1)) (h : gW C r (pc + 1) L (vI (Int32.ofNat S.1) :: rest) I) : gW C r pc L (vR am_SP :: rest) I := fun Q v J e q => i_slen (Ln := S.1) (xs := S.2) hS hd (h Q v J e q)
theorem g_mx {index : Nat} {x y : Int32} {kk : Int32 → pR} (hd : decode C.1.2.2.1 pc = .ok (.invokestatic index, 3)) (h1 : Cond.methodLink C.1.1 index Lib.Math.max.name ∈ am_all) (hf : 1 ≤ C.2.1) (hr : rest.length ≤ 8) (hc : C.2.2.2.2.2.1 ≤ C.2.2.1) (hs : C.2.2.2.2.2.2 ≤ C.2.2.2.1) (h : ∀ z, gW C (kk z) (pc + 3) L (vI z :: rest) I) : gW C (bn (if x < y then y else x) kk) pc L (vI y :: vI x :: rest) I := fun Q v J e q => i_mmax hd h1 am_mx1 am_mx2 am_mx3 hf hr hc hs (h _ Q v J e q)
variable {M' : am_M} {d' index ci b na : Nat} {f : pR}
theorem g_vi {kk : Int32 → fm_I → pR} (hM : gM M' d' f (vR b :: As) I) (hst : st = As.reverse ++ vR b :: rest) (hn : As.length = na) (hd : decode C.1.2.2.1 pc = .ok (.invokevirtual index, 3)) (hk : ckV C.1.1 index ci na M') (hdd : d' + 1 ≤ C.2.1) (hrs : rest.length ≤ 8) (hc : C.2.2.2.2.2.1 ≤ C.2.2.1) (hs : C.2.2.2.2.2.2 ≤ C.2.2.2.1) (h : ∀ x J, gW C (kk x J) (pc + 3) L (vI x :: rest) J) : gW C (vi ci b f kk) pc L st I := fun Q v J e q => by
  subst hn
  obtain ⟨h1, h2, ⟨h3, h4, h5⟩, h6, T, N, h7⟩ := hk
  unfold vi at e
  split at e
  · rename_i ho
    obtain ⟨hb, fs, ho⟩ := sh_o_some ho
    obtain ⟨x, K, e1, e2⟩ := bi_some e
    exact f_callV (hM _ _ e1) hst hd h1 h2 ⟨rfl, h3, h4, h5⟩ hdd h6 hb ho h7 hrs hc hs (fun w K2 z => by obtain ⟨rfl, rfl⟩ := z; exact h x K2 Q v J e2 q)
  · cases e
theorem g_vv {kk : fm_I → pR} (hM : gM M' d' f (vR b :: As) I) (hst : st = As.reverse ++ vR b :: rest) (hn : As.length = na) (hd : decode C.1.2.2.1 pc = .ok (.invokevirtual index, 3)) (hk : ckV C.1.1 index ci na M') (hdd : d' + 1 ≤ C.2.1) (hrs : rest.length ≤ 8) (hc : C.2.2.2.2.2.1 ≤ C.2.2.1) (hs : C.2.2.2.2.2.2 ≤ C.2.2.2.1) (h : ∀ J, gW C (kk J) (pc + 3) L rest J) : gW C (vv ci b f kk) pc L st I := fun Q v J e q => by
  subst hn
  obtain ⟨h1, h2, ⟨h3, h4, h5⟩, h6, T, N, h7⟩ := hk
  unfold vv at e
  split at e
  · rename_i ho
    obtain ⟨hb, fs, ho⟩ := sh_o_some ho
    obtain ⟨K, e1, e2⟩ := bv_some e
    exact f_callV (hM _ _ e1) hst hd h1 h2 ⟨rfl, h3, h4, h5⟩ hdd h6 hb ho h7 hrs hc hs (fun w K2 z => by obtain ⟨rfl, rfl⟩ := z; exact h K2 Q v J e2 q)
  · cases e
theorem g_si {kk : Int32 → fm_I → pR} (hM : gM M' d' f As I) (hst : st = As.reverse ++ rest) (hn : As.length = na) (hd : decode C.1.2.2.1 pc = .ok (.invokestatic index, 3)) (hk : ckS C.1.1 index na M') (hdd : d' + 1 ≤ C.2.1) (hrs : rest.length ≤ 8) (hc : C.2.2.2.2.2.1 ≤ C.2.2.1) (hs : C.2.2.2.2.2.2 ≤ C.2.2.2.1) (h : ∀ x J, gW C (kk x J) (pc + 3) L (vI x :: rest) J) : gW C (bi f kk) pc L st I := fun Q v J e q => by
  subst hn
  obtain ⟨h1, h2, h3, h6⟩ := hk
  obtain ⟨x, K, e1, e2⟩ := bi_some e
  exact f_callS (hM _ _ e1) hst hd h1 h2 h3 hdd h6 hrs hc hs (fun w K2 z => by obtain ⟨rfl, rfl⟩ := z; exact h x K2 Q v J e2 q)
theorem g_ni {kk : Int32 → fm_I → pR} (hM : gM M' d' f As I) (hst : st = As.reverse ++ rest) (hn : As.length = na) (hd : decode C.1.2.2.1 pc = .ok (.invokestatic index, 3)) (hk : ckN C.1.1 index na M') (hdd : d' + 1 ≤ C.2.1) (hrs : rest.length ≤ 8) (hc : C.2.2.2.2.2.1 ≤ C.2.2.1) (hs : C.2.2.2.2.2.2 ≤ C.2.2.2.1) (h : ∀ x J, gW C (kk x J) (pc + 3) L (vI x :: rest) J) : gW C (bi f kk) pc L st I := fun Q v J e q => by
  subst hn
  obtain ⟨h1, ⟨host, h2⟩, h3, h4, h5, h6⟩ := hk
  obtain ⟨x, K, e1, e2⟩ := bi_some e
  exact f_callSN (hM _ _ e1) hst hd h1 h2 h3 h4 h5 hdd h6 hrs hc hs (fun w K2 z => by obtain ⟨rfl, rfl⟩ := z; exact h x K2 Q v J e2 q)
end PG
