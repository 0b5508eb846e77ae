-- printed by wip/whole/gen/gen_ai.py
section AI
variable {M : am_M} {d mc ms : Nat} {SC : Option (Nat × (Nat → Int32))} {Q : Option am_V → Nat → am_H → Prop} {pc : Nat} {L : Nat → Option am_V} {rest : List am_V} {n : Nat} {h : am_H} {uc us : Nat}
theorem i_iconst {z : Int} {x : Int32} (hd : decode M.2.2.1 pc = .ok (.iconst z, 1)) (hv : Int32.ofInt z = x) (kk : am_AW M d mc ms SC Q (pc + 1) L (vI x :: rest) n h uc us) : am_AW M d mc ms SC Q pc L rest n h uc us := by
  intro p l e R s m args below meth c D tc A Qm ad H locs ls F X hP hD hS hl hret
  exact lv_iconst F.1.1 F.1.2.1 hd hv (kk p l e R s m args below meth c D tc A Qm ad H locs ls F X hP hD hS hl hret)
theorem i_bipush {z : Int} {x : Int32} (hd : decode M.2.2.1 pc = .ok (.bipush z, 2)) (hv : (Int8.ofInt z).toInt32 = x) (kk : am_AW M d mc ms SC Q (pc + 2) L (vI x :: rest) n h uc us) : am_AW M d mc ms SC Q pc L rest n h uc us := by
  intro p l e R s m args below meth c D tc A Qm ad H locs ls F X hP hD hS hl hret
  exact lv_bipush F.1.1 F.1.2.1 hd hv (kk p l e R s m args below meth c D tc A Qm ad H locs ls F X hP hD hS hl hret)
theorem i_sipush {z : Int} {x : Int32} (hd : decode M.2.2.1 pc = .ok (.sipush z, 3)) (hv : (Int16.ofInt z).toInt32 = x) (kk : am_AW M d mc ms SC Q (pc + 3) L (vI x :: rest) n h uc us) : am_AW M d mc ms SC Q pc L rest n h uc us := by
  intro p l e R s m args below meth c D tc A Qm ad H locs ls F X hP hD hS hl hret
  exact lv_sipush F.1.1 F.1.2.1 hd hv (kk p l e R s m args below meth c D tc A Qm ad H locs ls F X hP hD hS hl hret)
theorem i_ldc {index : Nat} {x : Int32} (hd : decode M.2.2.1 pc = .ok (.ldc index, 2)) (hw : Cond.constant M.1 index x ∈ am_all) (kk : am_AW M d mc ms SC Q (pc + 2) L (vI x :: rest) n h uc us) : am_AW M d mc ms SC Q pc L rest n h uc us := by
  intro p l e R s m args below meth c D tc A Qm ad H locs ls F X hP hD hS hl hret
  exact lv_ldc F.1.1 F.1.2.1 F.1.2.2.2.1 (F.1.2.2.2.2 _ hw) hd (kk p l e R s m args below meth c D tc A Qm ad H locs ls F X hP hD hS hl hret)
theorem i_iload_n {k : Fin 4} {i : Nat} {x : Int32} (hd : decode M.2.2.1 pc = .ok (.iload_n k, 1)) (hi : (k : Nat) = i) (hL : L i = some (vI x)) (kk : am_AW M d mc ms SC Q (pc + 1) L (vI x :: rest) n h uc us) : am_AW M d mc ms SC Q pc L rest n h uc us := by
  intro p l e R s m args below meth c D tc A Qm ad H locs ls F X hP hD hS hl hret
  exact lv_iload_n F.1.1 F.1.2.1 hd hi (hl.2.2 i _ hL) (kk p l e R s m args below meth c D tc A Qm ad H locs ls F X hP hD hS hl hret)
theorem i_iload {i : Nat} {x : Int32} (hd : decode M.2.2.1 pc = .ok (.iload i, 2)) (hL : L i = some (vI x)) (kk : am_AW M d mc ms SC Q (pc + 2) L (vI x :: rest) n h uc us) : am_AW M d mc ms SC Q pc L rest n h uc us := by
  intro p l e R s m args below meth c D tc A Qm ad H locs ls F X hP hD hS hl hret
  exact lv_iload F.1.1 F.1.2.1 hd (hl.2.2 i _ hL) (kk p l e R s m args below meth c D tc A Qm ad H locs ls F X hP hD hS hl hret)
theorem i_istore_n {k : Fin 4} {i : Nat} {x : Int32} (hd : decode M.2.2.1 pc = .ok (.istore_n k, 1)) (hi : (k : Nat) = i) (hn : i < M.2.2.2.1) (kk : am_AW M d mc ms SC Q (pc + 1) (va_up L i (some (vI x))) rest n h uc us) : am_AW M d mc ms SC Q pc L (vI x :: rest) n h uc us := by
  intro p l e R s m args below meth c D tc A Qm ad H locs ls F X hP hD hS hl hret
  exact lv_istore_n F.1.1 F.1.2.1 hd hi hl.ll hn rfl (fun ls' hl' => kk p l e R s m args below meth c D tc A Qm ad H locs ls' F X hP hD hS (hl.st (v := vI x) (fun _ q => q) hl') hret)
theorem i_istore {i : Nat} {x : Int32} (hd : decode M.2.2.1 pc = .ok (.istore i, 2)) (hn : i < M.2.2.2.1) (kk : am_AW M d mc ms SC Q (pc + 2) (va_up L i (some (vI x))) rest n h uc us) : am_AW M d mc ms SC Q pc L (vI x :: rest) n h uc us := by
  intro p l e R s m args below meth c D tc A Qm ad H locs ls F X hP hD hS hl hret
  exact lv_istore F.1.1 F.1.2.1 hd hl.ll hn rfl (fun ls' hl' => kk p l e R s m args below meth c D tc A Qm ad H locs ls' F X hP hD hS (hl.st (v := vI x) (fun _ q => q) hl') hret)
theorem i_aload_n {k : Fin 4} {i : Nat} {x : Nat} (hd : decode M.2.2.1 pc = .ok (.aload_n k, 1)) (hi : (k : Nat) = i) (hL : L i = some (vR x)) (kk : am_AW M d mc ms SC Q (pc + 1) L (vR x :: rest) n h uc us) : am_AW M d mc ms SC Q pc L rest n h uc us := by
  intro p l e R s m args below meth c D tc A Qm ad H locs ls F X hP hD hS hl hret
  exact lv_aload_n F.1.1 F.1.2.1 hd hi (hl.2.2 i _ hL) (kk p l e R s m args below meth c D tc A Qm ad H locs ls F X hP hD hS hl hret)
theorem i_aload {i : Nat} {x : Nat} (hd : decode M.2.2.1 pc = .ok (.aload i, 2)) (hL : L i = some (vR x)) (kk : am_AW M d mc ms SC Q (pc + 2) L (vR x :: rest) n h uc us) : am_AW M d mc ms SC Q pc L rest n h uc us := by
  intro p l e R s m args below meth c D tc A Qm ad H locs ls F X hP hD hS hl hret
  exact lv_aload F.1.1 F.1.2.1 hd (hl.2.2 i _ hL) (kk p l e R s m args below meth c D tc A Qm ad H locs ls F X hP hD hS hl hret)
theorem i_astore_n {k : Fin 4} {i : Nat} {x : Nat} (hd : decode M.2.2.1 pc = .ok (.astore_n k, 1)) (hi : (k : Nat) = i) (hn : i < M.2.2.2.1) (kk : am_AW M d mc ms SC Q (pc + 1) (va_up L i (some (vR x))) rest n h uc us) : am_AW M d mc ms SC Q pc L (vR x :: rest) n h uc us := by
  intro p l e R s m args below meth c D tc A Qm ad H locs ls F X hP hD hS hl hret
  exact lv_astore_n F.1.1 F.1.2.1 hd hi hl.ll hn rfl (fun ls' hl' => kk p l e R s m args below meth c D tc A Qm ad H locs ls' F X hP hD hS (hl.st (v := vR x) (fun _ q => q) hl') hret)
theorem i_astore {i : Nat} {x : Nat} (hd : decode M.2.2.1 pc = .ok (.astore i, 2)) (hn : i < M.2.2.2.1) (kk : am_AW M d mc ms SC Q (pc + 2) (va_up L i (some (vR x))) rest n h uc us) : am_AW M d mc ms SC Q pc L (vR x :: rest) n h uc us := by
  intro p l e R s m args below meth c D tc A Qm ad H locs ls F X hP hD hS hl hret
  exact lv_astore F.1.1 F.1.2.1 hd hl.ll hn rfl (fun ls' hl' => kk p l e R s m args below meth c D tc A Qm ad H locs ls' F X hP hD hS (hl.st (v := vR x) (fun _ q => q) hl') hret)
theorem i_iinc {i : Nat} {z : Int} {x y w : Int32} (hd : decode M.2.2.1 pc = .ok (.iinc i z, 3)) (hL : L i = some (vI x)) (hw : Int32.ofInt z = w) (hv : x + w = y) (hn : i < M.2.2.2.1) (kk : am_AW M d mc ms SC Q (pc + 3) (va_up L i (some (vI y))) rest n h uc us) : am_AW M d mc ms SC Q pc L rest n h uc us := by
  intro p l e R s m args below meth c D tc A Qm ad H locs ls F X hP hD hS hl hret
  subst hw; exact lv_iinc (k := 0) F.1.1 F.1.2.1 hd (hl.ll1 hL) rfl hv hn rfl (fun ls' hl' => kk p l e R s m args below meth c D tc A Qm ad H locs ls' F X hP hD hS (hl.st (v := vI y) (fun _ q => List.mem_cons_of_mem _ q) hl') hret)
theorem i_iadd {x y z : Int32} (hd : decode M.2.2.1 pc = .ok (.iadd, 1)) (hv : x + y = z) (kk : am_AW M d mc ms SC Q (pc + 1) L (vI z :: rest) n h uc us) : am_AW M d mc ms SC Q pc L (vI y :: vI x :: rest) n h uc us := by
  intro p l e R s m args below meth c D tc A Qm ad H locs ls F X hP hD hS hl hret
  subst hv; exact lv_iadd F.1.1 F.1.2.1 hd (kk p l e R s m args below meth c D tc A Qm ad H locs ls F X hP hD hS hl hret)
theorem i_isub {x y z : Int32} (hd : decode M.2.2.1 pc = .ok (.isub, 1)) (hv : x - y = z) (kk : am_AW M d mc ms SC Q (pc + 1) L (vI z :: rest) n h uc us) : am_AW M d mc ms SC Q pc L (vI y :: vI x :: rest) n h uc us := by
  intro p l e R s m args below meth c D tc A Qm ad H locs ls F X hP hD hS hl hret
  subst hv; exact lv_isub F.1.1 F.1.2.1 hd (kk p l e R s m args below meth c D tc A Qm ad H locs ls F X hP hD hS hl hret)
theorem i_imul {x y z : Int32} (hd : decode M.2.2.1 pc = .ok (.imul, 1)) (hv : x * y = z) (kk : am_AW M d mc ms SC Q (pc + 1) L (vI z :: rest) n h uc us) : am_AW M d mc ms SC Q pc L (vI y :: vI x :: rest) n h uc us := by
  intro p l e R s m args below meth c D tc A Qm ad H locs ls F X hP hD hS hl hret
  subst hv; exact lv_imul F.1.1 F.1.2.1 hd (kk p l e R s m args below meth c D tc A Qm ad H locs ls F X hP hD hS hl hret)
theorem i_iand {x y z : Int32} (hd : decode M.2.2.1 pc = .ok (.iand, 1)) (hv : x &&& y = z) (kk : am_AW M d mc ms SC Q (pc + 1) L (vI z :: rest) n h uc us) : am_AW M d mc ms SC Q pc L (vI y :: vI x :: rest) n h uc us := by
  intro p l e R s m args below meth c D tc A Qm ad H locs ls F X hP hD hS hl hret
  subst hv; exact lv_iand F.1.1 F.1.2.1 hd (kk p l e R s m args below meth c D tc A Qm ad H locs ls F X hP hD hS hl hret)
theorem i_ior {x y z : Int32} (hd : decode M.2.2.1 pc = .ok (.ior, 1)) (hv : x ||| y = z) (kk : am_AW M d mc ms SC Q (pc + 1) L (vI z :: rest) n h uc us) : am_AW M d mc ms SC Q pc L (vI y :: vI x :: rest) n h uc us := by
  intro p l e R s m args below meth c D tc A Qm ad H locs ls F X hP hD hS hl hret
  subst hv; exact lv_ior F.1.1 F.1.2.1 hd (kk p l e R s m args below meth c D tc A Qm ad H locs ls F X hP hD hS hl hret)
theorem i_ixor {x y z : Int32} (hd : decode M.2.2.1 pc = .ok (.ixor, 1)) (hv : x ^^^ y = z) (kk : am_AW M d mc ms SC Q (pc + 1) L (vI z :: rest) n h uc us) : am_AW M d mc ms SC Q pc L (vI y :: vI x :: rest) n h uc us := by
  intro p l e R s m args below meth c D tc A Qm ad H locs ls F X hP hD hS hl hret
  subst hv; exact lv_ixor F.1.1 F.1.2.1 hd (kk p l e R s m args below meth c D tc A Qm ad H locs ls F X hP hD hS hl hret)
theorem i_ishl {x y z : Int32} (hd : decode M.2.2.1 pc = .ok (.ishl, 1)) (hv : x <<< (y &&& 31) = z) (kk : am_AW M d mc ms SC Q (pc + 1) L (vI z :: rest) n h uc us) : am_AW M d mc ms SC Q pc L (vI y :: vI x :: rest) n h uc us := by
  intro p l e R s m args below meth c D tc A Qm ad H locs ls F X hP hD hS hl hret
  subst hv; exact lv_ishl F.1.1 F.1.2.1 hd (kk p l e R s m args below meth c D tc A Qm ad H locs ls F X hP hD hS hl hret)
theorem i_ishr {x y z : Int32} (hd : decode M.2.2.1 pc = .ok (.ishr, 1)) (hv : x >>> (y &&& 31) = z) (kk : am_AW M d mc ms SC Q (pc + 1) L (vI z :: rest) n h uc us) : am_AW M d mc ms SC Q pc L (vI y :: vI x :: rest) n h uc us := by
  intro p l e R s m args below meth c D tc A Qm ad H locs ls F X hP hD hS hl hret
  subst hv; exact lv_ishr F.1.1 F.1.2.1 hd (kk p l e R s m args below meth c D tc A Qm ad H locs ls F X hP hD hS hl hret)
theorem i_idiv {x y z : Int32} (hd : decode M.2.2.1 pc = .ok (.idiv, 1)) (hne : ¬ y = 0) (hv : x / y = z) (kk : am_AW M d mc ms SC Q (pc + 1) L (vI z :: rest) n h uc us) : am_AW M d mc ms SC Q pc L (vI y :: vI x :: rest) n h uc us := by
  intro p l e R s m args below meth c D tc A Qm ad H locs ls F X hP hD hS hl hret
  subst hv; exact lv_idiv F.1.1 F.1.2.1 hd hne (kk p l e R s m args below meth c D tc A Qm ad H locs ls F X hP hD hS hl hret)
theorem i_irem {x y z : Int32} (hd : decode M.2.2.1 pc = .ok (.irem, 1)) (hne : ¬ y = 0) (hv : x - x / y * y = z) (kk : am_AW M d mc ms SC Q (pc + 1) L (vI z :: rest) n h uc us) : am_AW M d mc ms SC Q pc L (vI y :: vI x :: rest) n h uc us := by
  intro p l e R s m args below meth c D tc A Qm ad H locs ls F X hP hD hS hl hret
  subst hv; exact lv_irem F.1.1 F.1.2.1 hd hne (kk p l e R s m args below meth c D tc A Qm ad H locs ls F X hP hD hS hl hret)
theorem i_iushr {x y z : Int32} (hd : decode M.2.2.1 pc = .ok (.iushr, 1)) (hv : (x.toUInt32 >>> (y.toUInt32 &&& Int32.toUInt32 31)).toInt32 = z) (kk : am_AW M d mc ms SC Q (pc + 1) L (vI z :: rest) n h uc us) : am_AW M d mc ms SC Q pc L (vI y :: vI x :: rest) n h uc us := by
  intro p l e R s m args below meth c D tc A Qm ad H locs ls F X hP hD hS hl hret
  exact lv_iushr F.1.1 F.1.2.1 hd hv (kk p l e R s m args below meth c D tc A Qm ad H locs ls F X hP hD hS hl hret)
theorem i_ineg {x z : Int32} (hd : decode M.2.2.1 pc = .ok (.ineg, 1)) (hv : -x = z) (kk : am_AW M d mc ms SC Q (pc + 1) L (vI z :: rest) n h uc us) : am_AW M d mc ms SC Q pc L (vI x :: rest) n h uc us := by
  intro p l e R s m args below meth c D tc A Qm ad H locs ls F X hP hD hS hl hret
  subst hv; exact lv_ineg F.1.1 F.1.2.1 hd (kk p l e R s m args below meth c D tc A Qm ad H locs ls F X hP hD hS hl hret)
theorem i_dup {a : am_V} (hd : decode M.2.2.1 pc = .ok (.dup, 1)) (kk : am_AW M d mc ms SC Q (pc + 1) L (a :: a :: rest) n h uc us) : am_AW M d mc ms SC Q pc L (a :: rest) n h uc us := by
  intro p l e R s m args below meth c D tc A Qm ad H locs ls F X hP hD hS hl hret
  exact lv_dup F.1.1 F.1.2.1 hd (am_cv_cat ad a) (kk p l e R s m args below meth c D tc A Qm ad H locs ls F X hP hD hS hl hret)
theorem i_pop {a : am_V} (hd : decode M.2.2.1 pc = .ok (.pop, 1)) (kk : am_AW M d mc ms SC Q (pc + 1) L rest n h uc us) : am_AW M d mc ms SC Q pc L (a :: rest) n h uc us := by
  intro p l e R s m args below meth c D tc A Qm ad H locs ls F X hP hD hS hl hret
  exact lv_pop F.1.1 F.1.2.1 hd (am_cv_cat ad a) (kk p l e R s m args below meth c D tc A Qm ad H locs ls F X hP hD hS hl hret)
theorem i_dup_x1 {a b : am_V} (hd : decode M.2.2.1 pc = .ok (.dup_x1, 1)) (kk : am_AW M d mc ms SC Q (pc + 1) L (a :: b :: a :: rest) n h uc us) : am_AW M d mc ms SC Q pc L (a :: b :: rest) n h uc us := by
  intro p l e R s m args below meth c D tc A Qm ad H locs ls F X hP hD hS hl hret
  exact lv_dup_x1 F.1.1 F.1.2.1 hd (am_cv_cat ad a) (am_cv_cat ad b) (kk p l e R s m args below meth c D tc A Qm ad H locs ls F X hP hD hS hl hret)
theorem i_dup2 {a b : am_V} (hd : decode M.2.2.1 pc = .ok (.dup2, 1)) (kk : am_AW M d mc ms SC Q (pc + 1) L (a :: b :: a :: b :: rest) n h uc us) : am_AW M d mc ms SC Q pc L (a :: b :: rest) n h uc us := by
  intro p l e R s m args below meth c D tc A Qm ad H locs ls F X hP hD hS hl hret
  exact lv_dup2_11 F.1.1 F.1.2.1 hd (am_cv_cat ad a) (am_cv_cat ad b) (kk p l e R s m args below meth c D tc A Qm ad H locs ls F X hP hD hS hl hret)
theorem i_ifeq {x : Int32} {off : Int} {tgt : Nat} (hd : decode M.2.2.1 pc = .ok (.ifCond .eq off, 3)) (ht : (pc : Int) + off = (tgt : Int)) (kt : x = 0 → am_AW M d mc ms SC Q tgt L rest n h uc us) (kf : ¬ x = 0 → am_AW M d mc ms SC Q (pc + 3) L rest n h uc us) : am_AW M d mc ms SC Q pc L (vI x :: rest) n h uc us := by
  intro p l e R s m args below meth c D tc A Qm ad H locs ls F X hP hD hS hl hret
  exact lv_if_eq F.1.1 F.1.2.1 hd ht (fun q => kt q p l e R s m args below meth c D tc A Qm ad H locs ls F X hP hD hS hl hret) (fun q => kf q p l e R s m args below meth c D tc A Qm ad H locs ls F X hP hD hS hl hret)
theorem i_icmpeq {x y : Int32} {off : Int} {tgt : Nat} (hd : decode M.2.2.1 pc = .ok (.if_icmp .eq off, 3)) (ht : (pc : Int) + off = (tgt : Int)) (kt : x = y → am_AW M d mc ms SC Q tgt L rest n h uc us) (kf : ¬ x = y → am_AW M d mc ms SC Q (pc + 3) L rest n h uc us) : am_AW M d mc ms SC Q pc L (vI y :: vI x :: rest) n h uc us := by
  intro p l e R s m args below meth c D tc A Qm ad H locs ls F X hP hD hS hl hret
  exact lv_icmp_eq F.1.1 F.1.2.1 hd ht (fun q => kt q p l e R s m args below meth c D tc A Qm ad H locs ls F X hP hD hS hl hret) (fun q => kf q p l e R s m args below meth c D tc A Qm ad H locs ls F X hP hD hS hl hret)
theorem i_ifne {x : Int32} {off : Int} {tgt : Nat} (hd : decode M.2.2.1 pc = .ok (.ifCond .ne off, 3)) (ht : (pc : Int) + off = (tgt : Int)) (kt : ¬ x = 0 → am_AW M d mc ms SC Q tgt L rest n h uc us) (kf : x = 0 → am_AW M d mc ms SC Q (pc + 3) L rest n h uc us) : am_AW M d mc ms SC Q pc L (vI x :: rest) n h uc us := by
  intro p l e R s m args below meth c D tc A Qm ad H locs ls F X hP hD hS hl hret
  exact lv_if_ne F.1.1 F.1.2.1 hd ht (fun q => kt q p l e R s m args below meth c D tc A Qm ad H locs ls F X hP hD hS hl hret) (fun q => kf q p l e R s m args below meth c D tc A Qm ad H locs ls F X hP hD hS hl hret)
theorem i_icmpne {x y : Int32} {off : Int} {tgt : Nat} (hd : decode M.2.2.1 pc = .ok (.if_icmp .ne off, 3)) (ht : (pc : Int) + off = (tgt : Int)) (kt : ¬ x = y → am_AW M d mc ms SC Q tgt L rest n h uc us) (kf : x = y → am_AW M d mc ms SC Q (pc + 3) L rest n h uc us) : am_AW M d mc ms SC Q pc L (vI y :: vI x :: rest) n h uc us := by
  intro p l e R s m args below meth c D tc A Qm ad H locs ls F X hP hD hS hl hret
  exact lv_icmp_ne F.1.1 F.1.2.1 hd ht (fun q => kt q p l e R s m args below meth c D tc A Qm ad H locs ls F X hP hD hS hl hret) (fun q => kf q p l e R s m args below meth c D tc A Qm ad H locs ls F X hP hD hS hl hret)
theorem i_iflt {x : Int32} {off : Int} {tgt : Nat} (hd : decode M.2.2.1 pc = .ok (.ifCond .lt off, 3)) (ht : (pc : Int) + off = (tgt : Int)) (kt : x < 0 → am_AW M d mc ms SC Q tgt L rest n h uc us) (kf : ¬ x < 0 → am_AW M d mc ms SC Q (pc + 3) L rest n h uc us) : am_AW M d mc ms SC Q pc L (vI x :: rest) n h uc us := by
  intro p l e R s m args below meth c D tc A Qm ad H locs ls F X hP hD hS hl hret
  exact lv_if_lt F.1.1 F.1.2.1 hd ht (fun q => kt q p l e R s m args below meth c D tc A Qm ad H locs ls F X hP hD hS hl hret) (fun q => kf q p l e R s m args below meth c D tc A Qm ad H locs ls F X hP hD hS hl hret)
theorem i_icmplt {x y : Int32} {off : Int} {tgt : Nat} (hd : decode M.2.2.1 pc = .ok (.if_icmp .lt off, 3)) (ht : (pc : Int) + off = (tgt : Int)) (kt : x < y → am_AW M d mc ms SC Q tgt L rest n h uc us) (kf : ¬ x < y → am_AW M d mc ms SC Q (pc + 3) L rest n h uc us) : am_AW M d mc ms SC Q pc L (vI y :: vI x :: rest) n h uc us := by
  intro p l e R s m args below meth c D tc A Qm ad H locs ls F X hP hD hS hl hret
  exact lv_icmp_lt F.1.1 F.1.2.1 hd ht (fun q => kt q p l e R s m args below meth c D tc A Qm ad H locs ls F X hP hD hS hl hret) (fun q => kf q p l e R s m args below meth c D tc A Qm ad H locs ls F X hP hD hS hl hret)
theorem i_ifge {x : Int32} {off : Int} {tgt : Nat} (hd : decode M.2.2.1 pc = .ok (.ifCond .ge off, 3)) (ht : (pc : Int) + off = (tgt : Int)) (kt : 0 ≤ x → am_AW M d mc ms SC Q tgt L rest n h uc us) (kf : ¬ 0 ≤ x → am_AW M d mc ms SC Q (pc + 3) L rest n h uc us) : am_AW M d mc ms SC Q pc L (vI x :: rest) n h uc us := by
  intro p l e R s m args below meth c D tc A Qm ad H locs ls F X hP hD hS hl hret
  exact lv_if_ge F.1.1 F.1.2.1 hd ht (fun q => kt q p l e R s m args below meth c D tc A Qm ad H locs ls F X hP hD hS hl hret) (fun q => kf q p l e R s m args below meth c D tc A Qm ad H locs ls F X hP hD hS hl hret)
theorem i_icmpge {x y : Int32} {off : Int} {tgt : Nat} (hd : decode M.2.2.1 pc = .ok (.if_icmp .ge off, 3)) (ht : (pc : Int) + off = (tgt : Int)) (kt : y ≤ x → am_AW M d mc ms SC Q tgt L rest n h uc us) (kf : ¬ y ≤ x → am_AW M d mc ms SC Q (pc + 3) L rest n h uc us) : am_AW M d mc ms SC Q pc L (vI y :: vI x :: rest) n h uc us := by
  intro p l e R s m args below meth c D tc A Qm ad H locs ls F X hP hD hS hl hret
  exact lv_icmp_ge F.1.1 F.1.2.1 hd ht (fun q => kt q p l e R s m args below meth c D tc A Qm ad H locs ls F X hP hD hS hl hret) (fun q => kf q p l e R s m args below meth c D tc A Qm ad H locs ls F X hP hD hS hl hret)
theorem i_ifgt {x : Int32} {off : Int} {tgt : Nat} (hd : decode M.2.2.1 pc = .ok (.ifCond .gt off, 3)) (ht : (pc : Int) + off = (tgt : Int)) (kt : 0 < x → am_AW M d mc ms SC Q tgt L rest n h uc us) (kf : ¬ 0 < x → am_AW M d mc ms SC Q (pc + 3) L rest n h uc us) : am_AW M d mc ms SC Q pc L (vI x :: rest) n h uc us := by
  intro p l e R s m args below meth c D tc A Qm ad H locs ls F X hP hD hS hl hret
  exact lv_if_gt F.1.1 F.1.2.1 hd ht (fun q => kt q p l e R s m args below meth c D tc A Qm ad H locs ls F X hP hD hS hl hret) (fun q => kf q p l e R s m args below meth c D tc A Qm ad H locs ls F X hP hD hS hl hret)
theorem i_icmpgt {x y : Int32} {off : Int} {tgt : Nat} (hd : decode M.2.2.1 pc = .ok (.if_icmp .gt off, 3)) (ht : (pc : Int) + off = (tgt : Int)) (kt : y < x → am_AW M d mc ms SC Q tgt L rest n h uc us) (kf : ¬ y < x → am_AW M d mc ms SC Q (pc + 3) L rest n h uc us) : am_AW M d mc ms SC Q pc L (vI y :: vI x :: rest) n h uc us := by
  intro p l e R s m args below meth c D tc A Qm ad H locs ls F X hP hD hS hl hret
  exact lv_icmp_gt F.1.1 F.1.2.1 hd ht (fun q => kt q p l e R s m args below meth c D tc A Qm ad H locs ls F X hP hD hS hl hret) (fun q => kf q p l e R s m args below meth c D tc A Qm ad H locs ls F X hP hD hS hl hret)
theorem i_ifle {x : Int32} {off : Int} {tgt : Nat} (hd : decode M.2.2.1 pc = .ok (.ifCond .le off, 3)) (ht : (pc : Int) + off = (tgt : Int)) (kt : x ≤ 0 → am_AW M d mc ms SC Q tgt L rest n h uc us) (kf : ¬ x ≤ 0 → am_AW M d mc ms SC Q (pc + 3) L rest n h uc us) : am_AW M d mc ms SC Q pc L (vI x :: rest) n h uc us := by
  intro p l e R s m args below meth c D tc A Qm ad H locs ls F X hP hD hS hl hret
  exact lv_if_le F.1.1 F.1.2.1 hd ht (fun q => kt q p l e R s m args below meth c D tc A Qm ad H locs ls F X hP hD hS hl hret) (fun q => kf q p l e R s m args below meth c D tc A Qm ad H locs ls F X hP hD hS hl hret)
theorem i_icmple {x y : Int32} {off : Int} {tgt : Nat} (hd : decode M.2.2.1 pc = .ok (.if_icmp .le off, 3)) (ht : (pc : Int) + off = (tgt : Int)) (kt : x ≤ y → am_AW M d mc ms SC Q tgt L rest n h uc us) (kf : ¬ x ≤ y → am_AW M d mc ms SC Q (pc + 3) L rest n h uc us) : am_AW M d mc ms SC Q pc L (vI y :: vI x :: rest) n h uc us := by
  intro p l e R s m args below meth c D tc A Qm ad H locs ls F X hP hD hS hl hret
  exact lv_icmp_le F.1.1 F.1.2.1 hd ht (fun q => kt q p l e R s m args below meth c D tc A Qm ad H locs ls F X hP hD hS hl hret) (fun q => kf q p l e R s m args below meth c D tc A Qm ad H locs ls F X hP hD hS hl hret)
theorem i_goto {off : Int} {tgt : Nat} (hd : decode M.2.2.1 pc = .ok (.goto off, 3)) (ht : (pc : Int) + off = (tgt : Int)) (kk : am_AW M d mc ms SC Q tgt L rest n h uc us) : am_AW M d mc ms SC Q pc L rest n h uc us := by
  intro p l e R s m args below meth c D tc A Qm ad H locs ls F X hP hD hS hl hret
  exact lv_goto F.1.1 F.1.2.1 hd ht (kk p l e R s m args below meth c D tc A Qm ad H locs ls F X hP hD hS hl hret)
theorem i_tableOut {dflt lo hi : Int} {offs : Array Int} {len : Nat} {x : Int32} {tgt : Nat} (hd : decode M.2.2.1 pc = .ok (.tableswitch dflt lo hi offs, len)) (hx : x.toInt < lo ∨ hi < x.toInt) (ht : (pc : Int) + dflt = (tgt : Int)) (kk : am_AW M d mc ms SC Q tgt L rest n h uc us) : am_AW M d mc ms SC Q pc L (vI x :: rest) n h uc us := by
  intro p l e R s m args below meth c D tc A Qm ad H locs ls F X hP hD hS hl hret
  exact lv_tableOut F.1.1 F.1.2.1 hd hx ht (kk p l e R s m args below meth c D tc A Qm ad H locs ls F X hP hD hS hl hret)
theorem i_tableIn {dflt lo hi : Int} {offs : Array Int} {len : Nat} {x : Int32} {off : Int} {tgt : Nat} (hd : decode M.2.2.1 pc = .ok (.tableswitch dflt lo hi offs, len)) (h1 : ¬ x.toInt < lo) (h2 : ¬ hi < x.toInt) (ho : offs[(x.toInt - lo).toNat]? = some off) (ht : (pc : Int) + off = (tgt : Int)) (kk : am_AW M d mc ms SC Q tgt L rest n h uc us) : am_AW M d mc ms SC Q pc L (vI x :: rest) n h uc us := by
  intro p l e R s m args below meth c D tc A Qm ad H locs ls F X hP hD hS hl hret
  exact lv_tableIn F.1.1 F.1.2.1 hd h1 h2 ho ht (kk p l e R s m args below meth c D tc A Qm ad H locs ls F X hP hD hS hl hret)
theorem i_lookup {dflt : Int} {ps : Array (Int × Int)} {len : Nat} {x : Int32} {off : Int} {tgt : Nat} (hd : decode M.2.2.1 pc = .ok (.lookupswitch dflt ps, len)) (hp : (ps.toList.zip (ps.toList.drop 1)).all (fun (a, next) => a.1 < next.1) = true) (ho : Op.lookupswitch.offset ps.toList dflt x.toInt = off) (ht : (pc : Int) + off = (tgt : Int)) (kk : am_AW M d mc ms SC Q tgt L rest n h uc us) : am_AW M d mc ms SC Q pc L (vI x :: rest) n h uc us := by
  intro p l e R s m args below meth c D tc A Qm ad H locs ls F X hP hD hS hl hret
  exact lv_lookup F.1.1 F.1.2.1 hd hp ho ht (kk p l e R s m args below meth c D tc A Qm ad H locs ls F X hP hD hS hl hret)
theorem i_iret {x : Int32} {ty : FieldType} (hd : decode M.2.2.1 pc = .ok (.ireturn, 1)) (hty : M.2.2.2.2 = some ty) (hn : narrow ty (.int x) = .int x) (hc : uc ≤ mc) (hs : us ≤ ms) (hQ : Q (some (vI x)) n h) : am_AW M d mc ms SC Q pc L [vI x] n h uc us := by
  intro p l e R s m args below meth c D tc A Qm ad H locs ls F X hP hD hS hl hret
  exact W.widen hc hs (hret (some (vI x)) n h ad H locs ls pc hQ (Nat.le_refl _) (fun _ _ => rfl) hP hD hS (Or.inl ⟨hd, x, ty, rfl, hty, hn⟩))
theorem i_ret (hd : decode M.2.2.1 pc = .ok (.return_, 1)) (hty : M.2.2.2.2 = none) (hc : uc ≤ mc) (hs : us ≤ ms) (hQ : Q none n h) : am_AW M d mc ms SC Q pc L [] n h uc us := by
  intro p l e R s m args below meth c D tc A Qm ad H locs ls F X hP hD hS hl hret
  exact W.widen hc hs (hret none n h ad H locs ls pc hQ (Nat.le_refl _) (fun _ _ => rfl) hP hD hS (Or.inr (Or.inl ⟨hd, rfl, hty⟩)))
theorem i_aret {k : Nat} {ty : FieldType} (hd : decode M.2.2.1 pc = .ok (.areturn, 1)) (hty : M.2.2.2.2 = some ty) (hrt : (∃ z, ty = .object z) ∨ ∃ t, ty = .array t) (hc : uc ≤ mc) (hs : us ≤ ms) (hQ : Q (some (vR k)) n h) : am_AW M d mc ms SC Q pc L [vR k] n h uc us := by
  intro p l e R s m args below meth c D tc A Qm ad H locs ls F X hP hD hS hl hret
  exact W.widen hc hs (hret (some (vR k)) n h ad H locs ls pc hQ (Nat.le_refl _) (fun _ _ => rfl) hP hD hS (Or.inr (Or.inr ⟨hd, k, ty, rfl, hty, hrt⟩)))
theorem i_top {x y : Int32} (e : x = y) (kk : am_AW M d mc ms SC Q pc L (vI y :: rest) n h uc us) : am_AW M d mc ms SC Q pc L (vI x :: rest) n h uc us := e ▸ kk
theorem i_getf {C : String} {T : u_T} {N ci index b k : Nat} {fs : List am_V} {v : am_V} (hd : decode M.2.2.1 pc = .ok (.getfield index, 3)) (hc : classes[ci]? = some (C, T, N)) (hin : ∀ w ∈ u_ws C T N, w ∈ am_all) (hk : k < N) (hlk : Cond.fieldLink M.1 index (T k).1 (T k).2.1 (T k).2.2.1 ∈ am_all) (hb : b < n) (ho : h b = .inr (ci, fs)) (hv : fs[k]? = some v) (kk : am_AW M d mc ms SC Q (pc + 3) L (v :: rest) n h uc us) : am_AW M d mc ms SC Q pc L (vR b :: rest) n h uc us := by
  intro p l e R s m args below meth c D tc A Qm ad H locs ls F X hP hD hS hl hret
  have F2 := F
  obtain ⟨⟨hx, hbb, hml, hown, hts⟩, -, -, -, -, hK, -⟩ := F2
  exact va_get (ref := (T k).1) hx hbb hts hin hown hK.1 hP b (am_get hb ho) hc k hk (hts _ hlk) (fun _ q => q) (v := am_cv ad v) (by rw [List.getElem?_map, hv]; rfl) hd (kk p l e R s m args below meth c D tc A Qm ad H locs ls F X hP hD hS hl hret)
theorem i_putf {C : String} {T : u_T} {N ci index b k : Nat} {fs : List am_V} {v : am_V} {ty : FieldType} (ty0 : Nat → FieldType) (hty : ∀ k, k < N → parseFieldDescriptor (T k).2.2.1 = some (ty0 k)) (hnm : ∀ a, a < N → ∀ b, b < N → a ≠ b → (T a).2.1 ≠ (T b).2.1) (hd : decode M.2.2.1 pc = .ok (.putfield index, 3)) (hc : classes[ci]? = some (C, T, N)) (hin : ∀ w ∈ u_ws C T N, w ∈ am_all) (hk : k < N) (hlk : Cond.fieldLink M.1 index (T k).1 (T k).2.1 (T k).2.2.1 ∈ am_all) (hfin : (T k).2.2.2 = false) (hb : b < n) (ho : h b = .inr (ci, fs)) (hl0 : k < fs.length) (hpd : parseFieldDescriptor (T k).2.2.1 = some ty) (hnr : ∀ ad, narrow ty (am_cv ad v) = am_cv ad v) (hft : ∀ ad, fits ty (am_cv ad v) = true) (kk : am_AW M d mc ms SC Q (pc + 3) L rest n (va_up h b (.inr (ci, fs.set k v))) uc us) : am_AW M d mc ms SC Q pc L (v :: vR b :: rest) n h uc us := by
  intro p l e R s m args below meth c D tc A Qm ad H locs ls F X hP hD hS hl hret
  have F2 := F
  obtain ⟨⟨hx, hbb, hml, hown, hts⟩, -, -, hname, -, hK, -⟩ := F2
  refine va_put (ref := (T k).1) hx hbb hts hin ty0 hty hnm hown hK.1 hP hD hS b (am_get hb ho) hc k hk (hts _ hlk) (fun _ q => q) hfin hpd (hnr ad) (hft ad) (by rw [List.length_map]; exact hl0) hd (fun H1 locs1 hP1 hD1 hS1 => ?_)
  have e1 : (am_ws tc ad n h).set b (ad b, .inr (ci, (fs.map (am_cv ad)).set k (am_cv ad v))) = am_ws tc ad n (va_up h b (.inr (ci, fs.set k v))) := by
    rw [← List.map_set]
    exact am_set (.inr (ci, fs.set k v)) hb
  exact kk p l e R s m args below meth c D tc A Qm ad H1 locs1 ls F X (e1 ▸ hP1) (e1 ▸ hD1) hS1 hl hret
theorem i_putF {C : String} {T : u_T} {N ci index b k : Nat} {fs : List am_V} {v : am_V} {ty : FieldType} (ty0 : Nat → FieldType) (hty : ∀ k, k < N → parseFieldDescriptor (T k).2.2.1 = some (ty0 k)) (hnm : ∀ a, a < N → ∀ b, b < N → a ≠ b → (T a).2.1 ≠ (T b).2.1) (hd : decode M.2.2.1 pc = .ok (.putfield index, 3)) (hc : classes[ci]? = some (C, T, N)) (hin : ∀ w ∈ u_ws C T N, w ∈ am_all) (hk : k < N) (hlk : Cond.fieldLink M.1 index (T k).1 (T k).2.1 (T k).2.2.1 ∈ am_all) (hfin : (T k).2.2.2 = true) (hini : M.2.1.name = "<init>") (hdcl : (T k).1 = M.1) (hb : b < n) (ho : h b = .inr (ci, fs)) (hl0 : k < fs.length) (hpd : parseFieldDescriptor (T k).2.2.1 = some ty) (hnr : ∀ ad, narrow ty (am_cv ad v) = am_cv ad v) (hft : ∀ ad, fits ty (am_cv ad v) = true) (kk : am_AW M d mc ms SC Q (pc + 3) L rest n (va_up h b (.inr (ci, fs.set k v))) uc us) : am_AW M d mc ms SC Q pc L (v :: vR b :: rest) n h uc us := by
  intro p l e R s m args below meth c D tc A Qm ad H locs ls F X hP hD hS hl hret
  have F2 := F
  obtain ⟨⟨hx, hbb, hml, hown, hts⟩, -, -, hname, -, hK, -⟩ := F2
  refine va_putF (ref := (T k).1) hx hbb hts hin ty0 hty hnm hown hK.1 hP hD hS b (am_get hb ho) hc k hk (hts _ hlk) (fun _ q => q) hfin (hname hini) hdcl hpd (hnr ad) (hft ad) (by rw [List.length_map]; exact hl0) hd (fun H1 locs1 hP1 hD1 hS1 => ?_)
  have e1 : (am_ws tc ad n h).set b (ad b, .inr (ci, (fs.map (am_cv ad)).set k (am_cv ad v))) = am_ws tc ad n (va_up h b (.inr (ci, fs.set k v))) := by
    rw [← List.map_set]
    exact am_set (.inr (ci, fs.set k v)) hb
  exact kk p l e R s m args below meth c D tc A Qm ad H1 locs1 ls F X (e1 ▸ hP1) (e1 ▸ hD1) hS1 hl hret
theorem i_iald {b N : Nat} {f : Nat → Int32} {i : Int32} (hd : decode M.2.2.1 pc = .ok (.iaload, 1)) (hb : b < n) (ho : h b = .inl (0, N, .inl f)) (hi : vp_in i N) (kk : am_AW M d mc ms SC Q (pc + 1) L (vI (f i.toNatClampNeg) :: rest) n h uc us) : am_AW M d mc ms SC Q pc L (vI i :: vR b :: rest) n h uc us := by
  intro p l e R s m args below meth c D tc A Qm ad H locs ls F X hP hD hS hl hret
  exact va_iald F.1.1 F.1.2.1 F.2.2.2.2.2.1.1 hP b 0 (am_get hb ho) rfl hi hd (kk p l e R s m args below meth c D tc A Qm ad H locs ls F X hP hD hS hl hret)
theorem i_zald {b N : Nat} {f : Nat → Int32} {i : Int32} (hd : decode M.2.2.1 pc = .ok (.baload, 1)) (hb : b < n) (ho : h b = .inl (1, N, .inl f)) (hi : vp_in i N) (kk : am_AW M d mc ms SC Q (pc + 1) L (vI (f i.toNatClampNeg) :: rest) n h uc us) : am_AW M d mc ms SC Q pc L (vI i :: vR b :: rest) n h uc us := by
  intro p l e R s m args below meth c D tc A Qm ad H locs ls F X hP hD hS hl hret
  exact va_zald F.1.1 F.1.2.1 F.2.2.2.2.2.1.1 hP b 1 (am_get hb ho) rfl hi hd (kk p l e R s m args below meth c D tc A Qm ad H locs ls F X hP hD hS hl hret)
theorem i_iast {b N : Nat} {f : Nat → Int32} {i x : Int32} (hd : decode M.2.2.1 pc = .ok (.iastore, 1)) (hb : b < n) (ho : h b = .inl (0, N, .inl f)) (hi : vp_in i N) (kk : am_AW M d mc ms SC Q (pc + 1) L rest n (va_up h b (.inl (0, N, .inl (upd f i.toNatClampNeg x)))) uc us) : am_AW M d mc ms SC Q pc L (vI x :: vI i :: vR b :: rest) n h uc us := by
  intro p l e R s m args below meth c D tc A Qm ad H locs ls F X hP hD hS hl hret
  refine va_iast F.1.1 F.1.2.1 F.2.2.2.2.2.1.1 hP hD hS b 0 (am_get hb ho) rfl hi hd (fun H1 locs1 hP1 hD1 hS1 => ?_)
  have e1 := am_set (tc := tc) (ad := ad) (h := h) (.inl (0, N, .inl (upd f i.toNatClampNeg x))) hb
  exact kk p l e R s m args below meth c D tc A Qm ad H1 locs1 ls F X (e1 ▸ hP1) (e1 ▸ hD1) hS1 hl hret
theorem i_zast {b N : Nat} {f : Nat → Int32} {i x : Int32} (hd : decode M.2.2.1 pc = .ok (.bastore, 1)) (hb : b < n) (ho : h b = .inl (1, N, .inl f)) (hi : vp_in i N) (kk : am_AW M d mc ms SC Q (pc + 1) L rest n (va_up h b (.inl (1, N, .inl (upd f i.toNatClampNeg (vp_nar .boolean x))))) uc us) : am_AW M d mc ms SC Q pc L (vI x :: vI i :: vR b :: rest) n h uc us := by
  intro p l e R s m args below meth c D tc A Qm ad H locs ls F X hP hD hS hl hret
  refine va_zast F.1.1 F.1.2.1 F.2.2.2.2.2.1.1 hP hD hS b 1 (am_get hb ho) rfl hi hd (fun H1 locs1 hP1 hD1 hS1 => ?_)
  have e1 := am_set (tc := tc) (ad := ad) (h := h) (.inl (1, N, .inl (upd f i.toNatClampNeg (vp_nar .boolean x)))) hb
  exact kk p l e R s m args below meth c D tc A Qm ad H1 locs1 ls F X (e1 ▸ hP1) (e1 ▸ hD1) hS1 hl hret
theorem i_aald {b N y : Nat} {g : Nat → Option Nat} {i : Int32} (hd : decode M.2.2.1 pc = .ok (.aaload, 1)) (hb : b < n) (ho : h b = .inl (2, N, .inr g)) (hi : vp_in i N) (hy : g i.toNatClampNeg = some y) (kk : am_AW M d mc ms SC Q (pc + 1) L (vR y :: rest) n h uc us) : am_AW M d mc ms SC Q pc L (vI i :: vR b :: rest) n h uc us := by
  intro p l e R s m args below meth c D tc A Qm ad H locs ls F X hP hD hS hl hret
  refine va_aldq F.1.1 F.1.2.1 F.2.2.2.2.2.1.1 hP b 2 (am_get hb ho) rfl hi hd ?_
  rw [hy]
  exact kk p l e R s m args below meth c D tc A Qm ad H locs ls F X hP hD hS hl hret
theorem i_alen {b t N : Nat} {f : (Nat → Int32) ⊕ (Nat → Option Nat)} {x : Int32} {ty : FieldType} (hd : decode M.2.2.1 pc = .ok (.arraylength, 1)) (hb : b < n) (ho : h b = .inl (t, N, f)) (ht : ∀ tc, (am_tl tc)[t]? = some (tc t, ty)) (hx : Int32.ofNat N = x) (kk : am_AW M d mc ms SC Q (pc + 1) L (vI x :: rest) n h uc us) : am_AW M d mc ms SC Q pc L (vR b :: rest) n h uc us := by
  intro p l e R s m args below meth c D tc A Qm ad H locs ls F X hP hD hS hl hret
  cases f with
  | inl f => exact va_alen F.1.1 F.1.2.1 F.2.2.2.2.2.1.1 hP b t (am_get hb ho) (ht tc) hx hd (kk p l e R s m args below meth c D tc A Qm ad H locs ls F X hP hD hS hl hret)
  | inr g => exact va_alen F.1.1 F.1.2.1 F.2.2.2.2.2.1.1 hP b t (am_get hb ho) (ht tc) hx hd (kk p l e R s m args below meth c D tc A Qm ad H locs ls F X hP hD hS hl hret)
theorem i_sald {Ln : Nat} {xs : Nat → Int32} {i : Int32} (hSC : SC = some (Ln, xs)) (hd : decode M.2.2.1 pc = .ok (.iaload, 1)) (hi : vp_in i Ln) (kk : am_AW M d mc ms SC Q (pc + 1) L (vI (xs i.toNatClampNeg) :: rest) n h uc us) : am_AW M d mc ms SC Q pc L (vI i :: vR am_SP :: rest) n h uc us := by
  intro p l e R s m args below meth c D tc A Qm ad H locs ls F X hP hD hS hl hret
  obtain ⟨x1, x2, x3⟩ := X Ln xs hSC
  exact va_sld F.1.1 F.1.2.1 x1 x2 x3 hS hi hd (kk p l e R s m args below meth c D tc A Qm ad H locs ls F X hP hD hS hl hret)
theorem i_slen {Ln : Nat} {xs : Nat → Int32} (hSC : SC = some (Ln, xs)) (hd : decode M.2.2.1 pc = .ok (.arraylength, 1)) (kk : am_AW M d mc ms SC Q (pc + 1) L (vI (Int32.ofNat Ln) :: rest) n h uc us) : am_AW M d mc ms SC Q pc L (vR am_SP :: rest) n h uc us := by
  intro p l e R s m args below meth c D tc A Qm ad H locs ls F X hP hD hS hl hret
  obtain ⟨x1, x2, x3⟩ := X Ln xs hSC
  exact va_slen F.1.1 F.1.2.1 x1 x2 x3 hS hd (kk p l e R s m args below meth c D tc A Qm ad H locs ls F X hP hD hS hl hret)
end AI
