-- the layer over positions. 'classes', 'am_all', 'am_nest' come from the names' part (09) ahead of this one.
/-- what stands on the stack and in the locals: an int, or a reference by its position (none: null) -/
abbrev am_V : Type := Int32 ⊕ Option Nat
abbrev vI (x : Int32) : am_V := .inl x
abbrev vR (k : Nat) : am_V := .inr (some k)
def am_cv (ad : Nat → Nat) (v : am_V) : Value := match v with
  | .inl x => .int x
  | .inr r => va_rf (r.map ad)
theorem am_cv_cat (ad : Nat → Nat) (v : am_V) : (am_cv ad v).category = 1 := by
  cases v with
  | inl x => rfl
  | inr r => cases r <;> rfl
/-- a cell: an array (number of its table, length, ints or references), or an object (number of its class, fields) -/
abbrev am_E : Type := (Nat × Nat × ((Nat → Int32) ⊕ (Nat → Option Nat))) ⊕ (Nat × List am_V)
abbrev am_H : Type := Nat → am_E
def am_ce (tc : Nat → ClassId) (ad : Nat → Nat) (e : am_E) : va_E := match e with
  | .inl (t, N, .inl f) => .inl (tc t, N, .inl f)
  | .inl (t, N, .inr g) => .inl (tc t, N, .inr (.inr (.inr (.inr (fun i => (g i).map ad)))))
  | .inr (ci, fs) => .inr (ci, fs.map (am_cv ad))
def am_ws (tc : Nat → ClassId) (ad : Nat → Nat) (n : Nat) (h : am_H) : va_W := (List.range n).map (fun k => (ad k, am_ce tc ad (h k)))
theorem am_get {tc : Nat → ClassId} {ad : Nat → Nat} {n k : Nat} {h : am_H} {e : am_E} (hk : k < n) (he : h k = e) : (am_ws tc ad n h)[k]? = some (ad k, am_ce tc ad e) := by
  subst he
  simp [am_ws, hk]
theorem am_len (tc : Nat → ClassId) (ad : Nat → Nat) (n : Nat) (h : am_H) : (am_ws tc ad n h).length = n := by simp [am_ws]
theorem am_set {tc : Nat → ClassId} {ad : Nat → Nat} {n k : Nat} {h : am_H} (e : am_E) (hk : k < n) : (am_ws tc ad n h).set k (ad k, am_ce tc ad e) = am_ws tc ad n (va_up h k e) := by
  apply List.ext_getElem?
  intro i
  by_cases hi : i = k
  · subst hi
    rw [List.getElem?_set_self (by rw [am_len]; exact hk), am_get hk (va_up_self _ _ _)]
  · rw [List.getElem?_set_ne (fun q => hi q.symm)]
    by_cases hn : i < n
    · rw [am_get hn rfl, am_get hn rfl, va_up_ne _ _ hi]
    · rw [List.getElem?_eq_none (by rw [am_len]; omega), List.getElem?_eq_none (by rw [am_len]; omega)]
-- scoping: all references of a cell point below n
def am_okv (n : Nat) (v : am_V) : Prop := match v with
  | .inr (some k) => k < n
  | _ => True
def am_oke (n : Nat) (e : am_E) : Prop := match e with
  | .inl (_, _, .inl _) => True
  | .inl (_, _, .inr g) => ∀ i k, g i = some k → k < n
  | .inr (_, fs) => ∀ v ∈ fs, am_okv n v
theorem am_cv_congr {n : Nat} {ad ad' : Nat → Nat} (ha : ∀ k, k < n → ad' k = ad k) {v : am_V} (hv : am_okv n v) : am_cv ad' v = am_cv ad v := by
  cases v with
  | inl x => rfl
  | inr r =>
    cases r with
    | none => rfl
    | some k =>
      show Value.ref (ad' k) = Value.ref (ad k)
      rw [ha k hv]
theorem am_ce_congr {n : Nat} {tc : Nat → ClassId} {ad ad' : Nat → Nat} (ha : ∀ k, k < n → ad' k = ad k) {e : am_E} (he : am_oke n e) : am_ce tc ad' e = am_ce tc ad e := by
  rcases e with ⟨t, N, f | g⟩ | ⟨ci, fs⟩
  · rfl
  · have : (fun i => (g i).map ad') = fun i => (g i).map ad := funext fun i => by
      cases hg : g i with
      | none => rfl
      | some k => show some (ad' k) = some (ad k); rw [ha k (he i k hg)]
    show (Sum.inl (tc t, N, .inr (.inr (.inr (.inr (fun i => (g i).map ad'))))) : va_E) = Sum.inl (tc t, N, .inr (.inr (.inr (.inr (fun i => (g i).map ad)))))
    rw [this]
  · have : fs.map (am_cv ad') = fs.map (am_cv ad) := List.map_congr_left fun v hv => am_cv_congr ha (he v hv)
    show (Sum.inr (ci, fs.map (am_cv ad')) : va_E) = Sum.inr (ci, fs.map (am_cv ad))
    rw [this]
theorem am_push {tc : Nat → ClassId} {ad : Nat → Nat} {n q : Nat} {h : am_H} {e : am_E} (hs : ∀ k, k < n → am_oke n (h k)) : am_ws tc ad n h ++ [(q, am_ce tc (va_up ad n q) e)] = am_ws tc (va_up ad n q) (n + 1) (va_up h n e) := by
  unfold am_ws
  rw [List.range_succ, List.map_append, List.map_singleton, va_up_self, va_up_self]
  congr 1
  apply List.map_congr_left
  intro k hk
  have hk := List.mem_range.mp hk
  rw [va_up_ne ad q (Nat.ne_of_lt hk), va_up_ne h e (Nat.ne_of_lt hk), am_ce_congr (fun j hj => va_up_ne ad q (Nat.ne_of_lt hj)) (hs k hk)]
-- locals: what is known of them, by number
def am_has (ls : Array Slot) (n : Nat) (ad : Nat → Nat) (L : Nat → Option am_V) : Prop := ls.size = n ∧ lv_wf ls ∧ ∀ i v, L i = some v → ls[i]? = some (.val (am_cv ad v))
def am_ll (ad : Nat → Nat) (n : Nat) (L : Nat → Option am_V) : List (Nat × Value) := (List.range n).filterMap (fun i => (L i).map (fun v => (i, am_cv ad v)))
theorem am_ll_in {ad : Nat → Nat} {n : Nat} {L : Nat → Option am_V} {q : Nat × Value} (h : q ∈ am_ll ad n L) : ∃ v, L q.1 = some v ∧ q.2 = am_cv ad v := by
  obtain ⟨j, -, hm⟩ := List.mem_filterMap.mp h
  cases hL : L j with
  | none => rw [hL] at hm; cases hm
  | some w =>
    rw [hL] at hm
    have e : (j, am_cv ad w) = q := Option.some.inj hm
    subst e
    exact ⟨w, hL, rfl⟩
theorem am_ll_mem {ad : Nat → Nat} {n i : Nat} {L : Nat → Option am_V} {v : am_V} (hi : i < n) (h : L i = some v) : (i, am_cv ad v) ∈ am_ll ad n L := List.mem_filterMap.mpr ⟨i, List.mem_range.mpr hi, by rw [h]; rfl⟩
theorem am_has.ll {ls : Array Slot} {n : Nat} {ad : Nat → Nat} {L : Nat → Option am_V} (h : am_has ls n ad L) : lv_has ls n (am_ll ad n L) := ⟨h.1, h.2.1, fun q hq => by
  obtain ⟨v, h1, h2⟩ := am_ll_in hq
  rw [h2]
  exact h.2.2 q.1 v h1⟩
theorem am_has.ll1 {ls : Array Slot} {n i : Nat} {ad : Nat → Nat} {L : Nat → Option am_V} {v : am_V} (h : am_has ls n ad L) (hv : L i = some v) : lv_has ls n ((i, am_cv ad v) :: am_ll ad n L) := ⟨h.1, h.2.1, fun q hq => by
  rcases List.mem_cons.mp hq with rfl | hq
  · exact h.2.2 i v hv
  · exact h.ll.2.2 q hq⟩
theorem am_has.st {ls ls' : Array Slot} {n i : Nat} {ad : Nat → Nat} {L : Nat → Option am_V} {v : am_V} {l : List (Nat × Value)} (h : am_has ls n ad L) (hs : ∀ q ∈ am_ll ad n L, q ∈ l) (h' : lv_has ls' n ((i, am_cv ad v) :: l.filter (fun q => !(q.1 == i) && !(q.1 + 1 == i && q.2.category == 2)))) : am_has ls' n ad (va_up L i (some v)) := by
  refine ⟨h'.1, h'.2.1, fun j w hw => ?_⟩
  by_cases e : j = i
  · subst e
    rw [va_up_self] at hw
    cases hw
    exact h'.2.2 _ List.mem_cons_self
  · rw [va_up_ne _ _ e] at hw
    have hj : j < n := by
      have := lv_lt (h.2.2 j w hw)
      rw [h.1] at this
      exact this
    exact h'.2.2 (j, am_cv ad w) (List.mem_cons_of_mem _ (List.mem_filter.mpr ⟨hs _ (am_ll_mem hj hw), by simp [e, am_cv_cat]⟩))
theorem am_args_mem (ad : Nat → Nat) : ∀ (av : List am_V) (k i : Nat) (v : am_V), av[i]? = some v → (k + i, am_cv ad v) ∈ lv_args k (av.map (am_cv ad))
  | [], _, i, v, h => by simp at h
  | a :: r, k, 0, v, h => by
    have e : a = v := by simpa using h
    subst e
    show (k + 0, am_cv ad a) ∈ (k, am_cv ad a) :: _
    exact List.mem_cons_self
  | a :: r, k, i + 1, v, h => by
    have h2 : r[i]? = some v := by simpa using h
    have := am_args_mem ad r (k + 1) i v h2
    show (k + (i + 1), am_cv ad v) ∈ (k, am_cv ad a) :: lv_args (if (am_cv ad a).category = 2 then k + 2 else k + 1) (r.map (am_cv ad))
    rw [am_cv_cat, if_neg (by decide), show k + (i + 1) = k + 1 + i by omega]
    exact List.mem_cons_of_mem _ this
theorem am_entry {ls : Array Slot} {n : Nat} {ad : Nat → Nat} {av : List am_V} (h : lv_has ls n (lv_args 0 (av.map (am_cv ad)))) : am_has ls n ad (fun i => av[i]?) := ⟨h.1, h.2.1, fun i v hv => by
  have := h.2.2 _ (am_args_mem ad av 0 i v hv)
  rw [Nat.zero_add] at this
  exact this⟩
theorem am_sl (ad : Nat → Nat) (av : List am_V) : (lg_sl (av.map (am_cv ad))).length = av.length := by
  induction av with
  | nil => rfl
  | cons v t ih =>
    simp only [lg_sl, List.map_cons, List.flatMap_cons, List.length_append] at ih ⊢
    rw [ih, am_cv_cat]
    simp
    omega
-- array classes by number, and what is known of the tables in every state
def am_tl (tc : Nat → ClassId) : List (ClassId × FieldType) := [(tc 0, .int), (tc 1, .boolean), (tc 2, .object "SpanLinker$SourceModule"), (tc 3, .array .int)]
/-- arrays of int[] can be made -/
def am_AOA (U : State) : Prop := (Cond.arrayOver (.array .int)).before #[] U = true
def am_K (D : va_G) (tc : Nat → ClassId) (U : State) : Prop := va_K D classes (am_tl tc) U ∧ (∀ w ∈ am_nest, va_Nw w U) ∧ va_AO "SpanLinker$SourceModule" U ∧ am_AOA U
-- a method: own class, name, bytes, locals, return type
abbrev am_M : Type := String × MethodName × ByteArray × Nat × Option FieldType
def am_w (M : am_M) : List Cond := .code M.2.1 M.2.2.1 M.2.2.2.1 M.2.2.2.2 :: am_all
def am_R (d mc ms : Nat) : Room := { frames := d, cells := mc, slots := ms, locals := 40 * d }
def am_F (M : am_M) (d mc ms : Nat) (p : Program) (R : Room) (s : State) (m : MethodId) (args : Array Value) (meth : Method) (c : Code) (D : va_G) (tc : Nat → ClassId) (A : Nat → Prop) : Prop :=
  CallFix p m c M.2.2.1 M.2.2.2.1 s args am_all M.1 ∧ meth.sig.returnType = M.2.2.2.2 ∧ meth.locks = false ∧ (M.2.1.name = "<init>" → meth.name = "<init>") ∧ (d ≤ R.frames ∧ R.cells = mc ∧ R.slots = ms ∧ 40 * d ≤ R.locals) ∧ am_K D tc s ∧ ∀ q, s.heap.size ≤ q → A q
-- the script: its address is ad at a position far above all cells
def am_SP : Nat := 1000000
def am_X (SC : Option (Nat × (Nat → Int32))) (ad : Nat → Nat) (A : Nat → Prop) (s : State) : Prop := ∀ L xs, SC = some (L, xs) → va_X (ad am_SP) L xs s s.heap ∧ ad am_SP < s.heap.size ∧ ¬ A (ad am_SP)
-- an instruction that returns v
def am_rd (M : am_M) (pc : Nat) (v : Option am_V) : Prop :=
  (decode M.2.2.1 pc = .ok (.ireturn, 1) ∧ ∃ (x : Int32) (ty : FieldType), v = some (vI x) ∧ M.2.2.2.2 = some ty ∧ narrow ty (.int x) = .int x) ∨
  (decode M.2.2.1 pc = .ok (.return_, 1) ∧ v = none ∧ M.2.2.2.2 = none) ∨
  (decode M.2.2.1 pc = .ok (.areturn, 1) ∧ ∃ (k : Nat) (ty : FieldType), v = some (vR k) ∧ M.2.2.2.2 = some ty ∧ ((∃ z, ty = .object z) ∨ ∃ t, ty = .array t))
def am_AW (M : am_M) (d mc ms : Nat) (SC : Option (Nat × (Nat → Int32))) (Q : Option am_V → Nat → am_H → Prop) (pc : Nat) (L : Nat → Option am_V) (st : List am_V) (n : Nat) (h : am_H) (uc us : Nat) : Prop :=
  ∀ (p : Program) (l : Launch) (e : Env) (R : Room) (s : State) (m : MethodId) (args : Array Value) (below : List Frame) (meth : Method) (c : Code) (D : va_G) (tc : Nat → ClassId) (A : Nat → Prop) (Qm : State → Prop) (ad : Nat → Nat) (H : Heap) (locs : List Loc) (ls : Array Slot),
    am_F M d mc ms p R s m args meth c D tc A → am_X SC ad A s →
    va_P D classes (am_ws tc ad n h) H → va_D A (am_ws tc ad n h) → va_S A s.heap H locs →
    am_has ls M.2.2.2.1 ad L →
    (∀ (v : Option am_V) (n' : Nat) (h' : am_H) (ad' : Nat → Nat) (H' : Heap) (locs' : List Loc) (ls' : Array Slot) (pc' : Nat), Q v n' h' → n ≤ n' → (∀ k, k < n ∨ n' ≤ k → ad' k = ad k) → va_P D classes (am_ws tc ad' n' h') H' → va_D A (am_ws tc ad' n' h') → va_S A s.heap H' locs' → am_rd M pc' v →
      W p l e R s m args below meth c H' locs' mc ms Qm (F0 m pc' ls' (v.toList.map (am_cv ad')))) →
    W p l e R s m args below meth c H locs uc us Qm (F0 m pc ls (st.map (am_cv ad)))
-- a method's contract: from heap (n, h) and arguments av, answer and heap with Q
def am_AM (M : am_M) (d mc ms : Nat) (av : List am_V) (n : Nat) (h : am_H) (Q : Option am_V → Nat → am_H → Prop) : Prop :=
  ∀ (l : Launch) (D : va_G) (tc : Nat → ClassId) (ad : Nat → Nat) (sz : Nat), Met l M.2.1 (am_w M) (am_R d mc ms)
    (va_Pc (av.map (am_cv ad)) (fun U => U.heap.size = sz ∧ va_P D classes (am_ws tc ad n h) U.heap ∧ am_K D tc U ∧ va_D (fun _ => True) (am_ws tc ad n h)))
    (fun _ st oc t => (∃ (v : Option am_V) (n' : Nat) (h' : am_H) (ad' : Nat → Nat), oc = .returned (v.map (am_cv ad')) ∧ Q v n' h' ∧ n ≤ n' ∧ (∀ k, k < n ∨ n' ≤ k → ad' k = ad k) ∧ va_P D classes (am_ws tc ad' n' h') t.heap ∧ va_D (va_A (am_ws tc ad n h) sz) (am_ws tc ad' n' h')) ∧ va_F (va_A (am_ws tc ad n h) sz) st t)
    mc ms (va_A (am_ws tc ad n h) sz)
-- weaker ends, and loops: an AW is a Prop, so a loop is an induction of one's own on a measure with 'AW at the head' as its statement
theorem am_AW.mono {M : am_M} {d mc ms : Nat} {SC : Option (Nat × (Nat → Int32))} {Q Q2 : Option am_V → Nat → am_H → Prop} {pc : Nat} {L : Nat → Option am_V} {st : List am_V} {n : Nat} {h : am_H} {uc us : Nat} (hw : am_AW M d mc ms SC Q pc L st n h uc us) (hq : ∀ v n' h', Q v n' h' → Q2 v n' h') : am_AW M d mc ms SC Q2 pc L st n h uc us := by
  intro p l e R s m args below meth c D tc A Qm ad H locs ls F X hP hD hS hl hret
  exact hw p l e R s m args below meth c D tc A Qm ad H locs ls F X hP hD hS hl (fun v n' h' ad' H' locs' ls' pc' q => hret v n' h' ad' H' locs' ls' pc' (hq v n' h' q))
theorem am_AW.wide {M : am_M} {d mc ms : Nat} {SC : Option (Nat × (Nat → Int32))} {Q : Option am_V → Nat → am_H → Prop} {pc : Nat} {L : Nat → Option am_V} {st : List am_V} {n : Nat} {h : am_H} {uc us uc' us' : Nat} (h1 : uc ≤ uc') (h2 : us ≤ us') (hw : am_AW M d mc ms SC Q pc L st n h uc' us') : am_AW M d mc ms SC Q pc L st n h uc us := by
  intro p l e R s m args below meth c D tc A Qm ad H locs ls F X hP hD hS hl hret
  exact W.widen h1 h2 (hw p l e R s m args below meth c D tc A Qm ad H locs ls F X hP hD hS hl hret)
