-- from kit/laws/BITS.to-paste (the family of Int32 by its bits), pasted; below it rows of my own
def bt (x : Int32) (i : Nat) : Bool := x.toBitVec.getLsbD i
theorem b_ext {x y : Int32} (h : ∀ i, i < 32 → bt x i = bt y i) : x = y := Int32.toBitVec_inj.mp (BitVec.eq_of_getLsbD_eq (fun i hi => h i hi))
theorem b_or (x y : Int32) (i : Nat) : bt (x ||| y) i = (bt x i || bt y i) := by unfold bt; rw [Int32.toBitVec_or, BitVec.getLsbD_or]
theorem b_and (x y : Int32) (i : Nat) : bt (x &&& y) i = (bt x i && bt y i) := by unfold bt; rw [Int32.toBitVec_and, BitVec.getLsbD_and]
theorem b_xor (x y : Int32) (i : Nat) : bt (x ^^^ y) i = (bt x i ^^ bt y i) := by unfold bt; rw [Int32.toBitVec_xor, BitVec.getLsbD_xor]
theorem b_big {x : Int32} {i : Nat} (h : 32 ≤ i) : bt x i = false := BitVec.getLsbD_of_ge _ _ h
theorem b_m1 : ∀ i, i < 32 → bt (-1) i = true := by decide +kernel
theorem b_0 (i : Nat) : bt 0 i = false := BitVec.getLsbD_zero
theorem s_l : ∀ n, n < 32 → ((nI n &&& 31).toBitVec.smod 32).toNat = n := by decide +kernel
theorem s_u : ∀ n, n < 32 → (((nI n).toUInt32 &&& Int32.toUInt32 31).toBitVec % 32).toNat = n := by decide +kernel
theorem b_shl (n : Nat) (hn : n < 32) (x : Int32) {i : Nat} (hi : i < 32) : bt (x <<< (nI n &&& 31)) i = (decide (n ≤ i) && bt x (i - n)) := by
  unfold bt
  rw [Int32.toBitVec_shiftLeft]
  show (x.toBitVec <<< ((nI n &&& 31).toBitVec.smod 32).toNat).getLsbD i = _
  rw [s_l n hn, BitVec.getLsbD_shiftLeft]
  rcases Nat.lt_or_ge i n with h | h
  · simp [h, Nat.not_le.mpr h]
  · simp [hi, h, Nat.not_lt.mpr h]
theorem b_sshr (n : Nat) (hn : n < 32) (x : Int32) {i : Nat} (hi : i < 32) : bt (x >>> (nI n &&& 31)) i = if n + i < 32 then bt x (n + i) else bt x 31 := by
  unfold bt
  rw [Int32.toBitVec_shiftRight]
  show (x.toBitVec.sshiftRight ((nI n &&& 31).toBitVec.smod 32).toNat).getLsbD i = _
  rw [s_l n hn, BitVec.getLsbD_sshiftRight, BitVec.msb_eq_getLsbD_last]
  simp [hi]
theorem b_1 : ∀ i, i < 32 → bt 1 i = decide (i = 0) := by decide +kernel
theorem bt_has {x : Int32} {a : Nat} (ha : a < 32) : ((x >>> (nI a &&& 31)) &&& 1) = 0 ↔ bt x a = false := by
  constructor
  · intro h
    have h1 : bt ((x >>> (nI a &&& 31)) &&& 1) 0 = false := by rw [h]; exact b_0 0
    rw [b_and, b_sshr a ha x (by decide), b_1 0 (by decide), Nat.add_zero, if_pos ha] at h1
    simpa using h1
  · intro h
    apply b_ext
    intro i hi
    rw [b_and, b_0, b_1 i hi]
    by_cases e : i = 0
    · subst e
      rw [b_sshr a ha x (by decide), Nat.add_zero, if_pos ha, h]
      rfl
    · simp [e]
theorem bt_set {a i : Nat} (ha : a < 32) (hi : i < 32) : bt ((1 : Int32) <<< (nI a &&& 31)) i = decide (i = a) := by
  rw [b_shl a ha 1 hi, b_1 (i - a) (by omega)]
  by_cases h1 : a ≤ i
  · rw [decide_eq_true h1, Bool.true_and]
    by_cases h2 : i = a
    · rw [decide_eq_true h2, decide_eq_true (by omega)]
    · rw [decide_eq_false h2, decide_eq_false (by omega)]
  · rw [decide_eq_false h1, Bool.false_and, decide_eq_false (by omega)]
theorem px_has {x : Int32} {a : Nat} {I : fm_I} (ha : a < 16) : fn_SL_hasName x (nI a) I = ri (zb (bt x a = true)) I := by
  unfold fn_SL_hasName
  by_cases h : bt x a = true
  · rw [if_neg (fun q => by rw [(bt_has (by omega)).mp q] at h; cases h), rz_1, zb_t h]
  · rw [if_pos ((bt_has (by omega)).mpr (by cases hb : bt x a with | true => exact absurd hb h | false => rfl)), rz_0, zb_f h]
theorem px_setOf {a : Nat} {I : fm_I} : fn_SL_setOf (nI a) I = ri ((1 : Int32) <<< (nI a &&& 31)) I := rfl
theorem fm_up_q (I : fm_I) {p k q : Nat} {x : Int32} (h : q ≠ p) : fm_up I p k x q = I q := funext fun _ => fm_up_p _ _ _ h
-- a module of the class at b
def isMod (b : Nat) : Prop := sh_o 1 b = true ∧ (sh_i 1 b 8 = true ∧ sh_i 1 b 9 = true ∧ sh_i 1 b 10 = true ∧ sh_i 1 b 11 = true ∧ sh_i 1 b 12 = true) ∧ (sh_r 1 b 0 = some (b + 1) ∧ sh_r 1 b 1 = some (b + 2) ∧ sh_r 1 b 2 = some (b + 3) ∧ sh_r 1 b 3 = some (b + 4) ∧ sh_r 1 b 4 = some (b + 5) ∧ sh_r 1 b 5 = some (b + 6) ∧ sh_r 1 b 6 = some (b + 7) ∧ sh_r 1 b 7 = some (b + 8)) ∧ (sh_n 0 (b + 1) = some 20 ∧ sh_n 0 (b + 2) = some 20 ∧ sh_n 0 (b + 3) = some 20 ∧ sh_n 0 (b + 4) = some 20 ∧ sh_n 0 (b + 5) = some 20 ∧ sh_n 1 (b + 6) = some 20 ∧ sh_n 0 (b + 7) = some 3 ∧ sh_n 0 (b + 8) = some 16)
theorem isMod_m : ∀ m, m < 6 → isMod (2 + 9 * m) ∧ sh_a 2 1 m = some (2 + 9 * m) := by
  intro m hm
  match m, hm with
  | 0, _ => exact ⟨⟨rfl, ⟨rfl, rfl, rfl, rfl, rfl⟩, ⟨rfl, rfl, rfl, rfl, rfl, rfl, rfl, rfl⟩, ⟨rfl, rfl, rfl, rfl, rfl, rfl, rfl, rfl⟩⟩, rfl⟩
  | 1, _ => exact ⟨⟨rfl, ⟨rfl, rfl, rfl, rfl, rfl⟩, ⟨rfl, rfl, rfl, rfl, rfl, rfl, rfl, rfl⟩, ⟨rfl, rfl, rfl, rfl, rfl, rfl, rfl, rfl⟩⟩, rfl⟩
  | 2, _ => exact ⟨⟨rfl, ⟨rfl, rfl, rfl, rfl, rfl⟩, ⟨rfl, rfl, rfl, rfl, rfl, rfl, rfl, rfl⟩, ⟨rfl, rfl, rfl, rfl, rfl, rfl, rfl, rfl⟩⟩, rfl⟩
  | 3, _ => exact ⟨⟨rfl, ⟨rfl, rfl, rfl, rfl, rfl⟩, ⟨rfl, rfl, rfl, rfl, rfl, rfl, rfl, rfl⟩, ⟨rfl, rfl, rfl, rfl, rfl, rfl, rfl, rfl⟩⟩, rfl⟩
  | 4, _ => exact ⟨⟨rfl, ⟨rfl, rfl, rfl, rfl, rfl⟩, ⟨rfl, rfl, rfl, rfl, rfl, rfl, rfl, rfl⟩, ⟨rfl, rfl, rfl, rfl, rfl, rfl, rfl, rfl⟩⟩, rfl⟩
  | 5, _ => exact ⟨⟨rfl, ⟨rfl, rfl, rfl, rfl, rfl⟩, ⟨rfl, rfl, rfl, rfl, rfl, rfl, rfl, rfl⟩, ⟨rfl, rfl, rfl, rfl, rfl, rfl, rfl, rfl⟩⟩, rfl⟩
section ME
variable {b : Nat} {I : fm_I} (hb : isMod b)
theorem mo : isMod b → sh_o 1 b = true := fun h => h.1
theorem mg8 {kk : Int32 → pR} (hb : isMod b) : gi 1 b 8 I kk = kk (I b 8) := gi_t hb.2.1.1
theorem mg9 {kk : Int32 → pR} (hb : isMod b) : gi 1 b 9 I kk = kk (I b 9) := gi_t hb.2.1.2.1
theorem mg10 {kk : Int32 → pR} (hb : isMod b) : gi 1 b 10 I kk = kk (I b 10) := gi_t hb.2.1.2.2.1
theorem mg11 {kk : Int32 → pR} (hb : isMod b) : gi 1 b 11 I kk = kk (I b 11) := gi_t hb.2.1.2.2.2.1
theorem mg12 {kk : Int32 → pR} (hb : isMod b) : gi 1 b 12 I kk = kk (I b 12) := gi_t hb.2.1.2.2.2.2
theorem mp8 {x : Int32} {kk : fm_I → pR} (hb : isMod b) : pI 1 b 8 x I kk = kk (fm_up I b 8 x) := pI_t hb.2.1.1
theorem mp9 {x : Int32} {kk : fm_I → pR} (hb : isMod b) : pI 1 b 9 x I kk = kk (fm_up I b 9 x) := pI_t hb.2.1.2.1
theorem mp10 {x : Int32} {kk : fm_I → pR} (hb : isMod b) : pI 1 b 10 x I kk = kk (fm_up I b 10 x) := pI_t hb.2.1.2.2.1
theorem mp11 {x : Int32} {kk : fm_I → pR} (hb : isMod b) : pI 1 b 11 x I kk = kk (fm_up I b 11 x) := pI_t hb.2.1.2.2.2.1
theorem mp12 {x : Int32} {kk : fm_I → pR} (hb : isMod b) : pI 1 b 12 x I kk = kk (fm_up I b 12 x) := pI_t hb.2.1.2.2.2.2
theorem mr0 {kk : Nat → pR} (hb : isMod b) : gr 1 b 0 kk = kk (b + 1) := gr_t hb.2.2.1.1
theorem mr1 {kk : Nat → pR} (hb : isMod b) : gr 1 b 1 kk = kk (b + 2) := gr_t hb.2.2.1.2.1
theorem mr2 {kk : Nat → pR} (hb : isMod b) : gr 1 b 2 kk = kk (b + 3) := gr_t hb.2.2.1.2.2.1
theorem mr3 {kk : Nat → pR} (hb : isMod b) : gr 1 b 3 kk = kk (b + 4) := gr_t hb.2.2.1.2.2.2.1
theorem mr4 {kk : Nat → pR} (hb : isMod b) : gr 1 b 4 kk = kk (b + 5) := gr_t hb.2.2.1.2.2.2.2.1
theorem mr5 {kk : Nat → pR} (hb : isMod b) : gr 1 b 5 kk = kk (b + 6) := gr_t hb.2.2.1.2.2.2.2.2.1
theorem mr6 {kk : Nat → pR} (hb : isMod b) : gr 1 b 6 kk = kk (b + 7) := gr_t hb.2.2.1.2.2.2.2.2.2.1
theorem mr7 {kk : Nat → pR} (hb : isMod b) : gr 1 b 7 kk = kk (b + 8) := gr_t hb.2.2.1.2.2.2.2.2.2.2
theorem mn1 (hb : isMod b) : sh_n 0 (b + 1) = some 20 := hb.2.2.2.1
theorem mn2 (hb : isMod b) : sh_n 0 (b + 2) = some 20 := hb.2.2.2.2.1
theorem mn3 (hb : isMod b) : sh_n 0 (b + 3) = some 20 := hb.2.2.2.2.2.1
theorem mn4 (hb : isMod b) : sh_n 0 (b + 4) = some 20 := hb.2.2.2.2.2.2.1
theorem mn5 (hb : isMod b) : sh_n 0 (b + 5) = some 20 := hb.2.2.2.2.2.2.2.1
theorem mn6 (hb : isMod b) : sh_n 1 (b + 6) = some 20 := hb.2.2.2.2.2.2.2.2.1
theorem mn7 (hb : isMod b) : sh_n 0 (b + 7) = some 3 := hb.2.2.2.2.2.2.2.2.2.1
theorem mn8 (hb : isMod b) : sh_n 0 (b + 8) = some 16 := hb.2.2.2.2.2.2.2.2.2.2
end ME
