/-- the address of statement d of module k of the order; what that statement stands for -/
def adr (A : fm_I) (o : Nat → Nat) (c : Nat) (lw : Nat → Nat → Nat) (k d : Nat) : Nat := ss_ lw o c (A (2 + 9 * o k + 4) d).toNatClampNeg + sl_ lw o (A (2 + 9 * o k + 4) d).toNatClampNeg k + (A (2 + 9 * o k + 5) d).toNatClampNeg
def vdf (A : fm_I) (o : Nat → Nat) (c : Nat) (lw : Nat → Nat → Nat) (k d : Nat) : Int32 := if A (2 + 9 * o k + 1) d = 8 then A (2 + 9 * o k + 3) d else nI (adr A o c lw k d)
/-- what the name a stands for outside -/
def VAL (A : fm_I) (o : Nat → Nat) (c : Nat) (lw : Nat → Nat → Nat) (a : Nat) (x : Int32) : Prop := (∃ k, k < c ∧ exB A (o k) a ∧ x = vdf A o c lw k (A (2 + 9 * o k + 8) a).toNatClampNeg) ∨ ((∀ k, k < c → ¬ exB A (o k) a) ∧ ((loP A o c a ∧ x = nI (ss_ lw o c 3 + cbA A o c a)) ∨ (¬ loP A o c a ∧ x = -1)))
section VA
variable {A B : fm_I} {o : Nat → Nat} {c : Nat} {lw : Nat → Nat → Nat}
theorem VAL.uniq {a : Nat} {x y : Int32} (hd : ∀ i j, i < j → j < c → ¬ (exB A (o i) a ∧ exB A (o j) a)) (h1 : VAL A o c lw a x) (h2 : VAL A o c lw a y) : x = y := by
  rcases h1 with ⟨k, k1, k2, k3⟩ | ⟨n1, q1⟩ <;> rcases h2 with ⟨j, j1, j2, j3⟩ | ⟨n2, q2⟩
  · have : k = j := by
      rcases Nat.lt_trichotomy k j with q | q | q
      · exact absurd ⟨k2, j2⟩ (hd k j q j1)
      · exact q
      · exact absurd ⟨j2, k2⟩ (hd j k q k1)
    subst this
    rw [k3, j3]
  · exact absurd k2 (n2 k k1)
  · exact absurd j2 (n1 j j1)
  · rcases q1 with ⟨a1, a2⟩ | ⟨a1, a2⟩ <;> rcases q2 with ⟨b1, b2⟩ | ⟨b1, b2⟩
    · rw [a2, b2]
    · exact absurd a1 b1
    · exact absurd b1 a1
    · rw [a2, b2]
/-- places of a module as numbers -/
theorem pl_n (h : LB A B o c lw) {m cm : Nat} (hc : MRc A B m cm) {d : Nat} (hd : d < cm) : ∃ s, s < 3 ∧ A (2 + 9 * m + 4) d = nI s ∧ A (2 + 9 * m + 5) d = nI (A (2 + 9 * m + 5) d).toNatClampNeg ∧ (A (2 + 9 * m + 5) d).toNatClampNeg = mp (A (2 + 9 * m + 1)) (A (2 + 9 * m + 2)) (A (2 + 9 * m + 4)) (A (2 + 9 * m + 6)) (nI s) d ∧ (A (2 + 9 * m + 4) d).toNatClampNeg = s := by
  obtain ⟨s, hs, es⟩ := hc.1.S3 d hd
  have hp := hc.2.1.2.2.2 d hd
  rw [es] at hp
  have hc20 := hc.1.2.1
  have b1 := mp_16 (S := A (2 + 9 * m + 4)) (g := A (2 + 9 * m + 6)) (s := nI s) d (fun j hj => hc.1.A5 j (by omega))
  have hcl : (A (2 + 9 * m + 5) d).toNatClampNeg = mp (A (2 + 9 * m + 1)) (A (2 + 9 * m + 2)) (A (2 + 9 * m + 4)) (A (2 + 9 * m + 6)) (nI s) d := by rw [hp, nI_clamp (by omega)]
  exact ⟨s, hs, es, by rw [hcl]; exact hp, hcl, by rw [es, nI_clamp (by omega)]⟩
theorem r_adr (h : LB A B o c lw) {k cm : Nat} (hk : k < c) (hc : MRc A B (o k) cm) {d : Nat} (hd : d < cm) : ∃ s, s < 3 ∧ B 83 (20 * o k + d) = nI s ∧ fn_Ref_base 78 (nI (o k)) (nI s) B = ri (nI (ss_ lw o c s + sl_ lw o s k)) B ∧ fn_Ref_place 78 (nI (o k)) (nI (20 * o k + d)) (nI s) B = ri (A (2 + 9 * o k + 5) d) B ∧ nI (ss_ lw o c s + sl_ lw o s k) + A (2 + 9 * o k + 5) d = nI (adr A o c lw k d) := by
  obtain ⟨s, s1, s2, s3, s4, s5⟩ := pl_n h hc hd
  refine ⟨s, s1, (hc.2.2.2.2.1 d hd).2.2.2.trans s2, r_base h hk s1, ?_, ?_⟩
  · rw [r_place hc.2.2.2.1 (show d ≤ cm by omega), hc.mp (show d ≤ cm by omega), s3, s4]
  · unfold adr
    rw [s3, s5, nI_add]
    have h6 : ∀ n : Nat, (nI n).toNatClampNeg = n ∨ True := fun _ => Or.inr trivial
    have hb := mp_16 (S := A (2 + 9 * o k + 4)) (g := A (2 + 9 * o k + 6)) (s := nI s) d (fun j hj => hc.1.A5 j (by omega))
    have hc20 := hc.1.2.1
    rw [nI_clamp (by omega)]
theorem r_valueOf (h : LB A B o c lw) {k cm : Nat} (hk : k < c) (hc : MRc A B (o k) cm) {d : Nat} (hd : d < cm) : fn_Ref_valueOf 78 (nI (o k)) (nI (20 * o k + d)) B = ri (vdf A o c lw k d) B := by
  obtain ⟨s, s1, s2, s3, s4, s5⟩ := r_adr h hk hc hd
  have h6 := (h.2.1.2.2.2.1 k hk).1
  have hc20 := hc.1.2.1
  obtain ⟨q1, q2, q3, q4⟩ := hc.2.2.2.2.1 d hd
  unfold fn_Ref_valueOf vdf
  rw [r78_1, ld_t (N := 120) rfl rfl (by omega), show B 80 (20 * o k + d) = A (2 + 9 * o k + 1) d from q1]
  by_cases e8 : A (2 + 9 * o k + 1) d = 8
  · rw [if_pos e8, if_pos e8, r78_3, ld_t (N := 120) rfl rfl (by omega)]
    exact congrArg (fun v => ri v B) q3
  · rw [if_neg e8, if_neg e8, r78_4, ld_t (N := 120) rfl rfl (by omega), s2, vi_t rfl s3, r78_4, ld_t (N := 120) rfl rfl (by omega), s2, vi_t rfl s4, s5]
theorem r_out_lp (h : LB A B o c lw) {a : Nat} (ha : a < 16) : ∀ (n k : Nat), k ≤ c → c < n + k → (∀ j, j < k → ¬ exB A (o j) a) → ∃ x, fn_Ref_outside_2 n 78 (nI a) (nI k) B = ri x B ∧ VAL A o c lw a x
  | 0, k, h1, h2, _ => by omega
  | n + 1, k, h1, h2, h3 => by
    obtain ⟨l1, l2, l3, l4, l5⟩ := id h.2.1
    unfold fn_Ref_outside_2
    rw [g78_11, l2]
    by_cases hk : k = c
    · subst hk
      rw [if_pos (nI_le (Nat.le_refl _) (by omega)), vi_t rfl (r_largest h.1 h.2.1 ha)]
      have e0 := ec_0.mpr h3
      by_cases e1 : lg A o a k = 0
      · rw [if_pos e1]
        exact ⟨-1, rfl, Or.inr ⟨h3, Or.inr ⟨fun q => q.2 e1, rfl⟩⟩⟩
      · rw [if_neg e1, vi_t rfl (show fn_Ref_sum 78 0 B = _ from r_sum h (s := 0) (by decide)), vi_t rfl (show fn_Ref_sum 78 1 B = _ from r_sum h (s := 1) (by decide)), vi_t rfl (show fn_Ref_sum 78 2 B = _ from r_sum h (s := 2) (by decide)), vi_t rfl (r_cb h (show a ≤ 16 by omega)), nI_add, nI_add, nI_add]
        refine ⟨_, rfl, Or.inr ⟨h3, Or.inl ⟨⟨e0, e1⟩, ?_⟩⟩⟩
        show nI (sl_ lw o 0 k + sl_ lw o 1 k + sl_ lw o 2 k + cbA A o k a) = nI (0 + sl_ lw o 0 k + sl_ lw o 1 k + sl_ lw o 2 k + cbA A o k a)
        rw [Nat.zero_add]
    · obtain ⟨o6, -, ob⟩ := l4 k (by omega)
      obtain ⟨cm, hc⟩ := h.1 (o k) o6
      rw [if_neg (nI_ge (show k < c by omega) (by omega)), r78_12, ld_t (N := 6) rfl rfl (by omega), ob, vi_t rfl (r_exports hc ha), nI_1]
      by_cases e : exB A (o k) a
      · obtain ⟨x, hx, d1, -⟩ := r_defb hc ha
        obtain ⟨-, -, d, dc, dx, dk, dh⟩ := d1 e.1
        rw [zb_t e, if_neg (by decide), r78_12, ld_t (N := 6) rfl rfl (by omega), ob, vi_t rfl hx, dx, r78_12, ld_t (N := 6) rfl rfl (by omega), ob, vi_t rfl (r_valueOf h (show k < c by omega) hc dc)]
        have hc20 := hc.1.2.1
        exact ⟨_, rfl, Or.inl ⟨k, by omega, e, by rw [dh, nI_clamp (by omega)]⟩⟩
      · rw [zb_f e, if_pos (by decide)]
        exact r_out_lp h ha n (k + 1) (by omega) (by omega) (lt_s h3 e)
theorem r_outside (h : LB A B o c lw) {a : Nat} (ha : a < 16) : ∃ x, fn_Ref_outside 78 (nI a) B = ri x B ∧ VAL A o c lw a x := r_out_lp h ha FU 0 (Nat.zero_le _) (by have := h.2.1.2.2.1; have := fu_ge; omega) lt_0
-- the class's image table A' over the modules of A
theorem c_adr {A' : fm_I} (h : LB A B o c lw) (hf : FRI A A') (hbs : ∀ s k, s < 3 → k < c → A' (65 + o k) s = nI (ss_ lw o c s + sl_ lw o s k)) {k cm : Nat} (hk : k < c) (hc : MRc A B (o k) cm) {d : Nat} (hd : d < cm) : fn_Img_addressOf 63 (nI (o k)) (nI d) A' = ri (nI (adr A o c lw k d)) A' := by
  obtain ⟨s, s1, s2, s3, s4, s5⟩ := pl_n h hc hd
  have h6 := (h.2.1.2.2.2.1 k hk).1
  obtain ⟨hb, ha⟩ := isMod_m (o k) h6
  have hc20 := hc.1.2.1
  have e1 : fn_Mod_sectionOf (2 + 9 * o k) (nI d) A' = ri (nI s) A' := by
    unfold fn_Mod_sectionOf
    rw [mr3 hb, ld_t (mn4 hb) rfl (by omega), hf _ (by omega), s2]
  have e2 : fn_Mod_placeOf (2 + 9 * o k) (nI d) A' = ri (A (2 + 9 * o k + 5) d) A' := by
    unfold fn_Mod_placeOf
    rw [mr4 hb, ld_t (mn5 hb) rfl (by omega), hf _ (by omega)]
  unfold fn_Img_addressOf
  rw [r63_0, la_t ha rfl, r63_2, la_t (sh_64 (o k) h6) rfl, vi_t hb.1 e1, ld_t (sh_6570 (o k) h6) rfl s1, hbs s k s1 hk, vi_t hb.1 e2, s3, nI_add]
  unfold adr
  rw [s5]
theorem c_stands {A' : fm_I} (h : LB A B o c lw) (hf : FRI A A') (hbs : ∀ s k, s < 3 → k < c → A' (65 + o k) s = nI (ss_ lw o c s + sl_ lw o s k)) {k cm : Nat} (hk : k < c) (hc : MRc A B (o k) cm) {a : Nat} (ha : a < 16) : fn_Img_standsFor 63 (nI (o k)) (nI a) A' = ri (if bt (A (2 + 9 * o k) 9) a = true then vdf A o c lw k (A (2 + 9 * o k + 8) a).toNatClampNeg else A' 73 a) A' := by
  have h6 := (h.2.1.2.2.2.1 k hk).1
  obtain ⟨hb, hq⟩ := isMod_m (o k) h6
  have hc20 := hc.1.2.1
  have e1 : fn_Mod_defines (2 + 9 * o k) (nI a) A' = ri (zb (bt (A (2 + 9 * o k) 9) a = true)) A' := by
    unfold fn_Mod_defines
    rw [mg9 hb, hf _ (by omega), bi_t (px_has ha), rz_b]
  unfold fn_Img_standsFor
  rw [r63_0, la_t hq rfl, vi_t hb.1 e1]
  by_cases hd : bt (A (2 + 9 * o k) 9) a = true
  · obtain ⟨d, d1, d2, d3, d4, d5⟩ := hc.1.def_ ha hd
    have e2 : fn_Mod_holderOf (2 + 9 * o k) (nI a) A' = ri (nI d) A' := by
      unfold fn_Mod_holderOf
      rw [mr7 hb, ld_t (mn8 hb) rfl ha, hf _ (by omega), d4]
    have e3 : fn_Mod_kindOf (2 + 9 * o k) (nI d) A' = ri (A (2 + 9 * o k + 1) d) A' := by
      unfold fn_Mod_kindOf
      rw [mr0 hb, ld_t (mn1 hb) rfl (by omega), hf _ (by omega)]
    have e4 : fn_Mod_secondOf (2 + 9 * o k) (nI d) A' = ri (A (2 + 9 * o k + 3) d) A' := by
      unfold fn_Mod_secondOf
      rw [mr2 hb, ld_t (mn3 hb) rfl (by omega), hf _ (by omega)]
    rw [zb_t hd, if_neg (by decide), if_pos hd, vi_t hb.1 e2, vi_t hb.1 e3, d4, nI_clamp (by omega)]
    unfold vdf
    by_cases e8 : A (2 + 9 * o k + 1) d = 8
    · rw [if_pos e8, if_pos e8, vi_t hb.1 e4]
    · rw [if_neg e8, if_neg e8, vi_t rfl (c_adr h hf hbs hk hc d1)]
  · rw [zb_f hd, if_pos (by decide), if_neg hd, r63_5, ld_t (N := 16) rfl rfl ha]
end VA
