abbrev two (op : Nat) : Prop := (1 ≤ op ∧ op ≤ 6) ∨ op = 8
theorem wd_n {k : Nat} (h : k < 65536) : wd (nI k) := ⟨k, h, rfl⟩
theorem wd_0 : wd 0 := ⟨0, by decide, rfl⟩
theorem wd_upd {w : Nat → Int32} {T m : Nat} {a : Int32} (h : ∀ j, j < T → wd (w j)) (ha : wd a) : ∀ j, j < T → wd (upd w m a j) := fun j hj => by
  by_cases e : j = m
  · subst e; rw [pk_us]; exact ha
  · rw [pk_un e]; exact h j hj
section RUN
variable {A0 A B0 B : fm_I} {T f t : Nat} {x a r s o : Int32} {w tp L : Nat → Int32} {p : Nat}
theorem c_twox1 {op n : Nat} (hA : MA A0 A T f t x a r (nI p) s o w tp L) (hT : T ≤ 200) (hp : p < T) (hp1 : ¬ p + 1 < T) : fn_Mac_doTwoWords 74 (nI op) (nI n) A = rv (fm_up A 74 8 3) := by
  have h5 := hA.1.2.2.2.2.1
  unfold fn_Mac_doTwoWords
  rw [g74_7, h5, nI_1, vi_t rfl (c_in hA hT (p + 1) (by omega)), zb_f hp1, if_pos (by decide), p74_8]
theorem c_twox2 {op n m : Nat} (hA : MA A0 A T f t x a r (nI p) s o w tp L) (hT : T ≤ 200) (hp1 : p + 1 < T) (hm : w (p + 1) = nI m) (hm6 : m < 65536) (ho : op < 16) (hb : blk op m T x) : fn_Mac_doTwoWords 74 (nI op) (nI n) A = rv (fm_up A 74 8 3) := by
  have h5 := hA.1.2.2.2.2.1
  have h10 := hA.2.1
  unfold fn_Mac_doTwoWords
  rw [g74_7, h5, nI_1, vi_t rfl (c_in hA hT (p + 1) (by omega)), zb_t hp1, if_neg (by decide), r74_0, g74_7, h5, nI_1, ld_t (N := 200) rfl rfl (show p + 1 < 200 by omega), h10 (p + 1) hp1, hm, vi_t rfl (c_touch hA hT ho hm6), zb_f (fun q => q hb), if_pos (by decide), p74_8]
theorem c_long {op : Nat} {A : fm_I} (ho : op < 16) : fn_Mac_isTwoWordsLong (nI op) A = ri (zb (two op)) A := by
  unfold fn_Mac_isTwoWordsLong
  rw [bi_t (px_within _ _ _ _)]
  by_cases e : 1 ≤ op ∧ op ≤ 6
  · rw [zb_t (show (1 : Int32) ≤ nI op ∧ nI op ≤ 6 from ⟨nI_le (a := 1) e.1 (by omega), nI_le (b := 6) e.2 (by omega)⟩), if_neg (by decide), rz_1, zb_t (Or.inl e)]
  · rw [zb_f (fun q => e ⟨(nI_leI (a := 1) (by decide) (by omega)).mp q.1, (nI_leI (b := 6) (by omega) (by decide)).mp q.2⟩), if_pos (by decide)]
    by_cases e8 : op = 8
    · rw [if_pos (show nI op = 8 by rw [e8]; rfl), rz_1, zb_t (Or.inr e8)]
    · rw [if_neg (show ¬ nI op = 8 from fun q => e8 ((nI_eq (a := op) (b := 8) (by omega) (by decide)).mp q)), rz_0, zb_f (fun q => q.elim e e8)]
/-- the class's step, up to the operation itself -/
theorem c_step {v : Nat} (hA : MA A0 A T f t x a r (nI p) s o w tp L) (hT : T ≤ 200) (hp : p < T) (hv : w p = nI v) (hv6 : v < 65536) : fn_Mac_doStep 74 A = if 13 < v / 4096 then rv (fm_up A 74 8 2) else if two (v / 4096) then vv 5 74 (fn_Mac_doTwoWords 74 (nI (v / 4096)) (nI (v % 4096)) A) (fun J => rv J) else vv 5 74 (fn_Mac_doOneWord 74 (nI (v / 4096)) (nI (v % 4096)) A) (fun J => rv J) := by
  have h5 := hA.1.2.2.2.2.1
  have h10 := hA.2.1
  unfold fn_Mac_doStep
  rw [g74_7, h5, vi_t rfl (c_in hA hT p (by omega)), zb_t hp, if_neg (by decide), r74_0, g74_7, h5, ld_t (N := 200) rfl rfl (show p < 200 by omega), r74_0, g74_7, h5, ld_t (N := 200) rfl rfl (show p < 200 by omega), h10 p hp, hv, n_div hv6]
  by_cases e : 13 < v / 4096
  · rw [if_neg (show ¬ nI (v / 4096) ≤ 13 from nI_ge (a := 13) e (by omega)), if_pos e, p74_8]
  · rw [if_pos (show nI (v / 4096) ≤ 13 from nI_le (b := 13) (by omega) (by decide)), if_neg e, bi_t (c_long (by omega))]
    have hr := n_rem hv6
    rw [n_div hv6] at hr
    by_cases e2 : two (v / 4096)
    · rw [zb_t e2, if_neg (by decide), if_pos e2, hr]
    · rw [zb_f e2, if_pos (by decide), if_neg e2, hr]
theorem c_stepx (hA : MA A0 A T f t x a r (nI p) s o w tp L) (hT : T ≤ 200) (hp : ¬ p < T) (hp6 : p < 65536) : fn_Mac_doStep 74 A = rv (fm_up A 74 8 3) := by
  have h5 := hA.1.2.2.2.2.1
  unfold fn_Mac_doStep
  rw [g74_7, h5, vi_t rfl (c_in hA hT p (by omega)), zb_f hp, if_pos (by decide), p74_8]
theorem r_hx (hB : MB B0 B T f t x a r (nI p) s o w tp L) (hT : T ≤ 200) (hp : ¬ p < T) (hp6 : p < 65536) : fn_Ref_hindrance 78 B = ri 3 B := by
  have h5 := hB.1.2.2.2.2.1
  unfold fn_Ref_hindrance
  rw [g78_25, h5, vi_t rfl (r_in hB hT p (by omega)), zb_f hp, if_pos (by decide)]
/-- what stands in the way, up to the operation -/
theorem r_h {v : Nat} (hB : MB B0 B T f t x a r (nI p) s o w tp L) (hT : T ≤ 200) (hp : p < T) (hv : w p = nI v) (hv6 : v < 65536) {ma : Nat} (ha : a = nI ma) (hma : ma < 65536) {m : Nat} (hwm : p + 1 < T → w (p + 1) = nI m ∧ m < 65536) : ∃ z, fn_Ref_hindrance 78 B = ri z B ∧ z = (if 13 < v / 4096 then 2 else if v / 4096 = 12 then (if ma < T then 0 else 3) else if two (v / 4096) then (if p + 1 < T ∧ ¬ blk (v / 4096) m T x then 0 else 3) else 0) := by
  have h2 := hB.1.2.1
  have h3 := hB.1.2.2.1
  have h5 := hB.1.2.2.2.2.1
  have h10 := hB.2.1
  refine ⟨_, ?_, rfl⟩
  unfold fn_Ref_hindrance
  rw [g78_25, h5, vi_t rfl (r_in hB hT p (by omega)), zb_t hp, if_neg (by decide), r78_22, g78_25, h5, ld_t (N := 200) rfl rfl (show p < 200 by omega), h10 p hp, hv, bn_t, n_shr hv6]
  have ho : v / 4096 < 16 := by omega
  generalize v / 4096 = op at ho
  have ne : ∀ c, c < 16 → op ≠ c → ¬ nI op = nI c := fun c hc e q => e ((nI_eq (by omega) (by omega)).mp q)
  by_cases e13 : 13 < op
  · rw [if_neg (show ¬ nI op ≤ 13 from nI_ge (a := 13) e13 (by omega)), if_pos e13]
  · rw [if_pos (show nI op ≤ 13 from nI_le (b := 13) (by omega) (by decide)), if_neg e13]
    by_cases e12 : op = 12
    · rw [if_pos (show nI op = 12 by rw [e12]; rfl), if_pos e12, g78_23, h3, ha, vi_t rfl (r_in hB hT ma (by omega))]
      by_cases em : ma < T
      · rw [zb_t em, if_neg (by decide), if_pos em]
      · rw [zb_f em, if_pos (by decide), if_neg em]
    · rw [if_neg (show ¬ nI op = 12 from ne 12 (by decide) e12), if_neg e12]
      by_cases e2 : two op
      · have n0 : op ≠ 0 := by omega
        have n7 : op ≠ 7 := by omega
        rw [if_neg (show ¬ nI op = 0 from ne 0 (by decide) n0), if_neg (show ¬ nI op = 7 from ne 7 (by decide) n7), if_pos (show nI op ≤ 8 from nI_le (b := 8) (by omega) (by decide)), if_pos e2, g78_25, h5, nI_1, vi_t rfl (r_in hB hT (p + 1) (by omega))]
        by_cases hp1 : p + 1 < T
        · obtain ⟨hm, hm6⟩ := hwm hp1
          rw [zb_t hp1, if_neg (by decide), r78_22, g78_25, h5, nI_1, ld_t (N := 200) rfl rfl (show p + 1 < 200 by omega), h10 (p + 1) hp1, hm]
          have hq : (p + 1 < T ∧ ¬ blk op m T x) ↔ ¬ blk op m T x := ⟨fun q => q.2, fun q => ⟨hp1, q⟩⟩
          have h130 : ¬ (2 ≤ op ∧ op ≤ 5 ∧ ¬ m < T) → fn_Ref_hindrance_130 78 (nI op) (nI m) B = ri (if p + 1 < T ∧ ¬ blk op m T x then 0 else 3) B := by
            intro hnb
            unfold fn_Ref_hindrance_130
            by_cases e3 : op = 3
            · rw [if_pos (show nI op = 3 by rw [e3]; rfl), r78_17, ld_t (N := 3) (j := 0) rfl (by decide) (by decide), h2]
              by_cases ex : x ≤ nI m
              · rw [if_pos ex, if_pos (hq.mpr (by rintro (q | q); exact hnb q; exact q.2 ex))]
              · rw [if_neg ex, if_neg (fun q => hq.mp q (Or.inr ⟨e3, ex⟩))]
            · rw [if_neg (show ¬ nI op = 3 from ne 3 (by decide) e3), if_pos (hq.mpr (by rintro (q | q); exact hnb q; exact e3 q.1))]
          by_cases e1 : op < 2
          · rw [if_pos (show nI op < 2 from nI_lt (b := 2) e1 (by decide)), if_pos (by decide)]
            exact h130 (fun q => by omega)
          · rw [if_neg (show ¬ nI op < 2 from nI_nlt (b := 2) (by omega) (by omega))]
            by_cases e5 : 5 < op
            · rw [if_pos (show (5 : Int32) < nI op from nI_lt (a := 5) e5 (by omega)), if_pos (by decide)]
              exact h130 (fun q => by omega)
            · rw [if_neg (show ¬ (5 : Int32) < nI op from nI_nlt (a := 5) (by omega) (by decide)), if_neg (by decide), vi_t rfl (r_in hB hT m (by omega))]
              by_cases em : m < T
              · rw [zb_t em, if_neg (by decide)]
                exact h130 (fun q => q.2.2 em)
              · rw [zb_f em, if_pos (by decide), if_neg (fun q => hq.mp q (Or.inl ⟨by omega, by omega, em⟩))]
        · rw [zb_f hp1, if_pos (by decide), if_neg (fun q => hp1 q.1)]
      · rw [if_neg e2]
        by_cases n0 : op = 0
        · rw [if_pos (show nI op = 0 by rw [n0]; rfl)]
        · rw [if_neg (show ¬ nI op = 0 from ne 0 (by decide) n0)]
          by_cases n7 : op = 7
          · rw [if_pos (show nI op = 7 by rw [n7]; rfl)]
          · rw [if_neg (show ¬ nI op = 7 from ne 7 (by decide) n7), if_neg (show ¬ nI op ≤ 8 from nI_ge (a := 8) (by omega) (by omega))]
end RUN
