-- words written, both sides in step
/-- what the name a stands for in module k of the order -/
def std (A : fm_I) (o : Nat → Nat) (c : Nat) (lw : Nat → Nat → Nat) (v : Nat → Int32) (k a : Nat) : Int32 := if bt (A (2 + 9 * o k) 9) a = true then vdf A o c lw k (A (2 + 9 * o k + 8) a).toNatClampNeg else v a
/-- words of the image on both sides -/
def WR (A' B : fm_I) : Prop := ∀ i, i < 200 → B 88 i = A' 71 i ∧ wd (A' 71 i)
theorem WR.up {A' B : fm_I} (h : WR A' B) {w : Int32} (hw : wd w) (i : Nat) : WR (fm_up A' 71 i w) (fm_up B 88 i w) := fun j hj => by
  by_cases e : j = i
  · subst e; rw [fm_up_s, fm_up_s]; exact ⟨rfl, hw⟩
  · rw [fm_up_k _ _ e, fm_up_k _ _ e]; exact h j hj
section WR
variable {A B : fm_I} {o : Nat → Nat} {c : Nat} {lw : Nat → Nat → Nat} {want : Int32}
theorem LB.cgB {B' : fm_I} (h : LB A B o c lw) (hB : ∀ q, q ≠ 88 → B' q = B q) : LB A B' o c lw := by
  obtain ⟨h1, ⟨l1, l2, l3, l4, l5⟩, h3⟩ := h
  exact ⟨MRl.cgB h1 (fun q q1 q2 => hB q (by omega)), ⟨l1, by rw [hB 78 (by decide)]; exact l2, l3, fun k hk => by rw [hB 87 (by decide)]; exact l4 k hk, l5⟩, h3⟩
theorem MRc.cgB {B' : fm_I} {m cm : Nat} (h : MRc A B m cm) (hB : ∀ q, q ≠ 88 → B' q = B q) : MRc A B' m cm := h.cg (fun _ _ _ => rfl) (by rw [hB 79 (by decide)]) (fun k _ => by
  rw [hB 80 (by decide), hB 81 (by decide), hB 82 (by decide), hB 83 (by decide), hB 84 (by decide)]; exact ⟨rfl, rfl, rfl, rfl, rfl⟩)
theorem r_stands (h : LB A B o c lw) (hd : ∀ a, a < 16 → ∀ i j, i < j → j < c → ¬ (exB A (o i) a ∧ exB A (o j) a)) {v : Nat → Int32} (hv : VS A o c lw c v) {k cm a : Nat} (hk : k < c) (hc : MRc A B (o k) cm) (ha : a < 16) : fn_Ref_standsFor 78 (nI (o k)) (nI a) B = ri (std A o c lw v k a) B := by
  obtain ⟨x, hx, d1, d2⟩ := r_defb hc ha
  unfold fn_Ref_standsFor std
  rw [vi_t rfl hx]
  by_cases e : bt (A (2 + 9 * o k) 9) a = true
  · obtain ⟨n1, -, d, dc, dx, dk, dh⟩ := d1 e
    have hc20 := hc.1.2.1
    rw [if_neg n1, if_pos e, dx, vi_t rfl (r_valueOf h hk hc dc), dh, nI_clamp (by omega)]
  · obtain ⟨y, hy, hV⟩ := r_outside h ha
    rw [if_pos (d2 e).1, if_neg e, vi_t rfl hy, VAL.uniq (hd a ha) hV (hv a ha)]
theorem vdf_wd (h : LB A B o c lw) (hT : ss_ lw o c 3 ≤ 200) {k cm d : Nat} (hk : k < c) (hc : MRc A B (o k) cm) (hd : d < cm) : wd (vdf A o c lw k d) := by
  unfold vdf
  by_cases e8 : A (2 + 9 * o k + 1) d = 8
  · rw [if_pos e8]; exact (hc.1.2.2.1 d hd).2.2.2.2.2.2.1 e8
  · rw [if_neg e8]; exact wd_n (by have := adr_le h hk hc hd; omega)
theorem cbA_le (h : LB A B o c lw) : ∀ a, a ≤ 16 → cbA A o c a ≤ 16 * a
  | 0, _ => Nat.le_refl _
  | a + 1, ha => by
    have := cbA_le h a (by omega)
    have := (lgN_eq h (show a < 16 by omega)).2
    rw [cbA_s]
    split <;> omega
theorem v_wd (h : LB A B o c lw) (hT : ss_ lw o c 3 ≤ 200) {v : Nat → Int32} (hv : VS A o c lw c v) {a : Nat} (ha : a < 16) (hn : (∃ k, k < c ∧ exB A (o k) a) ∨ loP A o c a) : wd (v a) := by
  rcases hv a ha with ⟨k, k1, k2, k3⟩ | ⟨n1, ⟨q1, q2⟩ | ⟨q1, q2⟩⟩
  · obtain ⟨cm, hc⟩ := h.1 (o k) (h.2.1.2.2.2.1 k k1).1
    obtain ⟨d, d1, d2, d3, d4, d5⟩ := hc.1.def_ ha k2.1
    have hc20 := hc.1.2.1
    rw [k3, d4, nI_clamp (by omega)]
    exact vdf_wd h hT k1 hc d1
  · rw [q2]
    exact wd_n (by have := cbA_le h a (by omega); omega)
  · rcases hn with ⟨k, k1, k2⟩ | q
    · exact absurd k2 (n1 k k1)
    · exact absurd q q1
theorem w_known (h : LB A B o c lw) (hw : ∀ a, a < 16 → ¬ wnt A o c want a) {k cm d a : Nat} (hk : k < c) (hc : MRc A B (o k) cm) (hd : d < cm) (h46 : A (2 + 9 * o k + 1) d = 4 ∨ A (2 + 9 * o k + 1) d = 6) (ea : A (2 + 9 * o k + 2) d = nI a) (ha : a < 16) (hn : ¬ bt (A (2 + 9 * o k) 9) a = true) : (∃ k, k < c ∧ exB A (o k) a) ∨ loP A o c a := by
  by_cases e : ∃ k, k < c ∧ exB A (o k) a
  · exact Or.inl e
  · right
    have hlg := (lg_in h.1 (fun j hj => (h.2.1.2.2.2.1 j hj).1) ha c (Nat.le_refl _)).2
    have e0 : ec A o a c = 0 := ec_0.mpr (fun j hj z => e ⟨j, hj, z⟩)
    refine ⟨e0, fun z => ?_⟩
    have ncm := hlg.mp z
    exact hw a ha ⟨Or.inr ⟨k, hk, ⟨Or.inr ((hc.1.2.2.2.2.2.2.1 a (by omega)).mpr ⟨d, hd, h46, ea⟩), hn, ncm k hk⟩⟩, ec_0.mp e0, ncm⟩
theorem std_wd (h : LB A B o c lw) (hw : ∀ a, a < 16 → ¬ wnt A o c want a) (hT : ss_ lw o c 3 ≤ 200) {v : Nat → Int32} (hv : VS A o c lw c v) {k cm d a : Nat} (hk : k < c) (hc : MRc A B (o k) cm) (hd : d < cm) (h46 : A (2 + 9 * o k + 1) d = 4 ∨ A (2 + 9 * o k + 1) d = 6) (ea : A (2 + 9 * o k + 2) d = nI a) (ha : a < 16) : wd (std A o c lw v k a) := by
  unfold std
  by_cases e : bt (A (2 + 9 * o k) 9) a = true
  · obtain ⟨d', d1, d2, d3, d4, d5⟩ := hc.1.def_ ha e
    have hc20 := hc.1.2.1
    rw [if_pos e, d4, nI_clamp (by omega)]
    exact vdf_wd h hT hk hc d1
  · rw [if_neg e]
    exact v_wd h hT hv ha (w_known h hw hk hc hd h46 ea ha e)
theorem n_jw {s : Nat} (hs : s < 4) (x : Int32) : wd ((36864 + 256 * nI s) + (x &&& 255)) := by
  obtain ⟨y, h1, h2⟩ := pk_andE x (m := 255) 8 (by decide)
  rw [h2, show (256 : Int32) * nI s = nI (256 * s) from pk_mul 256 s, show (36864 : Int32) + nI (256 * s) = nI (36864 + 256 * s) from nI_add 36864 _, nI_add]
  exact wd_n (by omega)
theorem n_jl {s : Nat} (hs : s < 4) : wd (32768 + 256 * nI s) := by
  rw [show (256 : Int32) * nI s = nI (256 * s) from pk_mul 256 s, show (32768 : Int32) + nI (256 * s) = nI (32768 + 256 * s) from nI_add 32768 _]
  exact wd_n (by omega)
/-- the distance of a short jump, both sides -/
theorem w_dist {A' : fm_I} (hf : FRI A A') {k cm d : Nat} (h6 : o k < 6) (hc : MRc A B (o k) cm) (hd : d < cm) (e6 : A (2 + 9 * o k + 1) d = 6) (eg : A (2 + 9 * o k + 6) d = 0) : ∃ x, fn_Mod_distanceOf (2 + 9 * o k) (nI d) A' = ri x A' ∧ fn_Ref_distance 78 (nI (o k)) (nI (20 * o k + d)) B = ri x B := by
  obtain ⟨hb, hq⟩ := isMod_m (o k) h6
  have hc20 := hc.1.2.1
  obtain ⟨d', m1, m2, m3⟩ := (hc.2.1.1 d hd).2.2 e6 eg
  have hd' := (md_some m1).1
  refine ⟨(A (2 + 9 * o k + 5) d' - A (2 + 9 * o k + 5) d) - 1, ?_, ?_⟩
  · have := c_dist (I := A') hb (hc.1.cgA (fun q q1 q2 => hf q (by omega))) hd (by rw [hf _ (by omega)]; exact e6) (d := d') (by rw [hf (2 + 9 * o k + 1) (by omega), hf (2 + 9 * o k + 2) (by omega)]; exact m1)
    rw [hf (2 + 9 * o k + 5) (by omega)] at this
    exact this
  · obtain ⟨q1, q2, q3, q4⟩ := hc.2.2.2.2.1 d hd
    obtain ⟨t1, t2, t3, t4⟩ := hc.2.2.2.2.1 d' hd'
    have hmd : md (sK B (o k)) (sA B (o k)) (B 81 (20 * o k + d)) cm = some d' := by
      rw [md_kg cm hc.kg, show B 81 (20 * o k + d) = A (2 + 9 * o k + 2) d from q2]; exact m1
    have p1 := hc.2.1.2.2.2 d' hd'
    have p2 := hc.2.1.2.2.2 d hd
    rw [m3] at p1
    rw [(hc.1.2.2.1 d hd).2.2.2.2.1 e6] at p2
    unfold fn_Ref_distance
    rw [r78_2, ld_t (N := 120) rfl rfl (by omega), vi_t rfl (r_def hc.2.2.2.1), hmd, show rd (o k) (some d') = nI (20 * o k + d') from rfl, if_neg (show ¬ nI (20 * o k + d') < 0 from nI_pos (by omega)), r78_1, ld_t (N := 120) rfl rfl (show 20 * o k + d' < 120 by omega), if_pos (show B 80 (20 * o k + d') = 0 from t1.trans m2), r78_4, ld_t (N := 120) rfl rfl (show 20 * o k + d' < 120 by omega), if_pos (show B 83 (20 * o k + d') = 0 from t4.trans m3), vi_t rfl (r_place hc.2.2.2.1 (show d' ≤ cm by omega)), vi_t rfl (r_place hc.2.2.2.1 (show d ≤ cm by omega)), hc.mp (show d' ≤ cm by omega), hc.mp (show d ≤ cm by omega), p1, p2]
end WR
