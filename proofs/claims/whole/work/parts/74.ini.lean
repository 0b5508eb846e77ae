-- both objects as they begin
def lI0 : fm_I := fun q k => if q = 78 ∧ k = 10 then -1 else 0
theorem lz {q k : Nat} (h : q ≠ 78 ∨ k ≠ 10) : lI0 q k = 0 := if_neg (fun z => h.elim (fun w => w z.1) (fun w => w z.2))
theorem rel_0 : Rel lI0 lI0 := by
  refine ⟨⟨0, 0, by decide, by decide, lz (by decide), lz (by decide), lz (by decide), lz (by decide), ⟨fun j hj => absurd hj (by omega), fun j hj => absurd hj (by omega), fun i j hi => absurd hi (by omega)⟩, fun j hj => absurd hj (by omega), fun j hj => absurd hj (by omega), fun i j hi => absurd hi (by omega), fun i j hi => absurd hi (by omega)⟩, fun m hm => ⟨0, ?_, ?_, fun k hk => absurd hk (by omega), ⟨hm, by decide, lz (Or.inl (by decide)), fun k hk => absurd hk (by omega)⟩, fun k hk => absurd hk (by omega), ⟨fun k hk => absurd hk (by omega), fun _ _ k hk => absurd hk (by omega)⟩, fun k hk => absurd hk (by omega)⟩, ⟨⟨0, by decide, lz (by decide), lz (by decide), fun j hj => absurd hj (by omega)⟩, ?_⟩, Or.inl ⟨lz (by decide), lz (by decide)⟩, ⟨fun j _ => by rw [lz (by omega), lz (by omega)], Or.inr ⟨lz (by decide), lz (by decide)⟩⟩⟩
  · have z : ∀ a, a < 32 → ∀ Q : Nat → Prop, (bt 0 a = true ↔ ∃ k, k < 0 ∧ Q k) := fun a _ Q => ⟨fun q => (by rw [b_0] at q; cases q), fun ⟨k, hk, _⟩ => absurd hk (by omega)⟩
    refine ⟨lz (by omega), by decide, fun k hk => absurd hk (by omega), fun a ha => ?_, fun a ha => ?_, fun a ha => ?_, fun a ha => ?_, fun k a hk => absurd hk (by omega)⟩
    · rw [lz (by omega)]; exact z a ha _
    · rw [lz (by omega)]; exact z a ha _
    · rw [lz (by omega)]; exact z a ha _
    · rw [lz (by omega)]; exact z a ha _
  · exact ⟨fun j hj => absurd hj (by omega), fun _ _ k hk => absurd hk (by omega), fun s hs => lz (by omega), fun j hj => absurd hj (by omega)⟩
  · rw [lz (by decide), lz (by decide), lz (by decide), lz (by decide)]; decide
/-- the law's loop from its beginning -/
theorem law_all (S : Nat × (Nat → Int32)) (hS : S.1 ≤ 10000) : ∃ J, fn_Law_law_18 S FU 0 78 0 lI0 = ri 1 J := law_ok S (by omega) FU 0 lI0 rel_0 (Nat.zero_le _) (by show S.1 < 5 * 4096 + 0; omega)
