-- a walk looks at the cells below n only
theorem am_ws_cg {tc : Nat → ClassId} {ad : Nat → Nat} {n : Nat} {h h2 : am_H} (he : ∀ k, k < n → h k = h2 k) : am_ws tc ad n h = am_ws tc ad n h2 := by
  unfold am_ws
  exact List.map_congr_left fun k hk => by rw [he k (List.mem_range.mp hk)]
theorem am_AW.hc {M : am_M} {d mc ms : Nat} {SC : Option (Nat × (Nat → Int32))} {Q : Option am_V → Nat → am_H → Prop} {pc : Nat} {L : Nat → Option am_V} {st : List am_V} {n : Nat} {h h2 : am_H} {uc us : Nat} (he : ∀ k, k < n → h k = h2 k) (kk : am_AW M d mc ms SC Q pc L st n h2 uc us) : am_AW M d mc ms SC Q pc L st n h uc us := by
  intro p l e R s m args below meth c D tc A Qm ad H locs ls F X hP hD hS hl hret
  rw [am_ws_cg he] at hP hD
  exact kk p l e R s m args below meth c D tc A Qm ad H locs ls F X hP hD hS hl hret
theorem lI0_p {q : Nat} (h : q ≠ 78) : lI0 q = fun _ => 0 := funext fun k => lz (Or.inl h)
