theorem r0_0 {kk : Nat → pR} : gr 0 0 0 kk = kk 1 := gr_t rfl
theorem r0_1 {kk : Nat → pR} : gr 0 0 1 kk = kk 59 := gr_t rfl
theorem r0_2 {kk : Nat → pR} : gr 0 0 2 kk = kk 61 := gr_t rfl
theorem r0_3 {kk : Nat → pR} : gr 0 0 3 kk = kk 56 := gr_t rfl
theorem r0_4 {kk : Nat → pR} : gr 0 0 4 kk = kk 63 := gr_t rfl
theorem r0_5 {kk : Nat → pR} : gr 0 0 5 kk = kk 74 := gr_t rfl
theorem r56_0 {kk : Nat → pR} : gr 2 56 0 kk = kk 1 := gr_t rfl
theorem r56_1 {kk : Nat → pR} : gr 2 56 1 kk = kk 57 := gr_t rfl
theorem g56_2 {I : fm_I} {kk : Int32 → pR} : gi 2 56 2 I kk = kk (I 56 2) := gi_t rfl
theorem p56_2 {I : fm_I} {x : Int32} {kk : fm_I → pR} : pI 2 56 2 x I kk = kk (fm_up I 56 2 x) := pI_t rfl
theorem g56_3 {I : fm_I} {kk : Int32 → pR} : gi 2 56 3 I kk = kk (I 56 3) := gi_t rfl
theorem p56_3 {I : fm_I} {x : Int32} {kk : fm_I → pR} : pI 2 56 3 x I kk = kk (fm_up I 56 3 x) := pI_t rfl
theorem g56_4 {I : fm_I} {kk : Int32 → pR} : gi 2 56 4 I kk = kk (I 56 4) := gi_t rfl
theorem p56_4 {I : fm_I} {x : Int32} {kk : fm_I → pR} : pI 2 56 4 x I kk = kk (fm_up I 56 4 x) := pI_t rfl
theorem g56_5 {I : fm_I} {kk : Int32 → pR} : gi 2 56 5 I kk = kk (I 56 5) := gi_t rfl
theorem p56_5 {I : fm_I} {x : Int32} {kk : fm_I → pR} : pI 2 56 5 x I kk = kk (fm_up I 56 5 x) := pI_t rfl
theorem r63_0 {kk : Nat → pR} : gr 4 63 0 kk = kk 1 := gr_t rfl
theorem r63_1 {kk : Nat → pR} : gr 4 63 1 kk = kk 56 := gr_t rfl
theorem r63_2 {kk : Nat → pR} : gr 4 63 2 kk = kk 64 := gr_t rfl
theorem r63_3 {kk : Nat → pR} : gr 4 63 3 kk = kk 71 := gr_t rfl
theorem r63_4 {kk : Nat → pR} : gr 4 63 4 kk = kk 72 := gr_t rfl
theorem r63_5 {kk : Nat → pR} : gr 4 63 5 kk = kk 73 := gr_t rfl
theorem g63_6 {I : fm_I} {kk : Int32 → pR} : gi 4 63 6 I kk = kk (I 63 6) := gi_t rfl
theorem p63_6 {I : fm_I} {x : Int32} {kk : fm_I → pR} : pI 4 63 6 x I kk = kk (fm_up I 63 6 x) := pI_t rfl
theorem g63_7 {I : fm_I} {kk : Int32 → pR} : gi 4 63 7 I kk = kk (I 63 7) := gi_t rfl
theorem p63_7 {I : fm_I} {x : Int32} {kk : fm_I → pR} : pI 4 63 7 x I kk = kk (fm_up I 63 7 x) := pI_t rfl
theorem g63_8 {I : fm_I} {kk : Int32 → pR} : gi 4 63 8 I kk = kk (I 63 8) := gi_t rfl
theorem p63_8_0 {I : fm_I} {kk : fm_I → pR} : pZ 4 63 8 0 I kk = kk (fm_up I 63 8 0) := pZ_t rfl (by decide)
theorem p63_8_1 {I : fm_I} {kk : fm_I → pR} : pZ 4 63 8 1 I kk = kk (fm_up I 63 8 1) := pZ_t rfl (by decide)
theorem g63_9 {I : fm_I} {kk : Int32 → pR} : gi 4 63 9 I kk = kk (I 63 9) := gi_t rfl
theorem p63_9_0 {I : fm_I} {kk : fm_I → pR} : pZ 4 63 9 0 I kk = kk (fm_up I 63 9 0) := pZ_t rfl (by decide)
theorem p63_9_1 {I : fm_I} {kk : fm_I → pR} : pZ 4 63 9 1 I kk = kk (fm_up I 63 9 1) := pZ_t rfl (by decide)
theorem r74_0 {kk : Nat → pR} : gr 5 74 0 kk = kk 75 := gr_t rfl
theorem r74_1 {kk : Nat → pR} : gr 5 74 1 kk = kk 76 := gr_t rfl
theorem r74_2 {kk : Nat → pR} : gr 5 74 2 kk = kk 77 := gr_t rfl
theorem g74_3 {I : fm_I} {kk : Int32 → pR} : gi 5 74 3 I kk = kk (I 74 3) := gi_t rfl
theorem p74_3 {I : fm_I} {x : Int32} {kk : fm_I → pR} : pI 5 74 3 x I kk = kk (fm_up I 74 3 x) := pI_t rfl
theorem g74_4 {I : fm_I} {kk : Int32 → pR} : gi 5 74 4 I kk = kk (I 74 4) := gi_t rfl
theorem p74_4 {I : fm_I} {x : Int32} {kk : fm_I → pR} : pI 5 74 4 x I kk = kk (fm_up I 74 4 x) := pI_t rfl
theorem g74_5 {I : fm_I} {kk : Int32 → pR} : gi 5 74 5 I kk = kk (I 74 5) := gi_t rfl
theorem p74_5 {I : fm_I} {x : Int32} {kk : fm_I → pR} : pI 5 74 5 x I kk = kk (fm_up I 74 5 x) := pI_t rfl
theorem g74_6 {I : fm_I} {kk : Int32 → pR} : gi 5 74 6 I kk = kk (I 74 6) := gi_t rfl
theorem p74_6 {I : fm_I} {x : Int32} {kk : fm_I → pR} : pI 5 74 6 x I kk = kk (fm_up I 74 6 x) := pI_t rfl
theorem g74_7 {I : fm_I} {kk : Int32 → pR} : gi 5 74 7 I kk = kk (I 74 7) := gi_t rfl
theorem p74_7 {I : fm_I} {x : Int32} {kk : fm_I → pR} : pI 5 74 7 x I kk = kk (fm_up I 74 7 x) := pI_t rfl
theorem g74_8 {I : fm_I} {kk : Int32 → pR} : gi 5 74 8 I kk = kk (I 74 8) := gi_t rfl
theorem p74_8 {I : fm_I} {x : Int32} {kk : fm_I → pR} : pI 5 74 8 x I kk = kk (fm_up I 74 8 x) := pI_t rfl
theorem g74_9 {I : fm_I} {kk : Int32 → pR} : gi 5 74 9 I kk = kk (I 74 9) := gi_t rfl
theorem p74_9 {I : fm_I} {x : Int32} {kk : fm_I → pR} : pI 5 74 9 x I kk = kk (fm_up I 74 9 x) := pI_t rfl
theorem g74_10 {I : fm_I} {kk : Int32 → pR} : gi 5 74 10 I kk = kk (I 74 10) := gi_t rfl
theorem p74_10 {I : fm_I} {x : Int32} {kk : fm_I → pR} : pI 5 74 10 x I kk = kk (fm_up I 74 10 x) := pI_t rfl
theorem g74_11 {I : fm_I} {kk : Int32 → pR} : gi 5 74 11 I kk = kk (I 74 11) := gi_t rfl
theorem p74_11 {I : fm_I} {x : Int32} {kk : fm_I → pR} : pI 5 74 11 x I kk = kk (fm_up I 74 11 x) := pI_t rfl
theorem g74_12 {I : fm_I} {kk : Int32 → pR} : gi 5 74 12 I kk = kk (I 74 12) := gi_t rfl
theorem p74_12_0 {I : fm_I} {kk : fm_I → pR} : pZ 5 74 12 0 I kk = kk (fm_up I 74 12 0) := pZ_t rfl (by decide)
theorem p74_12_1 {I : fm_I} {kk : fm_I → pR} : pZ 5 74 12 1 I kk = kk (fm_up I 74 12 1) := pZ_t rfl (by decide)
theorem r78_0 {kk : Nat → pR} : gr 6 78 0 kk = kk 79 := gr_t rfl
theorem r78_1 {kk : Nat → pR} : gr 6 78 1 kk = kk 80 := gr_t rfl
theorem r78_2 {kk : Nat → pR} : gr 6 78 2 kk = kk 81 := gr_t rfl
theorem r78_3 {kk : Nat → pR} : gr 6 78 3 kk = kk 82 := gr_t rfl
theorem r78_4 {kk : Nat → pR} : gr 6 78 4 kk = kk 83 := gr_t rfl
theorem r78_5 {kk : Nat → pR} : gr 6 78 5 kk = kk 84 := gr_t rfl
theorem g78_6 {I : fm_I} {kk : Int32 → pR} : gi 6 78 6 I kk = kk (I 78 6) := gi_t rfl
theorem p78_6 {I : fm_I} {x : Int32} {kk : fm_I → pR} : pI 6 78 6 x I kk = kk (fm_up I 78 6 x) := pI_t rfl
theorem r78_7 {kk : Nat → pR} : gr 6 78 7 kk = kk 85 := gr_t rfl
theorem g78_8 {I : fm_I} {kk : Int32 → pR} : gi 6 78 8 I kk = kk (I 78 8) := gi_t rfl
theorem p78_8 {I : fm_I} {x : Int32} {kk : fm_I → pR} : pI 6 78 8 x I kk = kk (fm_up I 78 8 x) := pI_t rfl
theorem r78_9 {kk : Nat → pR} : gr 6 78 9 kk = kk 86 := gr_t rfl
theorem g78_10 {I : fm_I} {kk : Int32 → pR} : gi 6 78 10 I kk = kk (I 78 10) := gi_t rfl
theorem p78_10 {I : fm_I} {x : Int32} {kk : fm_I → pR} : pI 6 78 10 x I kk = kk (fm_up I 78 10 x) := pI_t rfl
theorem g78_11 {I : fm_I} {kk : Int32 → pR} : gi 6 78 11 I kk = kk (I 78 11) := gi_t rfl
theorem p78_11 {I : fm_I} {x : Int32} {kk : fm_I → pR} : pI 6 78 11 x I kk = kk (fm_up I 78 11 x) := pI_t rfl
theorem r78_12 {kk : Nat → pR} : gr 6 78 12 kk = kk 87 := gr_t rfl
theorem g78_13 {I : fm_I} {kk : Int32 → pR} : gi 6 78 13 I kk = kk (I 78 13) := gi_t rfl
theorem p78_13 {I : fm_I} {x : Int32} {kk : fm_I → pR} : pI 6 78 13 x I kk = kk (fm_up I 78 13 x) := pI_t rfl
theorem g78_14 {I : fm_I} {kk : Int32 → pR} : gi 6 78 14 I kk = kk (I 78 14) := gi_t rfl
theorem p78_14_0 {I : fm_I} {kk : fm_I → pR} : pZ 6 78 14 0 I kk = kk (fm_up I 78 14 0) := pZ_t rfl (by decide)
theorem p78_14_1 {I : fm_I} {kk : fm_I → pR} : pZ 6 78 14 1 I kk = kk (fm_up I 78 14 1) := pZ_t rfl (by decide)
theorem g78_15 {I : fm_I} {kk : Int32 → pR} : gi 6 78 15 I kk = kk (I 78 15) := gi_t rfl
theorem p78_15_0 {I : fm_I} {kk : fm_I → pR} : pZ 6 78 15 0 I kk = kk (fm_up I 78 15 0) := pZ_t rfl (by decide)
theorem p78_15_1 {I : fm_I} {kk : fm_I → pR} : pZ 6 78 15 1 I kk = kk (fm_up I 78 15 1) := pZ_t rfl (by decide)
theorem r78_16 {kk : Nat → pR} : gr 6 78 16 kk = kk 88 := gr_t rfl
theorem r78_17 {kk : Nat → pR} : gr 6 78 17 kk = kk 89 := gr_t rfl
theorem g78_18 {I : fm_I} {kk : Int32 → pR} : gi 6 78 18 I kk = kk (I 78 18) := gi_t rfl
theorem p78_18 {I : fm_I} {x : Int32} {kk : fm_I → pR} : pI 6 78 18 x I kk = kk (fm_up I 78 18 x) := pI_t rfl
theorem r78_19 {kk : Nat → pR} : gr 6 78 19 kk = kk 90 := gr_t rfl
theorem g78_20 {I : fm_I} {kk : Int32 → pR} : gi 6 78 20 I kk = kk (I 78 20) := gi_t rfl
theorem p78_20 {I : fm_I} {x : Int32} {kk : fm_I → pR} : pI 6 78 20 x I kk = kk (fm_up I 78 20 x) := pI_t rfl
theorem g78_21 {I : fm_I} {kk : Int32 → pR} : gi 6 78 21 I kk = kk (I 78 21) := gi_t rfl
theorem p78_21_0 {I : fm_I} {kk : fm_I → pR} : pZ 6 78 21 0 I kk = kk (fm_up I 78 21 0) := pZ_t rfl (by decide)
theorem p78_21_1 {I : fm_I} {kk : fm_I → pR} : pZ 6 78 21 1 I kk = kk (fm_up I 78 21 1) := pZ_t rfl (by decide)
theorem r78_22 {kk : Nat → pR} : gr 6 78 22 kk = kk 91 := gr_t rfl
theorem g78_23 {I : fm_I} {kk : Int32 → pR} : gi 6 78 23 I kk = kk (I 78 23) := gi_t rfl
theorem p78_23 {I : fm_I} {x : Int32} {kk : fm_I → pR} : pI 6 78 23 x I kk = kk (fm_up I 78 23 x) := pI_t rfl
theorem g78_24 {I : fm_I} {kk : Int32 → pR} : gi 6 78 24 I kk = kk (I 78 24) := gi_t rfl
theorem p78_24 {I : fm_I} {x : Int32} {kk : fm_I → pR} : pI 6 78 24 x I kk = kk (fm_up I 78 24 x) := pI_t rfl
theorem g78_25 {I : fm_I} {kk : Int32 → pR} : gi 6 78 25 I kk = kk (I 78 25) := gi_t rfl
theorem p78_25 {I : fm_I} {x : Int32} {kk : fm_I → pR} : pI 6 78 25 x I kk = kk (fm_up I 78 25 x) := pI_t rfl
theorem g78_26 {I : fm_I} {kk : Int32 → pR} : gi 6 78 26 I kk = kk (I 78 26) := gi_t rfl
theorem p78_26 {I : fm_I} {x : Int32} {kk : fm_I → pR} : pI 6 78 26 x I kk = kk (fm_up I 78 26 x) := pI_t rfl
theorem g78_27 {I : fm_I} {kk : Int32 → pR} : gi 6 78 27 I kk = kk (I 78 27) := gi_t rfl
theorem p78_27 {I : fm_I} {x : Int32} {kk : fm_I → pR} : pI 6 78 27 x I kk = kk (fm_up I 78 27 x) := pI_t rfl
theorem r78_28 {kk : Nat → pR} : gr 6 78 28 kk = kk 92 := gr_t rfl
theorem r78_29 {kk : Nat → pR} : gr 6 78 29 kk = kk 93 := gr_t rfl
theorem g78_30 {I : fm_I} {kk : Int32 → pR} : gi 6 78 30 I kk = kk (I 78 30) := gi_t rfl
theorem p78_30 {I : fm_I} {x : Int32} {kk : fm_I → pR} : pI 6 78 30 x I kk = kk (fm_up I 78 30 x) := pI_t rfl
theorem g78_31 {I : fm_I} {kk : Int32 → pR} : gi 6 78 31 I kk = kk (I 78 31) := gi_t rfl
theorem p78_31 {I : fm_I} {x : Int32} {kk : fm_I → pR} : pI 6 78 31 x I kk = kk (fm_up I 78 31 x) := pI_t rfl
theorem fm_up_e (I : fm_I) (p k : Nat) (x : Int32) (q j : Nat) : fm_up I p k x q j = if q = p ∧ j = k then x else I q j := by
  by_cases h1 : q = p
  · subst h1
    by_cases h2 : j = k
    · subst h2
      rw [fm_up_s, if_pos ⟨rfl, rfl⟩]
    · rw [fm_up_k _ _ h2, if_neg (fun h => h2 h.2)]
  · rw [fm_up_p _ _ _ h1, if_neg (fun h => h1 h.1)]
theorem vv_id {ci b : Nat} {f : pR} {J : fm_I} (h : sh_o ci b = true) (hf : f = rv J) : vv ci b f (fun K => rv K) = rv J := vv_t h hf
