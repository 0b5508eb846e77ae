-- the arrays of references, and all cells together
theorem gm_6 : gm 1 6 = fun i => if i < 6 then some (2 + 9 * i) else none := funext fun i => by
  match i with
  | 0 => rfl
  | 1 => rfl
  | 2 => rfl
  | 3 => rfl
  | 4 => rfl
  | 5 => rfl
  | j + 6 =>
    show gm 1 6 (j + 6) = if j + 6 < 6 then some (2 + 9 * (j + 6)) else none
    rw [if_neg (by omega)]
    show va_up (va_up (va_up (va_up (va_up (va_up (fun _ => none) 0 _) 1 _) 2 _) 3 _) 4 _) 5 _ (j + 6) = none
    rw [va_up_ne _ _ (by omega), va_up_ne _ _ (by omega), va_up_ne _ _ (by omega), va_up_ne _ _ (by omega), va_up_ne _ _ (by omega), va_up_ne _ _ (by omega)]
set_option maxRecDepth 100000 in
theorem xl_1a : hl xL 1 = aM 6 (gm 1 6) := by rfl
theorem xl_1 : hl xL 1 = fm_hp lI0 1 := by
  rw [xl_1a, gm_6]
  rfl
set_option maxRecDepth 100000 in
theorem xl_64a : hl xL 64 = aG 64 := by rfl
theorem xl_64 : hl xL 64 = fm_hp lI0 64 := by
  rw [xl_64a]
  show aG 64 = .inl (3, 6, .inr (fun i => if i < 6 then some (65 + i) else none))
  rfl
def xP (k : Nat) : Prop := hl xL k = fm_hp lI0 k
theorem xns {P : Nat → Prop} {n m : Nat} (e : m = n + 1) (h : ∀ k, k < n → P k) (hn : P n) : ∀ k, k < m → P k := fun k hk => by
  by_cases q : k = n
  · rw [q]; exact hn
  · exact h k (by omega)
theorem xa_0 : ∀ k, k < 0 → xP k := fun k hk => absurd hk (Nat.not_lt_zero k)
theorem xa_1 : ∀ k, k < 1 → xP k := xns rfl xa_0 xl_0
theorem xa_2 : ∀ k, k < 2 → xP k := xns rfl xa_1 xl_1
theorem xa_3 : ∀ k, k < 3 → xP k := xns rfl xa_2 xl_2
theorem xa_4 : ∀ k, k < 4 → xP k := xns rfl xa_3 xl_3
theorem xa_5 : ∀ k, k < 5 → xP k := xns rfl xa_4 xl_4
theorem xa_6 : ∀ k, k < 6 → xP k := xns rfl xa_5 xl_5
theorem xa_7 : ∀ k, k < 7 → xP k := xns rfl xa_6 xl_6
theorem xa_8 : ∀ k, k < 8 → xP k := xns rfl xa_7 xl_7
theorem xa_9 : ∀ k, k < 9 → xP k := xns rfl xa_8 xl_8
theorem xa_10 : ∀ k, k < 10 → xP k := xns rfl xa_9 xl_9
theorem xa_11 : ∀ k, k < 11 → xP k := xns rfl xa_10 xl_10
theorem xa_12 : ∀ k, k < 12 → xP k := xns rfl xa_11 xl_11
theorem xa_13 : ∀ k, k < 13 → xP k := xns rfl xa_12 xl_12
theorem xa_14 : ∀ k, k < 14 → xP k := xns rfl xa_13 xl_13
theorem xa_15 : ∀ k, k < 15 → xP k := xns rfl xa_14 xl_14
theorem xa_16 : ∀ k, k < 16 → xP k := xns rfl xa_15 xl_15
theorem xa_17 : ∀ k, k < 17 → xP k := xns rfl xa_16 xl_16
theorem xa_18 : ∀ k, k < 18 → xP k := xns rfl xa_17 xl_17
theorem xa_19 : ∀ k, k < 19 → xP k := xns rfl xa_18 xl_18
theorem xa_20 : ∀ k, k < 20 → xP k := xns rfl xa_19 xl_19
theorem xa_21 : ∀ k, k < 21 → xP k := xns rfl xa_20 xl_20
theorem xa_22 : ∀ k, k < 22 → xP k := xns rfl xa_21 xl_21
theorem xa_23 : ∀ k, k < 23 → xP k := xns rfl xa_22 xl_22
theorem xa_24 : ∀ k, k < 24 → xP k := xns rfl xa_23 xl_23
theorem xa_25 : ∀ k, k < 25 → xP k := xns rfl xa_24 xl_24
theorem xa_26 : ∀ k, k < 26 → xP k := xns rfl xa_25 xl_25
theorem xa_27 : ∀ k, k < 27 → xP k := xns rfl xa_26 xl_26
theorem xa_28 : ∀ k, k < 28 → xP k := xns rfl xa_27 xl_27
theorem xa_29 : ∀ k, k < 29 → xP k := xns rfl xa_28 xl_28
theorem xa_30 : ∀ k, k < 30 → xP k := xns rfl xa_29 xl_29
theorem xa_31 : ∀ k, k < 31 → xP k := xns rfl xa_30 xl_30
theorem xa_32 : ∀ k, k < 32 → xP k := xns rfl xa_31 xl_31
theorem xa_33 : ∀ k, k < 33 → xP k := xns rfl xa_32 xl_32
theorem xa_34 : ∀ k, k < 34 → xP k := xns rfl xa_33 xl_33
theorem xa_35 : ∀ k, k < 35 → xP k := xns rfl xa_34 xl_34
theorem xa_36 : ∀ k, k < 36 → xP k := xns rfl xa_35 xl_35
theorem xa_37 : ∀ k, k < 37 → xP k := xns rfl xa_36 xl_36
theorem xa_38 : ∀ k, k < 38 → xP k := xns rfl xa_37 xl_37
theorem xa_39 : ∀ k, k < 39 → xP k := xns rfl xa_38 xl_38
theorem xa_40 : ∀ k, k < 40 → xP k := xns rfl xa_39 xl_39
theorem xa_41 : ∀ k, k < 41 → xP k := xns rfl xa_40 xl_40
theorem xa_42 : ∀ k, k < 42 → xP k := xns rfl xa_41 xl_41
theorem xa_43 : ∀ k, k < 43 → xP k := xns rfl xa_42 xl_42
theorem xa_44 : ∀ k, k < 44 → xP k := xns rfl xa_43 xl_43
theorem xa_45 : ∀ k, k < 45 → xP k := xns rfl xa_44 xl_44
theorem xa_46 : ∀ k, k < 46 → xP k := xns rfl xa_45 xl_45
theorem xa_47 : ∀ k, k < 47 → xP k := xns rfl xa_46 xl_46
theorem xa_48 : ∀ k, k < 48 → xP k := xns rfl xa_47 xl_47
theorem xa_49 : ∀ k, k < 49 → xP k := xns rfl xa_48 xl_48
theorem xa_50 : ∀ k, k < 50 → xP k := xns rfl xa_49 xl_49
theorem xa_51 : ∀ k, k < 51 → xP k := xns rfl xa_50 xl_50
theorem xa_52 : ∀ k, k < 52 → xP k := xns rfl xa_51 xl_51
theorem xa_53 : ∀ k, k < 53 → xP k := xns rfl xa_52 xl_52
theorem xa_54 : ∀ k, k < 54 → xP k := xns rfl xa_53 xl_53
theorem xa_55 : ∀ k, k < 55 → xP k := xns rfl xa_54 xl_54
theorem xa_56 : ∀ k, k < 56 → xP k := xns rfl xa_55 xl_55
theorem xa_57 : ∀ k, k < 57 → xP k := xns rfl xa_56 xl_56
theorem xa_58 : ∀ k, k < 58 → xP k := xns rfl xa_57 xl_57
theorem xa_59 : ∀ k, k < 59 → xP k := xns rfl xa_58 xl_58
theorem xa_60 : ∀ k, k < 60 → xP k := xns rfl xa_59 xl_59
theorem xa_61 : ∀ k, k < 61 → xP k := xns rfl xa_60 xl_60
theorem xa_62 : ∀ k, k < 62 → xP k := xns rfl xa_61 xl_61
theorem xa_63 : ∀ k, k < 63 → xP k := xns rfl xa_62 xl_62
theorem xa_64 : ∀ k, k < 64 → xP k := xns rfl xa_63 xl_63
theorem xa_65 : ∀ k, k < 65 → xP k := xns rfl xa_64 xl_64
theorem xa_66 : ∀ k, k < 66 → xP k := xns rfl xa_65 xl_65
theorem xa_67 : ∀ k, k < 67 → xP k := xns rfl xa_66 xl_66
theorem xa_68 : ∀ k, k < 68 → xP k := xns rfl xa_67 xl_67
theorem xa_69 : ∀ k, k < 69 → xP k := xns rfl xa_68 xl_68
theorem xa_70 : ∀ k, k < 70 → xP k := xns rfl xa_69 xl_69
theorem xa_71 : ∀ k, k < 71 → xP k := xns rfl xa_70 xl_70
theorem xa_72 : ∀ k, k < 72 → xP k := xns rfl xa_71 xl_71
theorem xa_73 : ∀ k, k < 73 → xP k := xns rfl xa_72 xl_72
theorem xa_74 : ∀ k, k < 74 → xP k := xns rfl xa_73 xl_73
theorem xa_75 : ∀ k, k < 75 → xP k := xns rfl xa_74 xl_74
theorem xa_76 : ∀ k, k < 76 → xP k := xns rfl xa_75 xl_75
theorem xa_77 : ∀ k, k < 77 → xP k := xns rfl xa_76 xl_76
theorem xa_78 : ∀ k, k < 78 → xP k := xns rfl xa_77 xl_77
theorem xa_79 : ∀ k, k < 79 → xP k := xns rfl xa_78 xl_78
theorem xa_80 : ∀ k, k < 80 → xP k := xns rfl xa_79 xl_79
theorem xa_81 : ∀ k, k < 81 → xP k := xns rfl xa_80 xl_80
theorem xa_82 : ∀ k, k < 82 → xP k := xns rfl xa_81 xl_81
theorem xa_83 : ∀ k, k < 83 → xP k := xns rfl xa_82 xl_82
theorem xa_84 : ∀ k, k < 84 → xP k := xns rfl xa_83 xl_83
theorem xa_85 : ∀ k, k < 85 → xP k := xns rfl xa_84 xl_84
theorem xa_86 : ∀ k, k < 86 → xP k := xns rfl xa_85 xl_85
theorem xa_87 : ∀ k, k < 87 → xP k := xns rfl xa_86 xl_86
theorem xa_88 : ∀ k, k < 88 → xP k := xns rfl xa_87 xl_87
theorem xa_89 : ∀ k, k < 89 → xP k := xns rfl xa_88 xl_88
theorem xa_90 : ∀ k, k < 90 → xP k := xns rfl xa_89 xl_89
theorem xa_91 : ∀ k, k < 91 → xP k := xns rfl xa_90 xl_90
theorem xa_92 : ∀ k, k < 92 → xP k := xns rfl xa_91 xl_91
theorem xa_93 : ∀ k, k < 93 → xP k := xns rfl xa_92 xl_92
theorem xa_94 : ∀ k, k < 94 → xP k := xns rfl xa_93 xl_93
theorem xl_all : ∀ k, k < 94 → hl xL k = fm_hp lI0 k := xa_94
