-- each cell as the flat memory has it (1 and 64, arrays of references, are still to do)
set_option maxRecDepth 100000 in
theorem xl_0 : hl xL 0 = fm_hp lI0 0 := by rfl
set_option maxRecDepth 100000 in
theorem xl_2 : hl xL 2 = fm_hp lI0 2 := by rfl
set_option maxRecDepth 100000 in
theorem xl_3 : hl xL 3 = fm_hp lI0 3 := by
  show hl xL 3 = .inl (0, 20, .inl (lI0 3))
  rw [lI0_p (by decide)]
  rfl
set_option maxRecDepth 100000 in
theorem xl_4 : hl xL 4 = fm_hp lI0 4 := by
  show hl xL 4 = .inl (0, 20, .inl (lI0 4))
  rw [lI0_p (by decide)]
  rfl
set_option maxRecDepth 100000 in
theorem xl_5 : hl xL 5 = fm_hp lI0 5 := by
  show hl xL 5 = .inl (0, 20, .inl (lI0 5))
  rw [lI0_p (by decide)]
  rfl
set_option maxRecDepth 100000 in
theorem xl_6 : hl xL 6 = fm_hp lI0 6 := by
  show hl xL 6 = .inl (0, 20, .inl (lI0 6))
  rw [lI0_p (by decide)]
  rfl
set_option maxRecDepth 100000 in
theorem xl_7 : hl xL 7 = fm_hp lI0 7 := by
  show hl xL 7 = .inl (0, 20, .inl (lI0 7))
  rw [lI0_p (by decide)]
  rfl
set_option maxRecDepth 100000 in
theorem xl_8 : hl xL 8 = fm_hp lI0 8 := by
  show hl xL 8 = .inl (1, 20, .inl (lI0 8))
  rw [lI0_p (by decide)]
  rfl
set_option maxRecDepth 100000 in
theorem xl_9 : hl xL 9 = fm_hp lI0 9 := by
  show hl xL 9 = .inl (0, 3, .inl (lI0 9))
  rw [lI0_p (by decide)]
  rfl
set_option maxRecDepth 100000 in
theorem xl_10 : hl xL 10 = fm_hp lI0 10 := by
  show hl xL 10 = .inl (0, 16, .inl (lI0 10))
  rw [lI0_p (by decide)]
  rfl
set_option maxRecDepth 100000 in
theorem xl_11 : hl xL 11 = fm_hp lI0 11 := by rfl
set_option maxRecDepth 100000 in
theorem xl_12 : hl xL 12 = fm_hp lI0 12 := by
  show hl xL 12 = .inl (0, 20, .inl (lI0 12))
  rw [lI0_p (by decide)]
  rfl
set_option maxRecDepth 100000 in
theorem xl_13 : hl xL 13 = fm_hp lI0 13 := by
  show hl xL 13 = .inl (0, 20, .inl (lI0 13))
  rw [lI0_p (by decide)]
  rfl
set_option maxRecDepth 100000 in
theorem xl_14 : hl xL 14 = fm_hp lI0 14 := by
  show hl xL 14 = .inl (0, 20, .inl (lI0 14))
  rw [lI0_p (by decide)]
  rfl
set_option maxRecDepth 100000 in
theorem xl_15 : hl xL 15 = fm_hp lI0 15 := by
  show hl xL 15 = .inl (0, 20, .inl (lI0 15))
  rw [lI0_p (by decide)]
  rfl
set_option maxRecDepth 100000 in
theorem xl_16 : hl xL 16 = fm_hp lI0 16 := by
  show hl xL 16 = .inl (0, 20, .inl (lI0 16))
  rw [lI0_p (by decide)]
  rfl
set_option maxRecDepth 100000 in
theorem xl_17 : hl xL 17 = fm_hp lI0 17 := by
  show hl xL 17 = .inl (1, 20, .inl (lI0 17))
  rw [lI0_p (by decide)]
  rfl
set_option maxRecDepth 100000 in
theorem xl_18 : hl xL 18 = fm_hp lI0 18 := by
  show hl xL 18 = .inl (0, 3, .inl (lI0 18))
  rw [lI0_p (by decide)]
  rfl
set_option maxRecDepth 100000 in
theorem xl_19 : hl xL 19 = fm_hp lI0 19 := by
  show hl xL 19 = .inl (0, 16, .inl (lI0 19))
  rw [lI0_p (by decide)]
  rfl
set_option maxRecDepth 100000 in
theorem xl_20 : hl xL 20 = fm_hp lI0 20 := by rfl
set_option maxRecDepth 100000 in
theorem xl_21 : hl xL 21 = fm_hp lI0 21 := by
  show hl xL 21 = .inl (0, 20, .inl (lI0 21))
  rw [lI0_p (by decide)]
  rfl
set_option maxRecDepth 100000 in
theorem xl_22 : hl xL 22 = fm_hp lI0 22 := by
  show hl xL 22 = .inl (0, 20, .inl (lI0 22))
  rw [lI0_p (by decide)]
  rfl
set_option maxRecDepth 100000 in
theorem xl_23 : hl xL 23 = fm_hp lI0 23 := by
  show hl xL 23 = .inl (0, 20, .inl (lI0 23))
  rw [lI0_p (by decide)]
  rfl
set_option maxRecDepth 100000 in
theorem xl_24 : hl xL 24 = fm_hp lI0 24 := by
  show hl xL 24 = .inl (0, 20, .inl (lI0 24))
  rw [lI0_p (by decide)]
  rfl
set_option maxRecDepth 100000 in
theorem xl_25 : hl xL 25 = fm_hp lI0 25 := by
  show hl xL 25 = .inl (0, 20, .inl (lI0 25))
  rw [lI0_p (by decide)]
  rfl
set_option maxRecDepth 100000 in
theorem xl_26 : hl xL 26 = fm_hp lI0 26 := by
  show hl xL 26 = .inl (1, 20, .inl (lI0 26))
  rw [lI0_p (by decide)]
  rfl
set_option maxRecDepth 100000 in
theorem xl_27 : hl xL 27 = fm_hp lI0 27 := by
  show hl xL 27 = .inl (0, 3, .inl (lI0 27))
  rw [lI0_p (by decide)]
  rfl
set_option maxRecDepth 100000 in
theorem xl_28 : hl xL 28 = fm_hp lI0 28 := by
  show hl xL 28 = .inl (0, 16, .inl (lI0 28))
  rw [lI0_p (by decide)]
  rfl
set_option maxRecDepth 100000 in
theorem xl_29 : hl xL 29 = fm_hp lI0 29 := by rfl
set_option maxRecDepth 100000 in
theorem xl_30 : hl xL 30 = fm_hp lI0 30 := by
  show hl xL 30 = .inl (0, 20, .inl (lI0 30))
  rw [lI0_p (by decide)]
  rfl
set_option maxRecDepth 100000 in
theorem xl_31 : hl xL 31 = fm_hp lI0 31 := by
  show hl xL 31 = .inl (0, 20, .inl (lI0 31))
  rw [lI0_p (by decide)]
  rfl
set_option maxRecDepth 100000 in
theorem xl_32 : hl xL 32 = fm_hp lI0 32 := by
  show hl xL 32 = .inl (0, 20, .inl (lI0 32))
  rw [lI0_p (by decide)]
  rfl
set_option maxRecDepth 100000 in
theorem xl_33 : hl xL 33 = fm_hp lI0 33 := by
  show hl xL 33 = .inl (0, 20, .inl (lI0 33))
  rw [lI0_p (by decide)]
  rfl
set_option maxRecDepth 100000 in
theorem xl_34 : hl xL 34 = fm_hp lI0 34 := by
  show hl xL 34 = .inl (0, 20, .inl (lI0 34))
  rw [lI0_p (by decide)]
  rfl
set_option maxRecDepth 100000 in
theorem xl_35 : hl xL 35 = fm_hp lI0 35 := by
  show hl xL 35 = .inl (1, 20, .inl (lI0 35))
  rw [lI0_p (by decide)]
  rfl
set_option maxRecDepth 100000 in
theorem xl_36 : hl xL 36 = fm_hp lI0 36 := by
  show hl xL 36 = .inl (0, 3, .inl (lI0 36))
  rw [lI0_p (by decide)]
  rfl
set_option maxRecDepth 100000 in
theorem xl_37 : hl xL 37 = fm_hp lI0 37 := by
  show hl xL 37 = .inl (0, 16, .inl (lI0 37))
  rw [lI0_p (by decide)]
  rfl
set_option maxRecDepth 100000 in
theorem xl_38 : hl xL 38 = fm_hp lI0 38 := by rfl
set_option maxRecDepth 100000 in
theorem xl_39 : hl xL 39 = fm_hp lI0 39 := by
  show hl xL 39 = .inl (0, 20, .inl (lI0 39))
  rw [lI0_p (by decide)]
  rfl
set_option maxRecDepth 100000 in
theorem xl_40 : hl xL 40 = fm_hp lI0 40 := by
  show hl xL 40 = .inl (0, 20, .inl (lI0 40))
  rw [lI0_p (by decide)]
  rfl
set_option maxRecDepth 100000 in
theorem xl_41 : hl xL 41 = fm_hp lI0 41 := by
  show hl xL 41 = .inl (0, 20, .inl (lI0 41))
  rw [lI0_p (by decide)]
  rfl
set_option maxRecDepth 100000 in
theorem xl_42 : hl xL 42 = fm_hp lI0 42 := by
  show hl xL 42 = .inl (0, 20, .inl (lI0 42))
  rw [lI0_p (by decide)]
  rfl
set_option maxRecDepth 100000 in
theorem xl_43 : hl xL 43 = fm_hp lI0 43 := by
  show hl xL 43 = .inl (0, 20, .inl (lI0 43))
  rw [lI0_p (by decide)]
  rfl
set_option maxRecDepth 100000 in
theorem xl_44 : hl xL 44 = fm_hp lI0 44 := by
  show hl xL 44 = .inl (1, 20, .inl (lI0 44))
  rw [lI0_p (by decide)]
  rfl
set_option maxRecDepth 100000 in
theorem xl_45 : hl xL 45 = fm_hp lI0 45 := by
  show hl xL 45 = .inl (0, 3, .inl (lI0 45))
  rw [lI0_p (by decide)]
  rfl
set_option maxRecDepth 100000 in
theorem xl_46 : hl xL 46 = fm_hp lI0 46 := by
  show hl xL 46 = .inl (0, 16, .inl (lI0 46))
  rw [lI0_p (by decide)]
  rfl
set_option maxRecDepth 100000 in
theorem xl_47 : hl xL 47 = fm_hp lI0 47 := by rfl
set_option maxRecDepth 100000 in
theorem xl_48 : hl xL 48 = fm_hp lI0 48 := by
  show hl xL 48 = .inl (0, 20, .inl (lI0 48))
  rw [lI0_p (by decide)]
  rfl
set_option maxRecDepth 100000 in
theorem xl_49 : hl xL 49 = fm_hp lI0 49 := by
  show hl xL 49 = .inl (0, 20, .inl (lI0 49))
  rw [lI0_p (by decide)]
  rfl
set_option maxRecDepth 100000 in
theorem xl_50 : hl xL 50 = fm_hp lI0 50 := by
  show hl xL 50 = .inl (0, 20, .inl (lI0 50))
  rw [lI0_p (by decide)]
  rfl
set_option maxRecDepth 100000 in
theorem xl_51 : hl xL 51 = fm_hp lI0 51 := by
  show hl xL 51 = .inl (0, 20, .inl (lI0 51))
  rw [lI0_p (by decide)]
  rfl
set_option maxRecDepth 100000 in
theorem xl_52 : hl xL 52 = fm_hp lI0 52 := by
  show hl xL 52 = .inl (0, 20, .inl (lI0 52))
  rw [lI0_p (by decide)]
  rfl
set_option maxRecDepth 100000 in
theorem xl_53 : hl xL 53 = fm_hp lI0 53 := by
  show hl xL 53 = .inl (1, 20, .inl (lI0 53))
  rw [lI0_p (by decide)]
  rfl
set_option maxRecDepth 100000 in
theorem xl_54 : hl xL 54 = fm_hp lI0 54 := by
  show hl xL 54 = .inl (0, 3, .inl (lI0 54))
  rw [lI0_p (by decide)]
  rfl
set_option maxRecDepth 100000 in
theorem xl_55 : hl xL 55 = fm_hp lI0 55 := by
  show hl xL 55 = .inl (0, 16, .inl (lI0 55))
  rw [lI0_p (by decide)]
  rfl
set_option maxRecDepth 100000 in
theorem xl_56 : hl xL 56 = fm_hp lI0 56 := by rfl
set_option maxRecDepth 100000 in
theorem xl_57 : hl xL 57 = fm_hp lI0 57 := by rfl
set_option maxRecDepth 100000 in
theorem xl_58 : hl xL 58 = fm_hp lI0 58 := by
  show hl xL 58 = .inl (0, 6, .inl (lI0 58))
  rw [lI0_p (by decide)]
  rfl
set_option maxRecDepth 100000 in
theorem xl_59 : hl xL 59 = fm_hp lI0 59 := by rfl
set_option maxRecDepth 100000 in
theorem xl_60 : hl xL 60 = fm_hp lI0 60 := by
  show hl xL 60 = .inl (0, 6, .inl (lI0 60))
  rw [lI0_p (by decide)]
  rfl
set_option maxRecDepth 100000 in
theorem xl_61 : hl xL 61 = fm_hp lI0 61 := by rfl
set_option maxRecDepth 100000 in
theorem xl_62 : hl xL 62 = fm_hp lI0 62 := by
  show hl xL 62 = .inl (0, 8, .inl (lI0 62))
  rw [lI0_p (by decide)]
  rfl
set_option maxRecDepth 100000 in
theorem xl_63 : hl xL 63 = fm_hp lI0 63 := by rfl
set_option maxRecDepth 100000 in
theorem xl_65 : hl xL 65 = fm_hp lI0 65 := by
  show hl xL 65 = .inl (0, 3, .inl (lI0 65))
  rw [lI0_p (by decide)]
  rfl
set_option maxRecDepth 100000 in
theorem xl_66 : hl xL 66 = fm_hp lI0 66 := by
  show hl xL 66 = .inl (0, 3, .inl (lI0 66))
  rw [lI0_p (by decide)]
  rfl
set_option maxRecDepth 100000 in
theorem xl_67 : hl xL 67 = fm_hp lI0 67 := by
  show hl xL 67 = .inl (0, 3, .inl (lI0 67))
  rw [lI0_p (by decide)]
  rfl
set_option maxRecDepth 100000 in
theorem xl_68 : hl xL 68 = fm_hp lI0 68 := by
  show hl xL 68 = .inl (0, 3, .inl (lI0 68))
  rw [lI0_p (by decide)]
  rfl
set_option maxRecDepth 100000 in
theorem xl_69 : hl xL 69 = fm_hp lI0 69 := by
  show hl xL 69 = .inl (0, 3, .inl (lI0 69))
  rw [lI0_p (by decide)]
  rfl
set_option maxRecDepth 100000 in
theorem xl_70 : hl xL 70 = fm_hp lI0 70 := by
  show hl xL 70 = .inl (0, 3, .inl (lI0 70))
  rw [lI0_p (by decide)]
  rfl
set_option maxRecDepth 100000 in
theorem xl_71 : hl xL 71 = fm_hp lI0 71 := by
  show hl xL 71 = .inl (0, 200, .inl (lI0 71))
  rw [lI0_p (by decide)]
  rfl
set_option maxRecDepth 100000 in
theorem xl_72 : hl xL 72 = fm_hp lI0 72 := by
  show hl xL 72 = .inl (0, 3, .inl (lI0 72))
  rw [lI0_p (by decide)]
  rfl
set_option maxRecDepth 100000 in
theorem xl_73 : hl xL 73 = fm_hp lI0 73 := by
  show hl xL 73 = .inl (0, 16, .inl (lI0 73))
  rw [lI0_p (by decide)]
  rfl
set_option maxRecDepth 100000 in
theorem xl_74 : hl xL 74 = fm_hp lI0 74 := by rfl
set_option maxRecDepth 100000 in
theorem xl_75 : hl xL 75 = fm_hp lI0 75 := by
  show hl xL 75 = .inl (0, 200, .inl (lI0 75))
  rw [lI0_p (by decide)]
  rfl
set_option maxRecDepth 100000 in
theorem xl_76 : hl xL 76 = fm_hp lI0 76 := by
  show hl xL 76 = .inl (0, 8, .inl (lI0 76))
  rw [lI0_p (by decide)]
  rfl
set_option maxRecDepth 100000 in
theorem xl_77 : hl xL 77 = fm_hp lI0 77 := by
  show hl xL 77 = .inl (0, 4, .inl (lI0 77))
  rw [lI0_p (by decide)]
  rfl
set_option maxRecDepth 100000 in
theorem xl_78 : hl xL 78 = fm_hp lI0 78 := by rfl
set_option maxRecDepth 100000 in
theorem xl_79 : hl xL 79 = fm_hp lI0 79 := by
  show hl xL 79 = .inl (0, 6, .inl (lI0 79))
  rw [lI0_p (by decide)]
  rfl
set_option maxRecDepth 100000 in
theorem xl_80 : hl xL 80 = fm_hp lI0 80 := by
  show hl xL 80 = .inl (0, 120, .inl (lI0 80))
  rw [lI0_p (by decide)]
  rfl
set_option maxRecDepth 100000 in
theorem xl_81 : hl xL 81 = fm_hp lI0 81 := by
  show hl xL 81 = .inl (0, 120, .inl (lI0 81))
  rw [lI0_p (by decide)]
  rfl
set_option maxRecDepth 100000 in
theorem xl_82 : hl xL 82 = fm_hp lI0 82 := by
  show hl xL 82 = .inl (0, 120, .inl (lI0 82))
  rw [lI0_p (by decide)]
  rfl
set_option maxRecDepth 100000 in
theorem xl_83 : hl xL 83 = fm_hp lI0 83 := by
  show hl xL 83 = .inl (0, 120, .inl (lI0 83))
  rw [lI0_p (by decide)]
  rfl
set_option maxRecDepth 100000 in
theorem xl_84 : hl xL 84 = fm_hp lI0 84 := by
  show hl xL 84 = .inl (1, 120, .inl (lI0 84))
  rw [lI0_p (by decide)]
  rfl
set_option maxRecDepth 100000 in
theorem xl_85 : hl xL 85 = fm_hp lI0 85 := by
  show hl xL 85 = .inl (0, 6, .inl (lI0 85))
  rw [lI0_p (by decide)]
  rfl
set_option maxRecDepth 100000 in
theorem xl_86 : hl xL 86 = fm_hp lI0 86 := by
  show hl xL 86 = .inl (0, 8, .inl (lI0 86))
  rw [lI0_p (by decide)]
  rfl
set_option maxRecDepth 100000 in
theorem xl_87 : hl xL 87 = fm_hp lI0 87 := by
  show hl xL 87 = .inl (0, 6, .inl (lI0 87))
  rw [lI0_p (by decide)]
  rfl
set_option maxRecDepth 100000 in
theorem xl_88 : hl xL 88 = fm_hp lI0 88 := by
  show hl xL 88 = .inl (0, 200, .inl (lI0 88))
  rw [lI0_p (by decide)]
  rfl
set_option maxRecDepth 100000 in
theorem xl_89 : hl xL 89 = fm_hp lI0 89 := by
  show hl xL 89 = .inl (0, 3, .inl (lI0 89))
  rw [lI0_p (by decide)]
  rfl
set_option maxRecDepth 100000 in
theorem xl_90 : hl xL 90 = fm_hp lI0 90 := by
  show hl xL 90 = .inl (0, 16, .inl (lI0 90))
  rw [lI0_p (by decide)]
  rfl
set_option maxRecDepth 100000 in
theorem xl_91 : hl xL 91 = fm_hp lI0 91 := by
  show hl xL 91 = .inl (0, 200, .inl (lI0 91))
  rw [lI0_p (by decide)]
  rfl
set_option maxRecDepth 100000 in
theorem xl_92 : hl xL 92 = fm_hp lI0 92 := by
  show hl xL 92 = .inl (0, 4, .inl (lI0 92))
  rw [lI0_p (by decide)]
  rfl
set_option maxRecDepth 100000 in
theorem xl_93 : hl xL 93 = fm_hp lI0 93 := by
  show hl xL 93 = .inl (0, 8, .inl (lI0 93))
  rw [lI0_p (by decide)]
  rfl
