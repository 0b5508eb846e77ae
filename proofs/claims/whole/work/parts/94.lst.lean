-- the 94 cells as the constructors leave them
abbrev fs_Ref0 : List am_V := [vN, vN, vN, vN, vN, vN, vI 0, vN, vI 0, vN, vI 0, vI 0, vN, vI 0, vI 0, vI 0, vN, vN, vI 0, vN, vI 0, vI 0, vN, vI 0, vI 0, vI 0, vI 0, vI 0, vN, vN, vI 0, vI 0]
def xL1 : List am_E := x_SL [oE 0 [vN, vN, vN, vN, vN, vN]] 0
def xL : List am_E := x_Ref (xL1 ++ [oE 6 fs_Ref0]) 78
theorem xL1_l : xL1.length = 78 := by decide +kernel
theorem xL_l : xL.length = 94 := by decide +kernel
