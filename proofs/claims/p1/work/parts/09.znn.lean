/-! the cells behind the constructors: kinds, finals -/
def zKs : List (Nat × Nat) := [(11, 0), (7, 0), (9, 0), (100, 500), (100, 72), (102, 9), (6, 0), (100, 64), (100, 64), (100, 64), (100, 12), (100, 12), (101, 64), (6, 0), (100, 64), (100, 64), (100, 64), (100, 12), (100, 12), (101, 64), (5, 0), (100, 8), (100, 800), (100, 400), (100, 400), (100, 400), (8, 0), (100, 100), (1, 0), (100, 64), (100, 64), (100, 64), (100, 6), (113, 3), (103, 3), (0, 0), (100, 832), (100, 832), (100, 64), (100, 64), (100, 64), (100, 64), (100, 202), (100, 8), (3, 0), (100, 8), (100, 8), (100, 8), (100, 8), (100, 8), (100, 8), (100, 14), (100, 14), (100, 14), (100, 14), (100, 14), (100, 14), (2, 0), (100, 202), (100, 1088), (100, 1088), (100, 1088), (100, 202), (100, 202), (100, 202), (100, 202), (107, 3), (100, 124), (100, 124), (10, 0), (0, 0), (100, 832), (100, 832), (100, 64), (100, 64), (100, 64), (100, 64), (100, 202), (100, 8), (10, 0), (0, 0), (100, 832), (100, 832), (100, 64), (100, 64), (100, 64), (100, 64), (100, 202), (100, 8), (10, 0), (0, 0), (100, 832), (100, 832), (100, 64), (100, 64), (100, 64), (100, 64), (100, 202), (100, 8), (4, 0), (4, 0), (4, 0), (12, 0), (100, 500), (100, 8), (100, 400), (100, 400), (100, 400), (100, 400), (102, 400), (102, 800), (100, 800), (100, 77), (100, 128), (100, 128), (100, 128), (100, 128), (100, 128), (100, 128), (100, 128), (100, 24), (100, 24), (100, 24), (100, 100), (100, 100), (100, 100), (102, 8), (101, 64), (100, 64), (100, 64), (102, 64), (102, 64), (100, 3), (100, 3), (100, 3), (100, 3), (100, 3), (100, 832), (100, 832), (100, 64), (100, 64), (100, 64), (102, 8), (100, 8), (100, 8), (100, 8), (100, 8), (100, 8), (100, 14), (100, 14), (100, 14), (100, 14), (100, 14), (100, 14), (100, 100), (100, 100), (100, 1400), (100, 1400), (100, 1400), (100, 1400), (100, 402), (100, 402), (100, 6), (100, 124), (100, 124), (101, 1)]
def zFt : List (List Int) := [[-7, 1, -7, -7, 20, 27, -7, -7, 28, 33, 34, -7, 35, 44, 57, 66, 67, 68], [2, -7, -7, -7, -7, -7, 4, -7, -7, 5, -7, -7, -7], [3, -7, -7, -7, -7, -7, -7], [], [], [], [7, 8, 9, 10, 11, 12, -7, -7, -7, -7, -7, -7], [], [], [], [], [], [], [14, 15, 16, 17, 18, 19, -7, -7, -7, -7, -7, -7], [], [], [], [], [], [], [21, -7, 22, 23, 24, 25, -7, 26], [], [], [], [], [], [-7, -7, -7, -7, -7, -7, -7, -7, -7], [], [-7, -7, 29, 30, 31, -7, 32, -7], [], [], [], [], [], [], [36, 37, 38, -7, -7, 39, 40, 41, -7, 42, -7, 43], [], [], [], [], [], [], [], [], [45, 46, 47, 48, 49, 50, -7, 51, 52, 53, 54, 55, 56, -7], [], [], [], [], [], [], [], [], [], [], [], [], [58, 59, 60, 61, -7, 62, 63, 64, 65], [], [], [], [], [], [], [], [], [], [], [], [-7, -7, -7, -7, -7], [71, 72, 73, -7, -7, 74, 75, 76, -7, 77, -7, 78], [], [], [], [], [], [], [], [], [-7, -7, -7, -7, -7], [81, 82, 83, -7, -7, 84, 85, 86, -7, 87, -7, 88], [], [], [], [], [], [], [], [], [-7, -7, -7, -7, -7], [91, 92, 93, -7, -7, 94, 95, 96, -7, 97, -7, 98], [], [], [], [], [], [], [], [], [-7, -7, -7, -7, -7], [-7, -7, -7, -7, -7], [-7, -7, -7, -7, -7], [103, -7, -7, -7, -7, 104, -7, 105, 106, 107, 108, 109, 110, 111, 112, -7, -7, -7, -7, -7, -7, -7, 113, 114, 115, 116, 117, 118, 119, 120, 121, 122, -7, -7, -7, -7, -7, -7, -7, -7, 123, 124, -7, 125, -7, 126, -7, -7, -7, -7, 127, -7, -7, 128, 129, 130, 131, -7, -7, 132, 133, 134, 135, 136, 137, 138, 139, 140, 141, -7, 142, 143, 144, 145, 146, 147, -7, 148, 149, 150, 151, 152, 153, 154, 155, -7, 156, 157, 158, 159, 160, 161, -7, -7, -7, -7, -7, 162, -7, -7, -7, -7, -7, -7, -7, 163, 164], [], [], [], [], [], [], [], [], [], [], [], [], [], [], [], [], [], [], [], [], [], [], [], [], [], [], [], [], [], [], [], [], [], [], [], [], [], [], [], [], [], [], [], [], [], [], [], [], [], [], [], [], [], [], [], [], [], [], [], [], [], [], []]
def zFin (a j : Nat) : Option Int := let v := (zFt.getD a []).getD j (-7); if v = -7 then none else some v
def zNN : zN := (zKs, zFin, false)
theorem kd_0 : zNN.1[(0 : Int).toNat]? = some (11, 0) := rfl
theorem ps_0 : (0 : Int) ≤ 0 := by decide
theorem kd_1 : zNN.1[(1 : Int).toNat]? = some (7, 0) := rfl
theorem ps_1 : (0 : Int) ≤ 1 := by decide
theorem kd_2 : zNN.1[(2 : Int).toNat]? = some (9, 0) := rfl
theorem ps_2 : (0 : Int) ≤ 2 := by decide
theorem kd_3 : zNN.1[(3 : Int).toNat]? = some (100, 500) := rfl
theorem ps_3 : (0 : Int) ≤ 3 := by decide
theorem kd_4 : zNN.1[(4 : Int).toNat]? = some (100, 72) := rfl
theorem ps_4 : (0 : Int) ≤ 4 := by decide
theorem kd_5 : zNN.1[(5 : Int).toNat]? = some (102, 9) := rfl
theorem ps_5 : (0 : Int) ≤ 5 := by decide
theorem kd_6 : zNN.1[(6 : Int).toNat]? = some (6, 0) := rfl
theorem ps_6 : (0 : Int) ≤ 6 := by decide
theorem kd_7 : zNN.1[(7 : Int).toNat]? = some (100, 64) := rfl
theorem ps_7 : (0 : Int) ≤ 7 := by decide
theorem kd_8 : zNN.1[(8 : Int).toNat]? = some (100, 64) := rfl
theorem ps_8 : (0 : Int) ≤ 8 := by decide
theorem kd_9 : zNN.1[(9 : Int).toNat]? = some (100, 64) := rfl
theorem ps_9 : (0 : Int) ≤ 9 := by decide
theorem kd_10 : zNN.1[(10 : Int).toNat]? = some (100, 12) := rfl
theorem ps_10 : (0 : Int) ≤ 10 := by decide
theorem kd_11 : zNN.1[(11 : Int).toNat]? = some (100, 12) := rfl
theorem ps_11 : (0 : Int) ≤ 11 := by decide
theorem kd_12 : zNN.1[(12 : Int).toNat]? = some (101, 64) := rfl
theorem ps_12 : (0 : Int) ≤ 12 := by decide
theorem kd_13 : zNN.1[(13 : Int).toNat]? = some (6, 0) := rfl
theorem ps_13 : (0 : Int) ≤ 13 := by decide
theorem kd_14 : zNN.1[(14 : Int).toNat]? = some (100, 64) := rfl
theorem ps_14 : (0 : Int) ≤ 14 := by decide
theorem kd_15 : zNN.1[(15 : Int).toNat]? = some (100, 64) := rfl
theorem ps_15 : (0 : Int) ≤ 15 := by decide
theorem kd_16 : zNN.1[(16 : Int).toNat]? = some (100, 64) := rfl
theorem ps_16 : (0 : Int) ≤ 16 := by decide
theorem kd_17 : zNN.1[(17 : Int).toNat]? = some (100, 12) := rfl
theorem ps_17 : (0 : Int) ≤ 17 := by decide
theorem kd_18 : zNN.1[(18 : Int).toNat]? = some (100, 12) := rfl
theorem ps_18 : (0 : Int) ≤ 18 := by decide
theorem kd_19 : zNN.1[(19 : Int).toNat]? = some (101, 64) := rfl
theorem ps_19 : (0 : Int) ≤ 19 := by decide
theorem kd_20 : zNN.1[(20 : Int).toNat]? = some (5, 0) := rfl
theorem ps_20 : (0 : Int) ≤ 20 := by decide
theorem kd_21 : zNN.1[(21 : Int).toNat]? = some (100, 8) := rfl
theorem ps_21 : (0 : Int) ≤ 21 := by decide
theorem kd_22 : zNN.1[(22 : Int).toNat]? = some (100, 800) := rfl
theorem ps_22 : (0 : Int) ≤ 22 := by decide
theorem kd_23 : zNN.1[(23 : Int).toNat]? = some (100, 400) := rfl
theorem ps_23 : (0 : Int) ≤ 23 := by decide
theorem kd_24 : zNN.1[(24 : Int).toNat]? = some (100, 400) := rfl
theorem ps_24 : (0 : Int) ≤ 24 := by decide
theorem kd_25 : zNN.1[(25 : Int).toNat]? = some (100, 400) := rfl
theorem ps_25 : (0 : Int) ≤ 25 := by decide
theorem kd_26 : zNN.1[(26 : Int).toNat]? = some (8, 0) := rfl
theorem ps_26 : (0 : Int) ≤ 26 := by decide
theorem kd_27 : zNN.1[(27 : Int).toNat]? = some (100, 100) := rfl
theorem ps_27 : (0 : Int) ≤ 27 := by decide
theorem kd_28 : zNN.1[(28 : Int).toNat]? = some (1, 0) := rfl
theorem ps_28 : (0 : Int) ≤ 28 := by decide
theorem kd_29 : zNN.1[(29 : Int).toNat]? = some (100, 64) := rfl
theorem ps_29 : (0 : Int) ≤ 29 := by decide
theorem kd_30 : zNN.1[(30 : Int).toNat]? = some (100, 64) := rfl
theorem ps_30 : (0 : Int) ≤ 30 := by decide
theorem kd_31 : zNN.1[(31 : Int).toNat]? = some (100, 64) := rfl
theorem ps_31 : (0 : Int) ≤ 31 := by decide
theorem kd_32 : zNN.1[(32 : Int).toNat]? = some (100, 6) := rfl
theorem ps_32 : (0 : Int) ≤ 32 := by decide
theorem kd_33 : zNN.1[(33 : Int).toNat]? = some (113, 3) := rfl
theorem ps_33 : (0 : Int) ≤ 33 := by decide
theorem kd_34 : zNN.1[(34 : Int).toNat]? = some (103, 3) := rfl
theorem ps_34 : (0 : Int) ≤ 34 := by decide
theorem kd_35 : zNN.1[(35 : Int).toNat]? = some (0, 0) := rfl
theorem ps_35 : (0 : Int) ≤ 35 := by decide
theorem kd_36 : zNN.1[(36 : Int).toNat]? = some (100, 832) := rfl
theorem ps_36 : (0 : Int) ≤ 36 := by decide
theorem kd_37 : zNN.1[(37 : Int).toNat]? = some (100, 832) := rfl
theorem ps_37 : (0 : Int) ≤ 37 := by decide
theorem kd_38 : zNN.1[(38 : Int).toNat]? = some (100, 64) := rfl
theorem ps_38 : (0 : Int) ≤ 38 := by decide
theorem kd_39 : zNN.1[(39 : Int).toNat]? = some (100, 64) := rfl
theorem ps_39 : (0 : Int) ≤ 39 := by decide
theorem kd_40 : zNN.1[(40 : Int).toNat]? = some (100, 64) := rfl
theorem ps_40 : (0 : Int) ≤ 40 := by decide
theorem kd_41 : zNN.1[(41 : Int).toNat]? = some (100, 64) := rfl
theorem ps_41 : (0 : Int) ≤ 41 := by decide
theorem kd_42 : zNN.1[(42 : Int).toNat]? = some (100, 202) := rfl
theorem ps_42 : (0 : Int) ≤ 42 := by decide
theorem kd_43 : zNN.1[(43 : Int).toNat]? = some (100, 8) := rfl
theorem ps_43 : (0 : Int) ≤ 43 := by decide
theorem kd_44 : zNN.1[(44 : Int).toNat]? = some (3, 0) := rfl
theorem ps_44 : (0 : Int) ≤ 44 := by decide
theorem kd_45 : zNN.1[(45 : Int).toNat]? = some (100, 8) := rfl
theorem ps_45 : (0 : Int) ≤ 45 := by decide
theorem kd_46 : zNN.1[(46 : Int).toNat]? = some (100, 8) := rfl
theorem ps_46 : (0 : Int) ≤ 46 := by decide
theorem kd_47 : zNN.1[(47 : Int).toNat]? = some (100, 8) := rfl
theorem ps_47 : (0 : Int) ≤ 47 := by decide
theorem kd_48 : zNN.1[(48 : Int).toNat]? = some (100, 8) := rfl
theorem ps_48 : (0 : Int) ≤ 48 := by decide
theorem kd_49 : zNN.1[(49 : Int).toNat]? = some (100, 8) := rfl
theorem ps_49 : (0 : Int) ≤ 49 := by decide
theorem kd_50 : zNN.1[(50 : Int).toNat]? = some (100, 8) := rfl
theorem ps_50 : (0 : Int) ≤ 50 := by decide
theorem kd_51 : zNN.1[(51 : Int).toNat]? = some (100, 14) := rfl
theorem ps_51 : (0 : Int) ≤ 51 := by decide
theorem kd_52 : zNN.1[(52 : Int).toNat]? = some (100, 14) := rfl
theorem ps_52 : (0 : Int) ≤ 52 := by decide
theorem kd_53 : zNN.1[(53 : Int).toNat]? = some (100, 14) := rfl
theorem ps_53 : (0 : Int) ≤ 53 := by decide
theorem kd_54 : zNN.1[(54 : Int).toNat]? = some (100, 14) := rfl
theorem ps_54 : (0 : Int) ≤ 54 := by decide
theorem kd_55 : zNN.1[(55 : Int).toNat]? = some (100, 14) := rfl
theorem ps_55 : (0 : Int) ≤ 55 := by decide
theorem kd_56 : zNN.1[(56 : Int).toNat]? = some (100, 14) := rfl
theorem ps_56 : (0 : Int) ≤ 56 := by decide
theorem kd_57 : zNN.1[(57 : Int).toNat]? = some (2, 0) := rfl
theorem ps_57 : (0 : Int) ≤ 57 := by decide
theorem kd_58 : zNN.1[(58 : Int).toNat]? = some (100, 202) := rfl
theorem ps_58 : (0 : Int) ≤ 58 := by decide
theorem kd_59 : zNN.1[(59 : Int).toNat]? = some (100, 1088) := rfl
theorem ps_59 : (0 : Int) ≤ 59 := by decide
theorem kd_60 : zNN.1[(60 : Int).toNat]? = some (100, 1088) := rfl
theorem ps_60 : (0 : Int) ≤ 60 := by decide
theorem kd_61 : zNN.1[(61 : Int).toNat]? = some (100, 1088) := rfl
theorem ps_61 : (0 : Int) ≤ 61 := by decide
theorem kd_62 : zNN.1[(62 : Int).toNat]? = some (100, 202) := rfl
theorem ps_62 : (0 : Int) ≤ 62 := by decide
theorem kd_63 : zNN.1[(63 : Int).toNat]? = some (100, 202) := rfl
theorem ps_63 : (0 : Int) ≤ 63 := by decide
theorem kd_64 : zNN.1[(64 : Int).toNat]? = some (100, 202) := rfl
theorem ps_64 : (0 : Int) ≤ 64 := by decide
theorem kd_65 : zNN.1[(65 : Int).toNat]? = some (100, 202) := rfl
theorem ps_65 : (0 : Int) ≤ 65 := by decide
theorem kd_66 : zNN.1[(66 : Int).toNat]? = some (107, 3) := rfl
theorem ps_66 : (0 : Int) ≤ 66 := by decide
theorem kd_67 : zNN.1[(67 : Int).toNat]? = some (100, 124) := rfl
theorem ps_67 : (0 : Int) ≤ 67 := by decide
theorem kd_68 : zNN.1[(68 : Int).toNat]? = some (100, 124) := rfl
theorem ps_68 : (0 : Int) ≤ 68 := by decide
theorem kd_69 : zNN.1[(69 : Int).toNat]? = some (10, 0) := rfl
theorem ps_69 : (0 : Int) ≤ 69 := by decide
theorem kd_70 : zNN.1[(70 : Int).toNat]? = some (0, 0) := rfl
theorem ps_70 : (0 : Int) ≤ 70 := by decide
theorem kd_71 : zNN.1[(71 : Int).toNat]? = some (100, 832) := rfl
theorem ps_71 : (0 : Int) ≤ 71 := by decide
theorem kd_72 : zNN.1[(72 : Int).toNat]? = some (100, 832) := rfl
theorem ps_72 : (0 : Int) ≤ 72 := by decide
theorem kd_73 : zNN.1[(73 : Int).toNat]? = some (100, 64) := rfl
theorem ps_73 : (0 : Int) ≤ 73 := by decide
theorem kd_74 : zNN.1[(74 : Int).toNat]? = some (100, 64) := rfl
theorem ps_74 : (0 : Int) ≤ 74 := by decide
theorem kd_75 : zNN.1[(75 : Int).toNat]? = some (100, 64) := rfl
theorem ps_75 : (0 : Int) ≤ 75 := by decide
theorem kd_76 : zNN.1[(76 : Int).toNat]? = some (100, 64) := rfl
theorem ps_76 : (0 : Int) ≤ 76 := by decide
theorem kd_77 : zNN.1[(77 : Int).toNat]? = some (100, 202) := rfl
theorem ps_77 : (0 : Int) ≤ 77 := by decide
theorem kd_78 : zNN.1[(78 : Int).toNat]? = some (100, 8) := rfl
theorem ps_78 : (0 : Int) ≤ 78 := by decide
theorem kd_79 : zNN.1[(79 : Int).toNat]? = some (10, 0) := rfl
theorem ps_79 : (0 : Int) ≤ 79 := by decide
theorem kd_80 : zNN.1[(80 : Int).toNat]? = some (0, 0) := rfl
theorem ps_80 : (0 : Int) ≤ 80 := by decide
theorem kd_81 : zNN.1[(81 : Int).toNat]? = some (100, 832) := rfl
theorem ps_81 : (0 : Int) ≤ 81 := by decide
theorem kd_82 : zNN.1[(82 : Int).toNat]? = some (100, 832) := rfl
theorem ps_82 : (0 : Int) ≤ 82 := by decide
theorem kd_83 : zNN.1[(83 : Int).toNat]? = some (100, 64) := rfl
theorem ps_83 : (0 : Int) ≤ 83 := by decide
theorem kd_84 : zNN.1[(84 : Int).toNat]? = some (100, 64) := rfl
theorem ps_84 : (0 : Int) ≤ 84 := by decide
theorem kd_85 : zNN.1[(85 : Int).toNat]? = some (100, 64) := rfl
theorem ps_85 : (0 : Int) ≤ 85 := by decide
theorem kd_86 : zNN.1[(86 : Int).toNat]? = some (100, 64) := rfl
theorem ps_86 : (0 : Int) ≤ 86 := by decide
theorem kd_87 : zNN.1[(87 : Int).toNat]? = some (100, 202) := rfl
theorem ps_87 : (0 : Int) ≤ 87 := by decide
theorem kd_88 : zNN.1[(88 : Int).toNat]? = some (100, 8) := rfl
theorem ps_88 : (0 : Int) ≤ 88 := by decide
theorem kd_89 : zNN.1[(89 : Int).toNat]? = some (10, 0) := rfl
theorem ps_89 : (0 : Int) ≤ 89 := by decide
theorem kd_90 : zNN.1[(90 : Int).toNat]? = some (0, 0) := rfl
theorem ps_90 : (0 : Int) ≤ 90 := by decide
theorem kd_91 : zNN.1[(91 : Int).toNat]? = some (100, 832) := rfl
theorem ps_91 : (0 : Int) ≤ 91 := by decide
theorem kd_92 : zNN.1[(92 : Int).toNat]? = some (100, 832) := rfl
theorem ps_92 : (0 : Int) ≤ 92 := by decide
theorem kd_93 : zNN.1[(93 : Int).toNat]? = some (100, 64) := rfl
theorem ps_93 : (0 : Int) ≤ 93 := by decide
theorem kd_94 : zNN.1[(94 : Int).toNat]? = some (100, 64) := rfl
theorem ps_94 : (0 : Int) ≤ 94 := by decide
theorem kd_95 : zNN.1[(95 : Int).toNat]? = some (100, 64) := rfl
theorem ps_95 : (0 : Int) ≤ 95 := by decide
theorem kd_96 : zNN.1[(96 : Int).toNat]? = some (100, 64) := rfl
theorem ps_96 : (0 : Int) ≤ 96 := by decide
theorem kd_97 : zNN.1[(97 : Int).toNat]? = some (100, 202) := rfl
theorem ps_97 : (0 : Int) ≤ 97 := by decide
theorem kd_98 : zNN.1[(98 : Int).toNat]? = some (100, 8) := rfl
theorem ps_98 : (0 : Int) ≤ 98 := by decide
theorem kd_99 : zNN.1[(99 : Int).toNat]? = some (4, 0) := rfl
theorem ps_99 : (0 : Int) ≤ 99 := by decide
theorem kd_100 : zNN.1[(100 : Int).toNat]? = some (4, 0) := rfl
theorem ps_100 : (0 : Int) ≤ 100 := by decide
theorem kd_101 : zNN.1[(101 : Int).toNat]? = some (4, 0) := rfl
theorem ps_101 : (0 : Int) ≤ 101 := by decide
theorem kd_102 : zNN.1[(102 : Int).toNat]? = some (12, 0) := rfl
theorem ps_102 : (0 : Int) ≤ 102 := by decide
theorem kd_103 : zNN.1[(103 : Int).toNat]? = some (100, 500) := rfl
theorem ps_103 : (0 : Int) ≤ 103 := by decide
theorem kd_104 : zNN.1[(104 : Int).toNat]? = some (100, 8) := rfl
theorem ps_104 : (0 : Int) ≤ 104 := by decide
theorem kd_105 : zNN.1[(105 : Int).toNat]? = some (100, 400) := rfl
theorem ps_105 : (0 : Int) ≤ 105 := by decide
theorem kd_106 : zNN.1[(106 : Int).toNat]? = some (100, 400) := rfl
theorem ps_106 : (0 : Int) ≤ 106 := by decide
theorem kd_107 : zNN.1[(107 : Int).toNat]? = some (100, 400) := rfl
theorem ps_107 : (0 : Int) ≤ 107 := by decide
theorem kd_108 : zNN.1[(108 : Int).toNat]? = some (100, 400) := rfl
theorem ps_108 : (0 : Int) ≤ 108 := by decide
theorem kd_109 : zNN.1[(109 : Int).toNat]? = some (102, 400) := rfl
theorem ps_109 : (0 : Int) ≤ 109 := by decide
theorem kd_110 : zNN.1[(110 : Int).toNat]? = some (102, 800) := rfl
theorem ps_110 : (0 : Int) ≤ 110 := by decide
theorem kd_111 : zNN.1[(111 : Int).toNat]? = some (100, 800) := rfl
theorem ps_111 : (0 : Int) ≤ 111 := by decide
theorem kd_112 : zNN.1[(112 : Int).toNat]? = some (100, 77) := rfl
theorem ps_112 : (0 : Int) ≤ 112 := by decide
theorem kd_113 : zNN.1[(113 : Int).toNat]? = some (100, 128) := rfl
theorem ps_113 : (0 : Int) ≤ 113 := by decide
theorem kd_114 : zNN.1[(114 : Int).toNat]? = some (100, 128) := rfl
theorem ps_114 : (0 : Int) ≤ 114 := by decide
theorem kd_115 : zNN.1[(115 : Int).toNat]? = some (100, 128) := rfl
theorem ps_115 : (0 : Int) ≤ 115 := by decide
theorem kd_116 : zNN.1[(116 : Int).toNat]? = some (100, 128) := rfl
theorem ps_116 : (0 : Int) ≤ 116 := by decide
theorem kd_117 : zNN.1[(117 : Int).toNat]? = some (100, 128) := rfl
theorem ps_117 : (0 : Int) ≤ 117 := by decide
theorem kd_118 : zNN.1[(118 : Int).toNat]? = some (100, 128) := rfl
theorem ps_118 : (0 : Int) ≤ 118 := by decide
theorem kd_119 : zNN.1[(119 : Int).toNat]? = some (100, 128) := rfl
theorem ps_119 : (0 : Int) ≤ 119 := by decide
theorem kd_120 : zNN.1[(120 : Int).toNat]? = some (100, 24) := rfl
theorem ps_120 : (0 : Int) ≤ 120 := by decide
theorem kd_121 : zNN.1[(121 : Int).toNat]? = some (100, 24) := rfl
theorem ps_121 : (0 : Int) ≤ 121 := by decide
theorem kd_122 : zNN.1[(122 : Int).toNat]? = some (100, 24) := rfl
theorem ps_122 : (0 : Int) ≤ 122 := by decide
theorem kd_123 : zNN.1[(123 : Int).toNat]? = some (100, 100) := rfl
theorem ps_123 : (0 : Int) ≤ 123 := by decide
theorem kd_124 : zNN.1[(124 : Int).toNat]? = some (100, 100) := rfl
theorem ps_124 : (0 : Int) ≤ 124 := by decide
theorem kd_125 : zNN.1[(125 : Int).toNat]? = some (100, 100) := rfl
theorem ps_125 : (0 : Int) ≤ 125 := by decide
theorem kd_126 : zNN.1[(126 : Int).toNat]? = some (102, 8) := rfl
theorem ps_126 : (0 : Int) ≤ 126 := by decide
theorem kd_127 : zNN.1[(127 : Int).toNat]? = some (101, 64) := rfl
theorem ps_127 : (0 : Int) ≤ 127 := by decide
theorem kd_128 : zNN.1[(128 : Int).toNat]? = some (100, 64) := rfl
theorem ps_128 : (0 : Int) ≤ 128 := by decide
theorem kd_129 : zNN.1[(129 : Int).toNat]? = some (100, 64) := rfl
theorem ps_129 : (0 : Int) ≤ 129 := by decide
theorem kd_130 : zNN.1[(130 : Int).toNat]? = some (102, 64) := rfl
theorem ps_130 : (0 : Int) ≤ 130 := by decide
theorem kd_131 : zNN.1[(131 : Int).toNat]? = some (102, 64) := rfl
theorem ps_131 : (0 : Int) ≤ 131 := by decide
theorem kd_132 : zNN.1[(132 : Int).toNat]? = some (100, 3) := rfl
theorem ps_132 : (0 : Int) ≤ 132 := by decide
theorem kd_133 : zNN.1[(133 : Int).toNat]? = some (100, 3) := rfl
theorem ps_133 : (0 : Int) ≤ 133 := by decide
theorem kd_134 : zNN.1[(134 : Int).toNat]? = some (100, 3) := rfl
theorem ps_134 : (0 : Int) ≤ 134 := by decide
theorem kd_135 : zNN.1[(135 : Int).toNat]? = some (100, 3) := rfl
theorem ps_135 : (0 : Int) ≤ 135 := by decide
theorem kd_136 : zNN.1[(136 : Int).toNat]? = some (100, 3) := rfl
theorem ps_136 : (0 : Int) ≤ 136 := by decide
theorem kd_137 : zNN.1[(137 : Int).toNat]? = some (100, 832) := rfl
theorem ps_137 : (0 : Int) ≤ 137 := by decide
theorem kd_138 : zNN.1[(138 : Int).toNat]? = some (100, 832) := rfl
theorem ps_138 : (0 : Int) ≤ 138 := by decide
theorem kd_139 : zNN.1[(139 : Int).toNat]? = some (100, 64) := rfl
theorem ps_139 : (0 : Int) ≤ 139 := by decide
theorem kd_140 : zNN.1[(140 : Int).toNat]? = some (100, 64) := rfl
theorem ps_140 : (0 : Int) ≤ 140 := by decide
theorem kd_141 : zNN.1[(141 : Int).toNat]? = some (100, 64) := rfl
theorem ps_141 : (0 : Int) ≤ 141 := by decide
theorem kd_142 : zNN.1[(142 : Int).toNat]? = some (102, 8) := rfl
theorem ps_142 : (0 : Int) ≤ 142 := by decide
theorem kd_143 : zNN.1[(143 : Int).toNat]? = some (100, 8) := rfl
theorem ps_143 : (0 : Int) ≤ 143 := by decide
theorem kd_144 : zNN.1[(144 : Int).toNat]? = some (100, 8) := rfl
theorem ps_144 : (0 : Int) ≤ 144 := by decide
theorem kd_145 : zNN.1[(145 : Int).toNat]? = some (100, 8) := rfl
theorem ps_145 : (0 : Int) ≤ 145 := by decide
theorem kd_146 : zNN.1[(146 : Int).toNat]? = some (100, 8) := rfl
theorem ps_146 : (0 : Int) ≤ 146 := by decide
theorem kd_147 : zNN.1[(147 : Int).toNat]? = some (100, 8) := rfl
theorem ps_147 : (0 : Int) ≤ 147 := by decide
theorem kd_148 : zNN.1[(148 : Int).toNat]? = some (100, 14) := rfl
theorem ps_148 : (0 : Int) ≤ 148 := by decide
theorem kd_149 : zNN.1[(149 : Int).toNat]? = some (100, 14) := rfl
theorem ps_149 : (0 : Int) ≤ 149 := by decide
theorem kd_150 : zNN.1[(150 : Int).toNat]? = some (100, 14) := rfl
theorem ps_150 : (0 : Int) ≤ 150 := by decide
theorem kd_151 : zNN.1[(151 : Int).toNat]? = some (100, 14) := rfl
theorem ps_151 : (0 : Int) ≤ 151 := by decide
theorem kd_152 : zNN.1[(152 : Int).toNat]? = some (100, 14) := rfl
theorem ps_152 : (0 : Int) ≤ 152 := by decide
theorem kd_153 : zNN.1[(153 : Int).toNat]? = some (100, 14) := rfl
theorem ps_153 : (0 : Int) ≤ 153 := by decide
theorem kd_154 : zNN.1[(154 : Int).toNat]? = some (100, 100) := rfl
theorem ps_154 : (0 : Int) ≤ 154 := by decide
theorem kd_155 : zNN.1[(155 : Int).toNat]? = some (100, 100) := rfl
theorem ps_155 : (0 : Int) ≤ 155 := by decide
theorem kd_156 : zNN.1[(156 : Int).toNat]? = some (100, 1400) := rfl
theorem ps_156 : (0 : Int) ≤ 156 := by decide
theorem kd_157 : zNN.1[(157 : Int).toNat]? = some (100, 1400) := rfl
theorem ps_157 : (0 : Int) ≤ 157 := by decide
theorem kd_158 : zNN.1[(158 : Int).toNat]? = some (100, 1400) := rfl
theorem ps_158 : (0 : Int) ≤ 158 := by decide
theorem kd_159 : zNN.1[(159 : Int).toNat]? = some (100, 1400) := rfl
theorem ps_159 : (0 : Int) ≤ 159 := by decide
theorem kd_160 : zNN.1[(160 : Int).toNat]? = some (100, 402) := rfl
theorem ps_160 : (0 : Int) ≤ 160 := by decide
theorem kd_161 : zNN.1[(161 : Int).toNat]? = some (100, 402) := rfl
theorem ps_161 : (0 : Int) ≤ 161 := by decide
theorem kd_162 : zNN.1[(162 : Int).toNat]? = some (100, 6) := rfl
theorem ps_162 : (0 : Int) ≤ 162 := by decide
theorem kd_163 : zNN.1[(163 : Int).toNat]? = some (100, 124) := rfl
theorem ps_163 : (0 : Int) ≤ 163 := by decide
theorem kd_164 : zNN.1[(164 : Int).toNat]? = some (100, 124) := rfl
theorem ps_164 : (0 : Int) ≤ 164 := by decide
theorem kd_165 : zNN.1[(165 : Int).toNat]? = some (101, 1) := rfl
theorem ps_165 : (0 : Int) ≤ 165 := by decide
theorem gv_0_0 (M : zM) : zfV (zty 11 0) (zg zNN M (0 : Int).toNat 0) = .inl (M 0 0) := rfl
theorem nf_0_0 : zNN.2.1 (0 : Int).toNat 0 = none := rfl
theorem gv_0_1 (M : zM) : zfV (zty 11 1) (zg zNN M (0 : Int).toNat 1) = .inr (.inr 1) := rfl
theorem gv_0_2 (M : zM) : zfV (zty 11 2) (zg zNN M (0 : Int).toNat 2) = .inr (.inr (M 0 2)) := rfl
theorem nf_0_2 : zNN.2.1 (0 : Int).toNat 2 = none := rfl
theorem gv_0_3 (M : zM) : zfV (zty 11 3) (zg zNN M (0 : Int).toNat 3) = .inr (.inr (M 0 3)) := rfl
theorem nf_0_3 : zNN.2.1 (0 : Int).toNat 3 = none := rfl
theorem gv_0_4 (M : zM) : zfV (zty 11 4) (zg zNN M (0 : Int).toNat 4) = .inr (.inr 20) := rfl
theorem gv_0_5 (M : zM) : zfV (zty 11 5) (zg zNN M (0 : Int).toNat 5) = .inr (.inr 27) := rfl
theorem gv_0_6 (M : zM) : zfV (zty 11 6) (zg zNN M (0 : Int).toNat 6) = .inl (M 0 6) := rfl
theorem nf_0_6 : zNN.2.1 (0 : Int).toNat 6 = none := rfl
theorem gv_0_7 (M : zM) : zfV (zty 11 7) (zg zNN M (0 : Int).toNat 7) = .inl (M 0 7) := rfl
theorem nf_0_7 : zNN.2.1 (0 : Int).toNat 7 = none := rfl
theorem gv_0_8 (M : zM) : zfV (zty 11 8) (zg zNN M (0 : Int).toNat 8) = .inr (.inr 28) := rfl
theorem gv_0_9 (M : zM) : zfV (zty 11 9) (zg zNN M (0 : Int).toNat 9) = .inr (.inr 33) := rfl
theorem gv_0_10 (M : zM) : zfV (zty 11 10) (zg zNN M (0 : Int).toNat 10) = .inr (.inr 34) := rfl
theorem gv_0_11 (M : zM) : zfV (zty 11 11) (zg zNN M (0 : Int).toNat 11) = .inl (M 0 11) := rfl
theorem nf_0_11 : zNN.2.1 (0 : Int).toNat 11 = none := rfl
theorem gv_0_12 (M : zM) : zfV (zty 11 12) (zg zNN M (0 : Int).toNat 12) = .inr (.inr 35) := rfl
theorem gv_0_13 (M : zM) : zfV (zty 11 13) (zg zNN M (0 : Int).toNat 13) = .inr (.inr 44) := rfl
theorem gv_0_14 (M : zM) : zfV (zty 11 14) (zg zNN M (0 : Int).toNat 14) = .inr (.inr 57) := rfl
theorem gv_0_15 (M : zM) : zfV (zty 11 15) (zg zNN M (0 : Int).toNat 15) = .inr (.inr 66) := rfl
theorem gv_0_16 (M : zM) : zfV (zty 11 16) (zg zNN M (0 : Int).toNat 16) = .inr (.inr 67) := rfl
theorem gv_0_17 (M : zM) : zfV (zty 11 17) (zg zNN M (0 : Int).toNat 17) = .inr (.inr 68) := rfl
theorem gv_1_0 (M : zM) : zfV (zty 7 0) (zg zNN M (1 : Int).toNat 0) = .inr (.inr 2) := rfl
theorem gv_1_1 (M : zM) : zfV (zty 7 1) (zg zNN M (1 : Int).toNat 1) = .inl (M 1 1) := rfl
theorem nf_1_1 : zNN.2.1 (1 : Int).toNat 1 = none := rfl
theorem gv_1_2 (M : zM) : zfV (zty 7 2) (zg zNN M (1 : Int).toNat 2) = .inl (M 1 2) := rfl
theorem nf_1_2 : zNN.2.1 (1 : Int).toNat 2 = none := rfl
theorem gv_1_3 (M : zM) : zfV (zty 7 3) (zg zNN M (1 : Int).toNat 3) = .inl (M 1 3) := rfl
theorem nf_1_3 : zNN.2.1 (1 : Int).toNat 3 = none := rfl
theorem gv_1_4 (M : zM) : zfV (zty 7 4) (zg zNN M (1 : Int).toNat 4) = .inl (M 1 4) := rfl
theorem nf_1_4 : zNN.2.1 (1 : Int).toNat 4 = none := rfl
theorem gv_1_5 (M : zM) : zfV (zty 7 5) (zg zNN M (1 : Int).toNat 5) = .inl (M 1 5) := rfl
theorem nf_1_5 : zNN.2.1 (1 : Int).toNat 5 = none := rfl
theorem gv_1_6 (M : zM) : zfV (zty 7 6) (zg zNN M (1 : Int).toNat 6) = .inr (.inr 4) := rfl
theorem gv_1_7 (M : zM) : zfV (zty 7 7) (zg zNN M (1 : Int).toNat 7) = .inl (M 1 7) := rfl
theorem nf_1_7 : zNN.2.1 (1 : Int).toNat 7 = none := rfl
theorem gv_1_8 (M : zM) : zfV (zty 7 8) (zg zNN M (1 : Int).toNat 8) = .inl (M 1 8) := rfl
theorem nf_1_8 : zNN.2.1 (1 : Int).toNat 8 = none := rfl
theorem gv_1_9 (M : zM) : zfV (zty 7 9) (zg zNN M (1 : Int).toNat 9) = .inr (.inr 5) := rfl
theorem gv_1_10 (M : zM) : zfV (zty 7 10) (zg zNN M (1 : Int).toNat 10) = .inl (M 1 10) := rfl
theorem nf_1_10 : zNN.2.1 (1 : Int).toNat 10 = none := rfl
theorem gv_1_11 (M : zM) : zfV (zty 7 11) (zg zNN M (1 : Int).toNat 11) = .inl (M 1 11) := rfl
theorem nf_1_11 : zNN.2.1 (1 : Int).toNat 11 = none := rfl
theorem gv_1_12 (M : zM) : zfV (zty 7 12) (zg zNN M (1 : Int).toNat 12) = .inl (M 1 12) := rfl
theorem nf_1_12 : zNN.2.1 (1 : Int).toNat 12 = none := rfl
theorem gv_2_0 (M : zM) : zfV (zty 9 0) (zg zNN M (2 : Int).toNat 0) = .inr (.inr 3) := rfl
theorem gv_2_1 (M : zM) : zfV (zty 9 1) (zg zNN M (2 : Int).toNat 1) = .inl (M 2 1) := rfl
theorem nf_2_1 : zNN.2.1 (2 : Int).toNat 1 = none := rfl
theorem gv_2_2 (M : zM) : zfV (zty 9 2) (zg zNN M (2 : Int).toNat 2) = .inl (M 2 2) := rfl
theorem nf_2_2 : zNN.2.1 (2 : Int).toNat 2 = none := rfl
theorem gv_2_3 (M : zM) : zfV (zty 9 3) (zg zNN M (2 : Int).toNat 3) = .inl (M 2 3) := rfl
theorem nf_2_3 : zNN.2.1 (2 : Int).toNat 3 = none := rfl
theorem gv_2_4 (M : zM) : zfV (zty 9 4) (zg zNN M (2 : Int).toNat 4) = .inl (M 2 4) := rfl
theorem nf_2_4 : zNN.2.1 (2 : Int).toNat 4 = none := rfl
theorem gv_2_5 (M : zM) : zfV (zty 9 5) (zg zNN M (2 : Int).toNat 5) = .inl (M 2 5) := rfl
theorem nf_2_5 : zNN.2.1 (2 : Int).toNat 5 = none := rfl
theorem gv_2_6 (M : zM) : zfV (zty 9 6) (zg zNN M (2 : Int).toNat 6) = .inl (M 2 6) := rfl
theorem nf_2_6 : zNN.2.1 (2 : Int).toNat 6 = none := rfl
theorem gv_6_0 (M : zM) : zfV (zty 6 0) (zg zNN M (6 : Int).toNat 0) = .inr (.inr 7) := rfl
theorem gv_6_1 (M : zM) : zfV (zty 6 1) (zg zNN M (6 : Int).toNat 1) = .inr (.inr 8) := rfl
theorem gv_6_2 (M : zM) : zfV (zty 6 2) (zg zNN M (6 : Int).toNat 2) = .inr (.inr 9) := rfl
theorem gv_6_3 (M : zM) : zfV (zty 6 3) (zg zNN M (6 : Int).toNat 3) = .inr (.inr 10) := rfl
theorem gv_6_4 (M : zM) : zfV (zty 6 4) (zg zNN M (6 : Int).toNat 4) = .inr (.inr 11) := rfl
theorem gv_6_5 (M : zM) : zfV (zty 6 5) (zg zNN M (6 : Int).toNat 5) = .inr (.inr 12) := rfl
theorem gv_6_6 (M : zM) : zfV (zty 6 6) (zg zNN M (6 : Int).toNat 6) = .inl (M 6 6) := rfl
theorem nf_6_6 : zNN.2.1 (6 : Int).toNat 6 = none := rfl
theorem gv_6_7 (M : zM) : zfV (zty 6 7) (zg zNN M (6 : Int).toNat 7) = .inl (M 6 7) := rfl
theorem nf_6_7 : zNN.2.1 (6 : Int).toNat 7 = none := rfl
theorem gv_6_8 (M : zM) : zfV (zty 6 8) (zg zNN M (6 : Int).toNat 8) = .inl (M 6 8) := rfl
theorem nf_6_8 : zNN.2.1 (6 : Int).toNat 8 = none := rfl
theorem gv_6_9 (M : zM) : zfV (zty 6 9) (zg zNN M (6 : Int).toNat 9) = .inl (M 6 9) := rfl
theorem nf_6_9 : zNN.2.1 (6 : Int).toNat 9 = none := rfl
theorem gv_6_10 (M : zM) : zfV (zty 6 10) (zg zNN M (6 : Int).toNat 10) = .inl (M 6 10) := rfl
theorem nf_6_10 : zNN.2.1 (6 : Int).toNat 10 = none := rfl
theorem gv_6_11 (M : zM) : zfV (zty 6 11) (zg zNN M (6 : Int).toNat 11) = .inl (M 6 11) := rfl
theorem nf_6_11 : zNN.2.1 (6 : Int).toNat 11 = none := rfl
theorem gv_13_0 (M : zM) : zfV (zty 6 0) (zg zNN M (13 : Int).toNat 0) = .inr (.inr 14) := rfl
theorem gv_13_1 (M : zM) : zfV (zty 6 1) (zg zNN M (13 : Int).toNat 1) = .inr (.inr 15) := rfl
theorem gv_13_2 (M : zM) : zfV (zty 6 2) (zg zNN M (13 : Int).toNat 2) = .inr (.inr 16) := rfl
theorem gv_13_3 (M : zM) : zfV (zty 6 3) (zg zNN M (13 : Int).toNat 3) = .inr (.inr 17) := rfl
theorem gv_13_4 (M : zM) : zfV (zty 6 4) (zg zNN M (13 : Int).toNat 4) = .inr (.inr 18) := rfl
theorem gv_13_5 (M : zM) : zfV (zty 6 5) (zg zNN M (13 : Int).toNat 5) = .inr (.inr 19) := rfl
theorem gv_13_6 (M : zM) : zfV (zty 6 6) (zg zNN M (13 : Int).toNat 6) = .inl (M 13 6) := rfl
theorem nf_13_6 : zNN.2.1 (13 : Int).toNat 6 = none := rfl
theorem gv_13_7 (M : zM) : zfV (zty 6 7) (zg zNN M (13 : Int).toNat 7) = .inl (M 13 7) := rfl
theorem nf_13_7 : zNN.2.1 (13 : Int).toNat 7 = none := rfl
theorem gv_13_8 (M : zM) : zfV (zty 6 8) (zg zNN M (13 : Int).toNat 8) = .inl (M 13 8) := rfl
theorem nf_13_8 : zNN.2.1 (13 : Int).toNat 8 = none := rfl
theorem gv_13_9 (M : zM) : zfV (zty 6 9) (zg zNN M (13 : Int).toNat 9) = .inl (M 13 9) := rfl
theorem nf_13_9 : zNN.2.1 (13 : Int).toNat 9 = none := rfl
theorem gv_13_10 (M : zM) : zfV (zty 6 10) (zg zNN M (13 : Int).toNat 10) = .inl (M 13 10) := rfl
theorem nf_13_10 : zNN.2.1 (13 : Int).toNat 10 = none := rfl
theorem gv_13_11 (M : zM) : zfV (zty 6 11) (zg zNN M (13 : Int).toNat 11) = .inl (M 13 11) := rfl
theorem nf_13_11 : zNN.2.1 (13 : Int).toNat 11 = none := rfl
theorem gv_20_0 (M : zM) : zfV (zty 5 0) (zg zNN M (20 : Int).toNat 0) = .inr (.inr 21) := rfl
theorem gv_20_1 (M : zM) : zfV (zty 5 1) (zg zNN M (20 : Int).toNat 1) = .inl (M 20 1) := rfl
theorem nf_20_1 : zNN.2.1 (20 : Int).toNat 1 = none := rfl
theorem gv_20_2 (M : zM) : zfV (zty 5 2) (zg zNN M (20 : Int).toNat 2) = .inr (.inr 22) := rfl
theorem gv_20_3 (M : zM) : zfV (zty 5 3) (zg zNN M (20 : Int).toNat 3) = .inr (.inr 23) := rfl
theorem gv_20_4 (M : zM) : zfV (zty 5 4) (zg zNN M (20 : Int).toNat 4) = .inr (.inr 24) := rfl
theorem gv_20_5 (M : zM) : zfV (zty 5 5) (zg zNN M (20 : Int).toNat 5) = .inr (.inr 25) := rfl
theorem gv_20_6 (M : zM) : zfV (zty 5 6) (zg zNN M (20 : Int).toNat 6) = .inl (M 20 6) := rfl
theorem nf_20_6 : zNN.2.1 (20 : Int).toNat 6 = none := rfl
theorem gv_20_7 (M : zM) : zfV (zty 5 7) (zg zNN M (20 : Int).toNat 7) = .inr (.inr 26) := rfl
theorem gv_26_0 (M : zM) : zfV (zty 8 0) (zg zNN M (26 : Int).toNat 0) = .inl (M 26 0) := rfl
theorem nf_26_0 : zNN.2.1 (26 : Int).toNat 0 = none := rfl
theorem gv_26_1 (M : zM) : zfV (zty 8 1) (zg zNN M (26 : Int).toNat 1) = .inl (M 26 1) := rfl
theorem nf_26_1 : zNN.2.1 (26 : Int).toNat 1 = none := rfl
theorem gv_26_2 (M : zM) : zfV (zty 8 2) (zg zNN M (26 : Int).toNat 2) = .inl (M 26 2) := rfl
theorem nf_26_2 : zNN.2.1 (26 : Int).toNat 2 = none := rfl
theorem gv_26_3 (M : zM) : zfV (zty 8 3) (zg zNN M (26 : Int).toNat 3) = .inl (M 26 3) := rfl
theorem nf_26_3 : zNN.2.1 (26 : Int).toNat 3 = none := rfl
theorem gv_26_4 (M : zM) : zfV (zty 8 4) (zg zNN M (26 : Int).toNat 4) = .inl (M 26 4) := rfl
theorem nf_26_4 : zNN.2.1 (26 : Int).toNat 4 = none := rfl
theorem gv_26_5 (M : zM) : zfV (zty 8 5) (zg zNN M (26 : Int).toNat 5) = .inl (M 26 5) := rfl
theorem nf_26_5 : zNN.2.1 (26 : Int).toNat 5 = none := rfl
theorem gv_26_6 (M : zM) : zfV (zty 8 6) (zg zNN M (26 : Int).toNat 6) = .inl (M 26 6) := rfl
theorem nf_26_6 : zNN.2.1 (26 : Int).toNat 6 = none := rfl
theorem gv_26_7 (M : zM) : zfV (zty 8 7) (zg zNN M (26 : Int).toNat 7) = .inl (M 26 7) := rfl
theorem nf_26_7 : zNN.2.1 (26 : Int).toNat 7 = none := rfl
theorem gv_26_8 (M : zM) : zfV (zty 8 8) (zg zNN M (26 : Int).toNat 8) = .inl (M 26 8) := rfl
theorem nf_26_8 : zNN.2.1 (26 : Int).toNat 8 = none := rfl
theorem gv_28_0 (M : zM) : zfV (zty 1 0) (zg zNN M (28 : Int).toNat 0) = .inl (M 28 0) := rfl
theorem nf_28_0 : zNN.2.1 (28 : Int).toNat 0 = none := rfl
theorem gv_28_1 (M : zM) : zfV (zty 1 1) (zg zNN M (28 : Int).toNat 1) = .inl (M 28 1) := rfl
theorem nf_28_1 : zNN.2.1 (28 : Int).toNat 1 = none := rfl
theorem gv_28_2 (M : zM) : zfV (zty 1 2) (zg zNN M (28 : Int).toNat 2) = .inr (.inr 29) := rfl
theorem gv_28_3 (M : zM) : zfV (zty 1 3) (zg zNN M (28 : Int).toNat 3) = .inr (.inr 30) := rfl
theorem gv_28_4 (M : zM) : zfV (zty 1 4) (zg zNN M (28 : Int).toNat 4) = .inr (.inr 31) := rfl
theorem gv_28_5 (M : zM) : zfV (zty 1 5) (zg zNN M (28 : Int).toNat 5) = .inl (M 28 5) := rfl
theorem nf_28_5 : zNN.2.1 (28 : Int).toNat 5 = none := rfl
theorem gv_28_6 (M : zM) : zfV (zty 1 6) (zg zNN M (28 : Int).toNat 6) = .inr (.inr 32) := rfl
theorem gv_28_7 (M : zM) : zfV (zty 1 7) (zg zNN M (28 : Int).toNat 7) = .inl (M 28 7) := rfl
theorem nf_28_7 : zNN.2.1 (28 : Int).toNat 7 = none := rfl
theorem gv_35_0 (M : zM) : zfV (zty 0 0) (zg zNN M (35 : Int).toNat 0) = .inr (.inr 36) := rfl
theorem gv_35_1 (M : zM) : zfV (zty 0 1) (zg zNN M (35 : Int).toNat 1) = .inr (.inr 37) := rfl
theorem gv_35_2 (M : zM) : zfV (zty 0 2) (zg zNN M (35 : Int).toNat 2) = .inr (.inr 38) := rfl
theorem gv_35_3 (M : zM) : zfV (zty 0 3) (zg zNN M (35 : Int).toNat 3) = .inl (M 35 3) := rfl
theorem nf_35_3 : zNN.2.1 (35 : Int).toNat 3 = none := rfl
theorem gv_35_4 (M : zM) : zfV (zty 0 4) (zg zNN M (35 : Int).toNat 4) = .inl (M 35 4) := rfl
theorem nf_35_4 : zNN.2.1 (35 : Int).toNat 4 = none := rfl
theorem gv_35_5 (M : zM) : zfV (zty 0 5) (zg zNN M (35 : Int).toNat 5) = .inr (.inr 39) := rfl
theorem gv_35_6 (M : zM) : zfV (zty 0 6) (zg zNN M (35 : Int).toNat 6) = .inr (.inr 40) := rfl
theorem gv_35_7 (M : zM) : zfV (zty 0 7) (zg zNN M (35 : Int).toNat 7) = .inr (.inr 41) := rfl
theorem gv_35_8 (M : zM) : zfV (zty 0 8) (zg zNN M (35 : Int).toNat 8) = .inl (M 35 8) := rfl
theorem nf_35_8 : zNN.2.1 (35 : Int).toNat 8 = none := rfl
theorem gv_35_9 (M : zM) : zfV (zty 0 9) (zg zNN M (35 : Int).toNat 9) = .inr (.inr 42) := rfl
theorem gv_35_10 (M : zM) : zfV (zty 0 10) (zg zNN M (35 : Int).toNat 10) = .inl (M 35 10) := rfl
theorem nf_35_10 : zNN.2.1 (35 : Int).toNat 10 = none := rfl
theorem gv_35_11 (M : zM) : zfV (zty 0 11) (zg zNN M (35 : Int).toNat 11) = .inr (.inr 43) := rfl
theorem gv_44_0 (M : zM) : zfV (zty 3 0) (zg zNN M (44 : Int).toNat 0) = .inr (.inr 45) := rfl
theorem gv_44_1 (M : zM) : zfV (zty 3 1) (zg zNN M (44 : Int).toNat 1) = .inr (.inr 46) := rfl
theorem gv_44_2 (M : zM) : zfV (zty 3 2) (zg zNN M (44 : Int).toNat 2) = .inr (.inr 47) := rfl
theorem gv_44_3 (M : zM) : zfV (zty 3 3) (zg zNN M (44 : Int).toNat 3) = .inr (.inr 48) := rfl
theorem gv_44_4 (M : zM) : zfV (zty 3 4) (zg zNN M (44 : Int).toNat 4) = .inr (.inr 49) := rfl
theorem gv_44_5 (M : zM) : zfV (zty 3 5) (zg zNN M (44 : Int).toNat 5) = .inr (.inr 50) := rfl
theorem gv_44_6 (M : zM) : zfV (zty 3 6) (zg zNN M (44 : Int).toNat 6) = .inl (M 44 6) := rfl
theorem nf_44_6 : zNN.2.1 (44 : Int).toNat 6 = none := rfl
theorem gv_44_7 (M : zM) : zfV (zty 3 7) (zg zNN M (44 : Int).toNat 7) = .inr (.inr 51) := rfl
theorem gv_44_8 (M : zM) : zfV (zty 3 8) (zg zNN M (44 : Int).toNat 8) = .inr (.inr 52) := rfl
theorem gv_44_9 (M : zM) : zfV (zty 3 9) (zg zNN M (44 : Int).toNat 9) = .inr (.inr 53) := rfl
theorem gv_44_10 (M : zM) : zfV (zty 3 10) (zg zNN M (44 : Int).toNat 10) = .inr (.inr 54) := rfl
theorem gv_44_11 (M : zM) : zfV (zty 3 11) (zg zNN M (44 : Int).toNat 11) = .inr (.inr 55) := rfl
theorem gv_44_12 (M : zM) : zfV (zty 3 12) (zg zNN M (44 : Int).toNat 12) = .inr (.inr 56) := rfl
theorem gv_44_13 (M : zM) : zfV (zty 3 13) (zg zNN M (44 : Int).toNat 13) = .inl (M 44 13) := rfl
theorem nf_44_13 : zNN.2.1 (44 : Int).toNat 13 = none := rfl
theorem gv_57_0 (M : zM) : zfV (zty 2 0) (zg zNN M (57 : Int).toNat 0) = .inr (.inr 58) := rfl
theorem gv_57_1 (M : zM) : zfV (zty 2 1) (zg zNN M (57 : Int).toNat 1) = .inr (.inr 59) := rfl
theorem gv_57_2 (M : zM) : zfV (zty 2 2) (zg zNN M (57 : Int).toNat 2) = .inr (.inr 60) := rfl
theorem gv_57_3 (M : zM) : zfV (zty 2 3) (zg zNN M (57 : Int).toNat 3) = .inr (.inr 61) := rfl
theorem gv_57_4 (M : zM) : zfV (zty 2 4) (zg zNN M (57 : Int).toNat 4) = .inl (M 57 4) := rfl
theorem nf_57_4 : zNN.2.1 (57 : Int).toNat 4 = none := rfl
theorem gv_57_5 (M : zM) : zfV (zty 2 5) (zg zNN M (57 : Int).toNat 5) = .inr (.inr 62) := rfl
theorem gv_57_6 (M : zM) : zfV (zty 2 6) (zg zNN M (57 : Int).toNat 6) = .inr (.inr 63) := rfl
theorem gv_57_7 (M : zM) : zfV (zty 2 7) (zg zNN M (57 : Int).toNat 7) = .inr (.inr 64) := rfl
theorem gv_57_8 (M : zM) : zfV (zty 2 8) (zg zNN M (57 : Int).toNat 8) = .inr (.inr 65) := rfl
theorem gv_69_0 (M : zM) : zfV (zty 10 0) (zg zNN M (69 : Int).toNat 0) = .inl (M 69 0) := rfl
theorem nf_69_0 : zNN.2.1 (69 : Int).toNat 0 = none := rfl
theorem gv_69_1 (M : zM) : zfV (zty 10 1) (zg zNN M (69 : Int).toNat 1) = .inl (M 69 1) := rfl
theorem nf_69_1 : zNN.2.1 (69 : Int).toNat 1 = none := rfl
theorem gv_69_2 (M : zM) : zfV (zty 10 2) (zg zNN M (69 : Int).toNat 2) = .inl (M 69 2) := rfl
theorem nf_69_2 : zNN.2.1 (69 : Int).toNat 2 = none := rfl
theorem gv_69_3 (M : zM) : zfV (zty 10 3) (zg zNN M (69 : Int).toNat 3) = .inl (M 69 3) := rfl
theorem nf_69_3 : zNN.2.1 (69 : Int).toNat 3 = none := rfl
theorem gv_69_4 (M : zM) : zfV (zty 10 4) (zg zNN M (69 : Int).toNat 4) = .inl (M 69 4) := rfl
theorem nf_69_4 : zNN.2.1 (69 : Int).toNat 4 = none := rfl
theorem gv_70_0 (M : zM) : zfV (zty 0 0) (zg zNN M (70 : Int).toNat 0) = .inr (.inr 71) := rfl
theorem gv_70_1 (M : zM) : zfV (zty 0 1) (zg zNN M (70 : Int).toNat 1) = .inr (.inr 72) := rfl
theorem gv_70_2 (M : zM) : zfV (zty 0 2) (zg zNN M (70 : Int).toNat 2) = .inr (.inr 73) := rfl
theorem gv_70_3 (M : zM) : zfV (zty 0 3) (zg zNN M (70 : Int).toNat 3) = .inl (M 70 3) := rfl
theorem nf_70_3 : zNN.2.1 (70 : Int).toNat 3 = none := rfl
theorem gv_70_4 (M : zM) : zfV (zty 0 4) (zg zNN M (70 : Int).toNat 4) = .inl (M 70 4) := rfl
theorem nf_70_4 : zNN.2.1 (70 : Int).toNat 4 = none := rfl
theorem gv_70_5 (M : zM) : zfV (zty 0 5) (zg zNN M (70 : Int).toNat 5) = .inr (.inr 74) := rfl
theorem gv_70_6 (M : zM) : zfV (zty 0 6) (zg zNN M (70 : Int).toNat 6) = .inr (.inr 75) := rfl
theorem gv_70_7 (M : zM) : zfV (zty 0 7) (zg zNN M (70 : Int).toNat 7) = .inr (.inr 76) := rfl
theorem gv_70_8 (M : zM) : zfV (zty 0 8) (zg zNN M (70 : Int).toNat 8) = .inl (M 70 8) := rfl
theorem nf_70_8 : zNN.2.1 (70 : Int).toNat 8 = none := rfl
theorem gv_70_9 (M : zM) : zfV (zty 0 9) (zg zNN M (70 : Int).toNat 9) = .inr (.inr 77) := rfl
theorem gv_70_10 (M : zM) : zfV (zty 0 10) (zg zNN M (70 : Int).toNat 10) = .inl (M 70 10) := rfl
theorem nf_70_10 : zNN.2.1 (70 : Int).toNat 10 = none := rfl
theorem gv_70_11 (M : zM) : zfV (zty 0 11) (zg zNN M (70 : Int).toNat 11) = .inr (.inr 78) := rfl
theorem gv_79_0 (M : zM) : zfV (zty 10 0) (zg zNN M (79 : Int).toNat 0) = .inl (M 79 0) := rfl
theorem nf_79_0 : zNN.2.1 (79 : Int).toNat 0 = none := rfl
theorem gv_79_1 (M : zM) : zfV (zty 10 1) (zg zNN M (79 : Int).toNat 1) = .inl (M 79 1) := rfl
theorem nf_79_1 : zNN.2.1 (79 : Int).toNat 1 = none := rfl
theorem gv_79_2 (M : zM) : zfV (zty 10 2) (zg zNN M (79 : Int).toNat 2) = .inl (M 79 2) := rfl
theorem nf_79_2 : zNN.2.1 (79 : Int).toNat 2 = none := rfl
theorem gv_79_3 (M : zM) : zfV (zty 10 3) (zg zNN M (79 : Int).toNat 3) = .inl (M 79 3) := rfl
theorem nf_79_3 : zNN.2.1 (79 : Int).toNat 3 = none := rfl
theorem gv_79_4 (M : zM) : zfV (zty 10 4) (zg zNN M (79 : Int).toNat 4) = .inl (M 79 4) := rfl
theorem nf_79_4 : zNN.2.1 (79 : Int).toNat 4 = none := rfl
theorem gv_80_0 (M : zM) : zfV (zty 0 0) (zg zNN M (80 : Int).toNat 0) = .inr (.inr 81) := rfl
theorem gv_80_1 (M : zM) : zfV (zty 0 1) (zg zNN M (80 : Int).toNat 1) = .inr (.inr 82) := rfl
theorem gv_80_2 (M : zM) : zfV (zty 0 2) (zg zNN M (80 : Int).toNat 2) = .inr (.inr 83) := rfl
theorem gv_80_3 (M : zM) : zfV (zty 0 3) (zg zNN M (80 : Int).toNat 3) = .inl (M 80 3) := rfl
theorem nf_80_3 : zNN.2.1 (80 : Int).toNat 3 = none := rfl
theorem gv_80_4 (M : zM) : zfV (zty 0 4) (zg zNN M (80 : Int).toNat 4) = .inl (M 80 4) := rfl
theorem nf_80_4 : zNN.2.1 (80 : Int).toNat 4 = none := rfl
theorem gv_80_5 (M : zM) : zfV (zty 0 5) (zg zNN M (80 : Int).toNat 5) = .inr (.inr 84) := rfl
theorem gv_80_6 (M : zM) : zfV (zty 0 6) (zg zNN M (80 : Int).toNat 6) = .inr (.inr 85) := rfl
theorem gv_80_7 (M : zM) : zfV (zty 0 7) (zg zNN M (80 : Int).toNat 7) = .inr (.inr 86) := rfl
theorem gv_80_8 (M : zM) : zfV (zty 0 8) (zg zNN M (80 : Int).toNat 8) = .inl (M 80 8) := rfl
theorem nf_80_8 : zNN.2.1 (80 : Int).toNat 8 = none := rfl
theorem gv_80_9 (M : zM) : zfV (zty 0 9) (zg zNN M (80 : Int).toNat 9) = .inr (.inr 87) := rfl
theorem gv_80_10 (M : zM) : zfV (zty 0 10) (zg zNN M (80 : Int).toNat 10) = .inl (M 80 10) := rfl
theorem nf_80_10 : zNN.2.1 (80 : Int).toNat 10 = none := rfl
theorem gv_80_11 (M : zM) : zfV (zty 0 11) (zg zNN M (80 : Int).toNat 11) = .inr (.inr 88) := rfl
theorem gv_89_0 (M : zM) : zfV (zty 10 0) (zg zNN M (89 : Int).toNat 0) = .inl (M 89 0) := rfl
theorem nf_89_0 : zNN.2.1 (89 : Int).toNat 0 = none := rfl
theorem gv_89_1 (M : zM) : zfV (zty 10 1) (zg zNN M (89 : Int).toNat 1) = .inl (M 89 1) := rfl
theorem nf_89_1 : zNN.2.1 (89 : Int).toNat 1 = none := rfl
theorem gv_89_2 (M : zM) : zfV (zty 10 2) (zg zNN M (89 : Int).toNat 2) = .inl (M 89 2) := rfl
theorem nf_89_2 : zNN.2.1 (89 : Int).toNat 2 = none := rfl
theorem gv_89_3 (M : zM) : zfV (zty 10 3) (zg zNN M (89 : Int).toNat 3) = .inl (M 89 3) := rfl
theorem nf_89_3 : zNN.2.1 (89 : Int).toNat 3 = none := rfl
theorem gv_89_4 (M : zM) : zfV (zty 10 4) (zg zNN M (89 : Int).toNat 4) = .inl (M 89 4) := rfl
theorem nf_89_4 : zNN.2.1 (89 : Int).toNat 4 = none := rfl
theorem gv_90_0 (M : zM) : zfV (zty 0 0) (zg zNN M (90 : Int).toNat 0) = .inr (.inr 91) := rfl
theorem gv_90_1 (M : zM) : zfV (zty 0 1) (zg zNN M (90 : Int).toNat 1) = .inr (.inr 92) := rfl
theorem gv_90_2 (M : zM) : zfV (zty 0 2) (zg zNN M (90 : Int).toNat 2) = .inr (.inr 93) := rfl
theorem gv_90_3 (M : zM) : zfV (zty 0 3) (zg zNN M (90 : Int).toNat 3) = .inl (M 90 3) := rfl
theorem nf_90_3 : zNN.2.1 (90 : Int).toNat 3 = none := rfl
theorem gv_90_4 (M : zM) : zfV (zty 0 4) (zg zNN M (90 : Int).toNat 4) = .inl (M 90 4) := rfl
theorem nf_90_4 : zNN.2.1 (90 : Int).toNat 4 = none := rfl
theorem gv_90_5 (M : zM) : zfV (zty 0 5) (zg zNN M (90 : Int).toNat 5) = .inr (.inr 94) := rfl
theorem gv_90_6 (M : zM) : zfV (zty 0 6) (zg zNN M (90 : Int).toNat 6) = .inr (.inr 95) := rfl
theorem gv_90_7 (M : zM) : zfV (zty 0 7) (zg zNN M (90 : Int).toNat 7) = .inr (.inr 96) := rfl
theorem gv_90_8 (M : zM) : zfV (zty 0 8) (zg zNN M (90 : Int).toNat 8) = .inl (M 90 8) := rfl
theorem nf_90_8 : zNN.2.1 (90 : Int).toNat 8 = none := rfl
theorem gv_90_9 (M : zM) : zfV (zty 0 9) (zg zNN M (90 : Int).toNat 9) = .inr (.inr 97) := rfl
theorem gv_90_10 (M : zM) : zfV (zty 0 10) (zg zNN M (90 : Int).toNat 10) = .inl (M 90 10) := rfl
theorem nf_90_10 : zNN.2.1 (90 : Int).toNat 10 = none := rfl
theorem gv_90_11 (M : zM) : zfV (zty 0 11) (zg zNN M (90 : Int).toNat 11) = .inr (.inr 98) := rfl
theorem gv_99_0 (M : zM) : zfV (zty 4 0) (zg zNN M (99 : Int).toNat 0) = .inl (M 99 0) := rfl
theorem nf_99_0 : zNN.2.1 (99 : Int).toNat 0 = none := rfl
theorem gv_99_1 (M : zM) : zfV (zty 4 1) (zg zNN M (99 : Int).toNat 1) = .inl (M 99 1) := rfl
theorem nf_99_1 : zNN.2.1 (99 : Int).toNat 1 = none := rfl
theorem gv_99_2 (M : zM) : zfV (zty 4 2) (zg zNN M (99 : Int).toNat 2) = .inl (M 99 2) := rfl
theorem nf_99_2 : zNN.2.1 (99 : Int).toNat 2 = none := rfl
theorem gv_99_3 (M : zM) : zfV (zty 4 3) (zg zNN M (99 : Int).toNat 3) = .inl (M 99 3) := rfl
theorem nf_99_3 : zNN.2.1 (99 : Int).toNat 3 = none := rfl
theorem gv_99_4 (M : zM) : zfV (zty 4 4) (zg zNN M (99 : Int).toNat 4) = .inl (M 99 4) := rfl
theorem nf_99_4 : zNN.2.1 (99 : Int).toNat 4 = none := rfl
theorem gv_100_0 (M : zM) : zfV (zty 4 0) (zg zNN M (100 : Int).toNat 0) = .inl (M 100 0) := rfl
theorem nf_100_0 : zNN.2.1 (100 : Int).toNat 0 = none := rfl
theorem gv_100_1 (M : zM) : zfV (zty 4 1) (zg zNN M (100 : Int).toNat 1) = .inl (M 100 1) := rfl
theorem nf_100_1 : zNN.2.1 (100 : Int).toNat 1 = none := rfl
theorem gv_100_2 (M : zM) : zfV (zty 4 2) (zg zNN M (100 : Int).toNat 2) = .inl (M 100 2) := rfl
theorem nf_100_2 : zNN.2.1 (100 : Int).toNat 2 = none := rfl
theorem gv_100_3 (M : zM) : zfV (zty 4 3) (zg zNN M (100 : Int).toNat 3) = .inl (M 100 3) := rfl
theorem nf_100_3 : zNN.2.1 (100 : Int).toNat 3 = none := rfl
theorem gv_100_4 (M : zM) : zfV (zty 4 4) (zg zNN M (100 : Int).toNat 4) = .inl (M 100 4) := rfl
theorem nf_100_4 : zNN.2.1 (100 : Int).toNat 4 = none := rfl
theorem gv_101_0 (M : zM) : zfV (zty 4 0) (zg zNN M (101 : Int).toNat 0) = .inl (M 101 0) := rfl
theorem nf_101_0 : zNN.2.1 (101 : Int).toNat 0 = none := rfl
theorem gv_101_1 (M : zM) : zfV (zty 4 1) (zg zNN M (101 : Int).toNat 1) = .inl (M 101 1) := rfl
theorem nf_101_1 : zNN.2.1 (101 : Int).toNat 1 = none := rfl
theorem gv_101_2 (M : zM) : zfV (zty 4 2) (zg zNN M (101 : Int).toNat 2) = .inl (M 101 2) := rfl
theorem nf_101_2 : zNN.2.1 (101 : Int).toNat 2 = none := rfl
theorem gv_101_3 (M : zM) : zfV (zty 4 3) (zg zNN M (101 : Int).toNat 3) = .inl (M 101 3) := rfl
theorem nf_101_3 : zNN.2.1 (101 : Int).toNat 3 = none := rfl
theorem gv_101_4 (M : zM) : zfV (zty 4 4) (zg zNN M (101 : Int).toNat 4) = .inl (M 101 4) := rfl
theorem nf_101_4 : zNN.2.1 (101 : Int).toNat 4 = none := rfl
theorem gv_102_0 (M : zM) : zfV (zty 12 0) (zg zNN M (102 : Int).toNat 0) = .inr (.inr 103) := rfl
theorem gv_102_1 (M : zM) : zfV (zty 12 1) (zg zNN M (102 : Int).toNat 1) = .inl (M 102 1) := rfl
theorem nf_102_1 : zNN.2.1 (102 : Int).toNat 1 = none := rfl
theorem gv_102_2 (M : zM) : zfV (zty 12 2) (zg zNN M (102 : Int).toNat 2) = .inl (M 102 2) := rfl
theorem nf_102_2 : zNN.2.1 (102 : Int).toNat 2 = none := rfl
theorem gv_102_3 (M : zM) : zfV (zty 12 3) (zg zNN M (102 : Int).toNat 3) = .inl (M 102 3) := rfl
theorem nf_102_3 : zNN.2.1 (102 : Int).toNat 3 = none := rfl
theorem gv_102_4 (M : zM) : zfV (zty 12 4) (zg zNN M (102 : Int).toNat 4) = .inl (M 102 4) := rfl
theorem nf_102_4 : zNN.2.1 (102 : Int).toNat 4 = none := rfl
theorem gv_102_5 (M : zM) : zfV (zty 12 5) (zg zNN M (102 : Int).toNat 5) = .inr (.inr 104) := rfl
theorem gv_102_6 (M : zM) : zfV (zty 12 6) (zg zNN M (102 : Int).toNat 6) = .inl (M 102 6) := rfl
theorem nf_102_6 : zNN.2.1 (102 : Int).toNat 6 = none := rfl
theorem gv_102_7 (M : zM) : zfV (zty 12 7) (zg zNN M (102 : Int).toNat 7) = .inr (.inr 105) := rfl
theorem gv_102_8 (M : zM) : zfV (zty 12 8) (zg zNN M (102 : Int).toNat 8) = .inr (.inr 106) := rfl
theorem gv_102_9 (M : zM) : zfV (zty 12 9) (zg zNN M (102 : Int).toNat 9) = .inr (.inr 107) := rfl
theorem gv_102_10 (M : zM) : zfV (zty 12 10) (zg zNN M (102 : Int).toNat 10) = .inr (.inr 108) := rfl
theorem gv_102_11 (M : zM) : zfV (zty 12 11) (zg zNN M (102 : Int).toNat 11) = .inr (.inr 109) := rfl
theorem gv_102_12 (M : zM) : zfV (zty 12 12) (zg zNN M (102 : Int).toNat 12) = .inr (.inr 110) := rfl
theorem gv_102_13 (M : zM) : zfV (zty 12 13) (zg zNN M (102 : Int).toNat 13) = .inr (.inr 111) := rfl
theorem gv_102_14 (M : zM) : zfV (zty 12 14) (zg zNN M (102 : Int).toNat 14) = .inr (.inr 112) := rfl
theorem gv_102_15 (M : zM) : zfV (zty 12 15) (zg zNN M (102 : Int).toNat 15) = .inl (M 102 15) := rfl
theorem nf_102_15 : zNN.2.1 (102 : Int).toNat 15 = none := rfl
theorem gv_102_16 (M : zM) : zfV (zty 12 16) (zg zNN M (102 : Int).toNat 16) = .inl (M 102 16) := rfl
theorem nf_102_16 : zNN.2.1 (102 : Int).toNat 16 = none := rfl
theorem gv_102_17 (M : zM) : zfV (zty 12 17) (zg zNN M (102 : Int).toNat 17) = .inl (M 102 17) := rfl
theorem nf_102_17 : zNN.2.1 (102 : Int).toNat 17 = none := rfl
theorem gv_102_18 (M : zM) : zfV (zty 12 18) (zg zNN M (102 : Int).toNat 18) = .inl (M 102 18) := rfl
theorem nf_102_18 : zNN.2.1 (102 : Int).toNat 18 = none := rfl
theorem gv_102_19 (M : zM) : zfV (zty 12 19) (zg zNN M (102 : Int).toNat 19) = .inl (M 102 19) := rfl
theorem nf_102_19 : zNN.2.1 (102 : Int).toNat 19 = none := rfl
theorem gv_102_20 (M : zM) : zfV (zty 12 20) (zg zNN M (102 : Int).toNat 20) = .inl (M 102 20) := rfl
theorem nf_102_20 : zNN.2.1 (102 : Int).toNat 20 = none := rfl
theorem gv_102_21 (M : zM) : zfV (zty 12 21) (zg zNN M (102 : Int).toNat 21) = .inl (M 102 21) := rfl
theorem nf_102_21 : zNN.2.1 (102 : Int).toNat 21 = none := rfl
theorem gv_102_22 (M : zM) : zfV (zty 12 22) (zg zNN M (102 : Int).toNat 22) = .inr (.inr 113) := rfl
theorem gv_102_23 (M : zM) : zfV (zty 12 23) (zg zNN M (102 : Int).toNat 23) = .inr (.inr 114) := rfl
theorem gv_102_24 (M : zM) : zfV (zty 12 24) (zg zNN M (102 : Int).toNat 24) = .inr (.inr 115) := rfl
theorem gv_102_25 (M : zM) : zfV (zty 12 25) (zg zNN M (102 : Int).toNat 25) = .inr (.inr 116) := rfl
theorem gv_102_26 (M : zM) : zfV (zty 12 26) (zg zNN M (102 : Int).toNat 26) = .inr (.inr 117) := rfl
theorem gv_102_27 (M : zM) : zfV (zty 12 27) (zg zNN M (102 : Int).toNat 27) = .inr (.inr 118) := rfl
theorem gv_102_28 (M : zM) : zfV (zty 12 28) (zg zNN M (102 : Int).toNat 28) = .inr (.inr 119) := rfl
theorem gv_102_29 (M : zM) : zfV (zty 12 29) (zg zNN M (102 : Int).toNat 29) = .inr (.inr 120) := rfl
theorem gv_102_30 (M : zM) : zfV (zty 12 30) (zg zNN M (102 : Int).toNat 30) = .inr (.inr 121) := rfl
theorem gv_102_31 (M : zM) : zfV (zty 12 31) (zg zNN M (102 : Int).toNat 31) = .inr (.inr 122) := rfl
theorem gv_102_32 (M : zM) : zfV (zty 12 32) (zg zNN M (102 : Int).toNat 32) = .inl (M 102 32) := rfl
theorem nf_102_32 : zNN.2.1 (102 : Int).toNat 32 = none := rfl
theorem gv_102_33 (M : zM) : zfV (zty 12 33) (zg zNN M (102 : Int).toNat 33) = .inl (M 102 33) := rfl
theorem nf_102_33 : zNN.2.1 (102 : Int).toNat 33 = none := rfl
theorem gv_102_34 (M : zM) : zfV (zty 12 34) (zg zNN M (102 : Int).toNat 34) = .inl (M 102 34) := rfl
theorem nf_102_34 : zNN.2.1 (102 : Int).toNat 34 = none := rfl
theorem gv_102_35 (M : zM) : zfV (zty 12 35) (zg zNN M (102 : Int).toNat 35) = .inl (M 102 35) := rfl
theorem nf_102_35 : zNN.2.1 (102 : Int).toNat 35 = none := rfl
theorem gv_102_36 (M : zM) : zfV (zty 12 36) (zg zNN M (102 : Int).toNat 36) = .inl (M 102 36) := rfl
theorem nf_102_36 : zNN.2.1 (102 : Int).toNat 36 = none := rfl
theorem gv_102_37 (M : zM) : zfV (zty 12 37) (zg zNN M (102 : Int).toNat 37) = .inl (M 102 37) := rfl
theorem nf_102_37 : zNN.2.1 (102 : Int).toNat 37 = none := rfl
theorem gv_102_38 (M : zM) : zfV (zty 12 38) (zg zNN M (102 : Int).toNat 38) = .inl (M 102 38) := rfl
theorem nf_102_38 : zNN.2.1 (102 : Int).toNat 38 = none := rfl
theorem gv_102_39 (M : zM) : zfV (zty 12 39) (zg zNN M (102 : Int).toNat 39) = .inl (M 102 39) := rfl
theorem nf_102_39 : zNN.2.1 (102 : Int).toNat 39 = none := rfl
theorem gv_102_40 (M : zM) : zfV (zty 12 40) (zg zNN M (102 : Int).toNat 40) = .inr (.inr 123) := rfl
theorem gv_102_41 (M : zM) : zfV (zty 12 41) (zg zNN M (102 : Int).toNat 41) = .inr (.inr 124) := rfl
theorem gv_102_42 (M : zM) : zfV (zty 12 42) (zg zNN M (102 : Int).toNat 42) = .inl (M 102 42) := rfl
theorem nf_102_42 : zNN.2.1 (102 : Int).toNat 42 = none := rfl
theorem gv_102_43 (M : zM) : zfV (zty 12 43) (zg zNN M (102 : Int).toNat 43) = .inr (.inr 125) := rfl
theorem gv_102_44 (M : zM) : zfV (zty 12 44) (zg zNN M (102 : Int).toNat 44) = .inl (M 102 44) := rfl
theorem nf_102_44 : zNN.2.1 (102 : Int).toNat 44 = none := rfl
theorem gv_102_45 (M : zM) : zfV (zty 12 45) (zg zNN M (102 : Int).toNat 45) = .inr (.inr 126) := rfl
theorem gv_102_46 (M : zM) : zfV (zty 12 46) (zg zNN M (102 : Int).toNat 46) = .inl (M 102 46) := rfl
theorem nf_102_46 : zNN.2.1 (102 : Int).toNat 46 = none := rfl
theorem gv_102_47 (M : zM) : zfV (zty 12 47) (zg zNN M (102 : Int).toNat 47) = .inl (M 102 47) := rfl
theorem nf_102_47 : zNN.2.1 (102 : Int).toNat 47 = none := rfl
theorem gv_102_48 (M : zM) : zfV (zty 12 48) (zg zNN M (102 : Int).toNat 48) = .inl (M 102 48) := rfl
theorem nf_102_48 : zNN.2.1 (102 : Int).toNat 48 = none := rfl
theorem gv_102_49 (M : zM) : zfV (zty 12 49) (zg zNN M (102 : Int).toNat 49) = .inl (M 102 49) := rfl
theorem nf_102_49 : zNN.2.1 (102 : Int).toNat 49 = none := rfl
theorem gv_102_50 (M : zM) : zfV (zty 12 50) (zg zNN M (102 : Int).toNat 50) = .inr (.inr 127) := rfl
theorem gv_102_51 (M : zM) : zfV (zty 12 51) (zg zNN M (102 : Int).toNat 51) = .inl (M 102 51) := rfl
theorem nf_102_51 : zNN.2.1 (102 : Int).toNat 51 = none := rfl
theorem gv_102_52 (M : zM) : zfV (zty 12 52) (zg zNN M (102 : Int).toNat 52) = .inl (M 102 52) := rfl
theorem nf_102_52 : zNN.2.1 (102 : Int).toNat 52 = none := rfl
theorem gv_102_53 (M : zM) : zfV (zty 12 53) (zg zNN M (102 : Int).toNat 53) = .inr (.inr 128) := rfl
theorem gv_102_54 (M : zM) : zfV (zty 12 54) (zg zNN M (102 : Int).toNat 54) = .inr (.inr 129) := rfl
theorem gv_102_55 (M : zM) : zfV (zty 12 55) (zg zNN M (102 : Int).toNat 55) = .inr (.inr 130) := rfl
theorem gv_102_56 (M : zM) : zfV (zty 12 56) (zg zNN M (102 : Int).toNat 56) = .inr (.inr 131) := rfl
theorem gv_102_57 (M : zM) : zfV (zty 12 57) (zg zNN M (102 : Int).toNat 57) = .inl (M 102 57) := rfl
theorem nf_102_57 : zNN.2.1 (102 : Int).toNat 57 = none := rfl
theorem gv_102_58 (M : zM) : zfV (zty 12 58) (zg zNN M (102 : Int).toNat 58) = .inl (M 102 58) := rfl
theorem nf_102_58 : zNN.2.1 (102 : Int).toNat 58 = none := rfl
theorem gv_102_59 (M : zM) : zfV (zty 12 59) (zg zNN M (102 : Int).toNat 59) = .inr (.inr 132) := rfl
theorem gv_102_60 (M : zM) : zfV (zty 12 60) (zg zNN M (102 : Int).toNat 60) = .inr (.inr 133) := rfl
theorem gv_102_61 (M : zM) : zfV (zty 12 61) (zg zNN M (102 : Int).toNat 61) = .inr (.inr 134) := rfl
theorem gv_102_62 (M : zM) : zfV (zty 12 62) (zg zNN M (102 : Int).toNat 62) = .inr (.inr 135) := rfl
theorem gv_102_63 (M : zM) : zfV (zty 12 63) (zg zNN M (102 : Int).toNat 63) = .inr (.inr 136) := rfl
theorem gv_102_64 (M : zM) : zfV (zty 12 64) (zg zNN M (102 : Int).toNat 64) = .inr (.inr 137) := rfl
theorem gv_102_65 (M : zM) : zfV (zty 12 65) (zg zNN M (102 : Int).toNat 65) = .inr (.inr 138) := rfl
theorem gv_102_66 (M : zM) : zfV (zty 12 66) (zg zNN M (102 : Int).toNat 66) = .inr (.inr 139) := rfl
theorem gv_102_67 (M : zM) : zfV (zty 12 67) (zg zNN M (102 : Int).toNat 67) = .inr (.inr 140) := rfl
theorem gv_102_68 (M : zM) : zfV (zty 12 68) (zg zNN M (102 : Int).toNat 68) = .inr (.inr 141) := rfl
theorem gv_102_69 (M : zM) : zfV (zty 12 69) (zg zNN M (102 : Int).toNat 69) = .inl (M 102 69) := rfl
theorem nf_102_69 : zNN.2.1 (102 : Int).toNat 69 = none := rfl
theorem gv_102_70 (M : zM) : zfV (zty 12 70) (zg zNN M (102 : Int).toNat 70) = .inr (.inr 142) := rfl
theorem gv_102_71 (M : zM) : zfV (zty 12 71) (zg zNN M (102 : Int).toNat 71) = .inr (.inr 143) := rfl
theorem gv_102_72 (M : zM) : zfV (zty 12 72) (zg zNN M (102 : Int).toNat 72) = .inr (.inr 144) := rfl
theorem gv_102_73 (M : zM) : zfV (zty 12 73) (zg zNN M (102 : Int).toNat 73) = .inr (.inr 145) := rfl
theorem gv_102_74 (M : zM) : zfV (zty 12 74) (zg zNN M (102 : Int).toNat 74) = .inr (.inr 146) := rfl
theorem gv_102_75 (M : zM) : zfV (zty 12 75) (zg zNN M (102 : Int).toNat 75) = .inr (.inr 147) := rfl
theorem gv_102_76 (M : zM) : zfV (zty 12 76) (zg zNN M (102 : Int).toNat 76) = .inl (M 102 76) := rfl
theorem nf_102_76 : zNN.2.1 (102 : Int).toNat 76 = none := rfl
theorem gv_102_77 (M : zM) : zfV (zty 12 77) (zg zNN M (102 : Int).toNat 77) = .inr (.inr 148) := rfl
theorem gv_102_78 (M : zM) : zfV (zty 12 78) (zg zNN M (102 : Int).toNat 78) = .inr (.inr 149) := rfl
theorem gv_102_79 (M : zM) : zfV (zty 12 79) (zg zNN M (102 : Int).toNat 79) = .inr (.inr 150) := rfl
theorem gv_102_80 (M : zM) : zfV (zty 12 80) (zg zNN M (102 : Int).toNat 80) = .inr (.inr 151) := rfl
theorem gv_102_81 (M : zM) : zfV (zty 12 81) (zg zNN M (102 : Int).toNat 81) = .inr (.inr 152) := rfl
theorem gv_102_82 (M : zM) : zfV (zty 12 82) (zg zNN M (102 : Int).toNat 82) = .inr (.inr 153) := rfl
theorem gv_102_83 (M : zM) : zfV (zty 12 83) (zg zNN M (102 : Int).toNat 83) = .inr (.inr 154) := rfl
theorem gv_102_84 (M : zM) : zfV (zty 12 84) (zg zNN M (102 : Int).toNat 84) = .inr (.inr 155) := rfl
theorem gv_102_85 (M : zM) : zfV (zty 12 85) (zg zNN M (102 : Int).toNat 85) = .inl (M 102 85) := rfl
theorem nf_102_85 : zNN.2.1 (102 : Int).toNat 85 = none := rfl
theorem gv_102_86 (M : zM) : zfV (zty 12 86) (zg zNN M (102 : Int).toNat 86) = .inr (.inr 156) := rfl
theorem gv_102_87 (M : zM) : zfV (zty 12 87) (zg zNN M (102 : Int).toNat 87) = .inr (.inr 157) := rfl
theorem gv_102_88 (M : zM) : zfV (zty 12 88) (zg zNN M (102 : Int).toNat 88) = .inr (.inr 158) := rfl
theorem gv_102_89 (M : zM) : zfV (zty 12 89) (zg zNN M (102 : Int).toNat 89) = .inr (.inr 159) := rfl
theorem gv_102_90 (M : zM) : zfV (zty 12 90) (zg zNN M (102 : Int).toNat 90) = .inr (.inr 160) := rfl
theorem gv_102_91 (M : zM) : zfV (zty 12 91) (zg zNN M (102 : Int).toNat 91) = .inr (.inr 161) := rfl
theorem gv_102_92 (M : zM) : zfV (zty 12 92) (zg zNN M (102 : Int).toNat 92) = .inl (M 102 92) := rfl
theorem nf_102_92 : zNN.2.1 (102 : Int).toNat 92 = none := rfl
theorem gv_102_93 (M : zM) : zfV (zty 12 93) (zg zNN M (102 : Int).toNat 93) = .inl (M 102 93) := rfl
theorem nf_102_93 : zNN.2.1 (102 : Int).toNat 93 = none := rfl
theorem gv_102_94 (M : zM) : zfV (zty 12 94) (zg zNN M (102 : Int).toNat 94) = .inl (M 102 94) := rfl
theorem nf_102_94 : zNN.2.1 (102 : Int).toNat 94 = none := rfl
theorem gv_102_95 (M : zM) : zfV (zty 12 95) (zg zNN M (102 : Int).toNat 95) = .inl (M 102 95) := rfl
theorem nf_102_95 : zNN.2.1 (102 : Int).toNat 95 = none := rfl
theorem gv_102_96 (M : zM) : zfV (zty 12 96) (zg zNN M (102 : Int).toNat 96) = .inl (M 102 96) := rfl
theorem nf_102_96 : zNN.2.1 (102 : Int).toNat 96 = none := rfl
theorem gv_102_97 (M : zM) : zfV (zty 12 97) (zg zNN M (102 : Int).toNat 97) = .inr (.inr 162) := rfl
theorem gv_102_98 (M : zM) : zfV (zty 12 98) (zg zNN M (102 : Int).toNat 98) = .inl (M 102 98) := rfl
theorem nf_102_98 : zNN.2.1 (102 : Int).toNat 98 = none := rfl
theorem gv_102_99 (M : zM) : zfV (zty 12 99) (zg zNN M (102 : Int).toNat 99) = .inl (M 102 99) := rfl
theorem nf_102_99 : zNN.2.1 (102 : Int).toNat 99 = none := rfl
theorem gv_102_100 (M : zM) : zfV (zty 12 100) (zg zNN M (102 : Int).toNat 100) = .inl (M 102 100) := rfl
theorem nf_102_100 : zNN.2.1 (102 : Int).toNat 100 = none := rfl
theorem gv_102_101 (M : zM) : zfV (zty 12 101) (zg zNN M (102 : Int).toNat 101) = .inl (M 102 101) := rfl
theorem nf_102_101 : zNN.2.1 (102 : Int).toNat 101 = none := rfl
theorem gv_102_102 (M : zM) : zfV (zty 12 102) (zg zNN M (102 : Int).toNat 102) = .inl (M 102 102) := rfl
theorem nf_102_102 : zNN.2.1 (102 : Int).toNat 102 = none := rfl
theorem gv_102_103 (M : zM) : zfV (zty 12 103) (zg zNN M (102 : Int).toNat 103) = .inl (M 102 103) := rfl
theorem nf_102_103 : zNN.2.1 (102 : Int).toNat 103 = none := rfl
theorem gv_102_104 (M : zM) : zfV (zty 12 104) (zg zNN M (102 : Int).toNat 104) = .inl (M 102 104) := rfl
theorem nf_102_104 : zNN.2.1 (102 : Int).toNat 104 = none := rfl
theorem gv_102_105 (M : zM) : zfV (zty 12 105) (zg zNN M (102 : Int).toNat 105) = .inr (.inr 163) := rfl
theorem gv_102_106 (M : zM) : zfV (zty 12 106) (zg zNN M (102 : Int).toNat 106) = .inr (.inr 164) := rfl
/-- contracts where no cell is made -/
def zP (E : zE) (d : zD) (args : List zV) (M : zM) (Q : Int → zM → Prop) : Prop := zC E zNN d args M (fun r N' M' => N' = zNN ∧ Q r M')
theorem zP_Q {E : zE} {d : zD} {args : List zV} {M : zM} {Q Q' : Int → zM → Prop} (k : zP E d args M Q') (h : ∀ r M', Q' r M' → Q r M') : zP E d args M Q :=
  zC_Q (fun r N' M' hq => ⟨hq.1, h r M' hq.2⟩) k
def zQ (Q : Int → zM → Prop) : Int → zN → zM → Prop := fun r N' M' => N' = zNN ∧ Q r M'
theorem lg_zl (E : zE) : ∀ args : List zV, (lg_sl (args.map (zv E))).length = (args.map zcat).sum
  | [] => rfl
  | v :: vs => by
    have ih := lg_zl E vs
    unfold lg_sl at ih ⊢
    rw [List.map_cons, List.flatMap_cons, List.length_append, ih, List.map_cons, List.sum_cons, zv_cat]
    congr 1
    match v with
    | .inl x => rfl
    | .inr (.inl x) => rfl
    | .inr (.inr r) => rfl
theorem zP_of {E : zE} {d : zD} {args : List zV} {M : zM} {Q : Int → zM → Prop} (hpl : plainName d.1.cls = true) (hown : d.1.cls = d.2.2.2.2.1) (hlen : (args.map zcat).sum ≤ d.2.2.1) (k : zA E zNN (0, 0) d 0 (zargs 0 args) [] M (zQ Q)) : zP E d args M Q :=
  zC_of hpl hown (by rw [lg_zl]; exact hlen) k
def zsub : List (Nat × zV) → List (Nat × zV) → Prop
  | [], _ => True
  | q :: l, al => zlk al q.1 = some q.2 ∧ zsub l al
theorem zsub_of : ∀ {l al : List (Nat × zV)}, zsub l al → ∀ q ∈ l, zlk al q.1 = some q.2
  | [], _, _, _, h => by cases h
  | x :: l, al, hs, q, h => by
    rcases List.mem_cons.mp h with rfl | h
    · exact hs.1
    · exact zsub_of hs.2 q h
section zn
variable {E : zE} {d : zD} {pc pc' : Nat} {al al' : List (Nat × zV)} {st : List zV} {M : zM} {Q : Int → zM → Prop}
theorem zn_al (k : zA E zNN (0, 0) d pc al' st M (zQ Q)) (h : zsub al' al) : zA E zNN (0, 0) d pc al st M (zQ Q) := zr_al (zsub_of h) k
theorem zn_callV {d2 : zD} {idx ci n kn : Nat} {b : Int} {args st0 : List zV} {Q' : Int → zM → Prop} {st' : Int → List zV} (hd : decode d.2.1 pc = .ok (.invokevirtual idx, 3)) (hp : pc + 3 = pc') (hw : zCv d.2.2.2.2.1 idx d2 ci n) (hR : zRm d d2) (hm : d2.2.2.2.2.2.2 = (0, 0)) (hb : 0 ≤ b) (hk : zNN.1[b.toNat]? = some (ci, kn)) (hn : args.length = n) (hst : args.reverse ++ .inr (.inr b) :: st = st0) (h8 : (st.map zcat).sum ≤ 8) (hr : ∀ r, zpu d2.2.2.2.1 r st = st' r)
    (hM : zP E d2 (.inr (.inr b) :: args) M Q') (k : ∀ r M', Q' r M' → zA E zNN (0, 0) d pc' al (st' r) M' (zQ Q)) : zA E zNN (0, 0) d pc al st0 M (zQ Q) := by
  refine zr_callV hd hp hw hR hb hk hn hst h8 ⟨?_, ?_⟩ hr (fun r N' M' h h2 => ?_) hM (fun r N' M' h => ?_)
  · rw [hm]; exact Nat.zero_le _
  · rw [hm]; exact Nat.zero_le _
  · rw [h.1] at h2; cases h2
  · obtain ⟨rfl, h⟩ := h
    rw [hm]
    exact k r M' h
theorem zn_callS {d2 : zD} {idx n : Nat} {args st0 : List zV} {Q' : Int → zM → Prop} {st' : Int → List zV} (hd : decode d.2.1 pc = .ok (.invokestatic idx, 3)) (hp : pc + 3 = pc') (hw : zCs d.2.2.2.2.1 idx d2 n) (hR : zRm d d2) (hm : d2.2.2.2.2.2.2 = (0, 0)) (hn : args.length = n) (hst : args.reverse ++ st = st0) (h8 : (st.map zcat).sum ≤ 8) (hr : ∀ r, zpu d2.2.2.2.1 r st = st' r)
    (hM : zP E d2 args M Q') (k : ∀ r M', Q' r M' → zA E zNN (0, 0) d pc' al (st' r) M' (zQ Q)) : zA E zNN (0, 0) d pc al st0 M (zQ Q) := by
  refine zr_callS hd hp hw hR hn hst h8 ⟨?_, ?_⟩ hr (fun r N' M' h h2 => ?_) hM (fun r N' M' h => ?_)
  · rw [hm]; exact Nat.zero_le _
  · rw [hm]; exact Nat.zero_le _
  · rw [h.1] at h2; cases h2
  · obtain ⟨rfl, h⟩ := h
    rw [hm]
    exact k r M' h
theorem zn_lif_eq {x y off : Int} {tgt pc1 : Nat} (hd1 : decode d.2.1 pc = .ok (.lcmp, 1)) (hp1 : pc + 1 = pc1) (hd : decode d.2.1 pc1 = .ok (.ifCond .eq off, 3)) (ht : (pc1 : Int) + off = (tgt : Int)) (hp : pc1 + 3 = pc') (hx : zL x) (hy : zL y) (kt : x = y → zA E zNN (0, 0) d tgt al st M (zQ Q)) (kf : ¬ x = y → zA E zNN (0, 0) d pc' al st M (zQ Q)) : zA E zNN (0, 0) d pc al (.inr (.inl y) :: .inr (.inl x) :: st) M (zQ Q) := by
  refine zr_lcmp hd1 hp1 hx hy (zr_if_eq hd ht hp ?_ (fun h => kt ?_) (fun h => kf ?_))
  all_goals (unfold zR at *; split at * <;> try split at *) <;> omega
theorem zn_lif_ne {x y off : Int} {tgt pc1 : Nat} (hd1 : decode d.2.1 pc = .ok (.lcmp, 1)) (hp1 : pc + 1 = pc1) (hd : decode d.2.1 pc1 = .ok (.ifCond .ne off, 3)) (ht : (pc1 : Int) + off = (tgt : Int)) (hp : pc1 + 3 = pc') (hx : zL x) (hy : zL y) (kt : ¬ x = y → zA E zNN (0, 0) d tgt al st M (zQ Q)) (kf : x = y → zA E zNN (0, 0) d pc' al st M (zQ Q)) : zA E zNN (0, 0) d pc al (.inr (.inl y) :: .inr (.inl x) :: st) M (zQ Q) := by
  refine zr_lcmp hd1 hp1 hx hy (zr_if_ne hd ht hp ?_ (fun h => kt ?_) (fun h => kf ?_))
  all_goals (unfold zR at *; split at * <;> try split at *) <;> omega
theorem zn_lif_lt {x y off : Int} {tgt pc1 : Nat} (hd1 : decode d.2.1 pc = .ok (.lcmp, 1)) (hp1 : pc + 1 = pc1) (hd : decode d.2.1 pc1 = .ok (.ifCond .lt off, 3)) (ht : (pc1 : Int) + off = (tgt : Int)) (hp : pc1 + 3 = pc') (hx : zL x) (hy : zL y) (kt : x < y → zA E zNN (0, 0) d tgt al st M (zQ Q)) (kf : y ≤ x → zA E zNN (0, 0) d pc' al st M (zQ Q)) : zA E zNN (0, 0) d pc al (.inr (.inl y) :: .inr (.inl x) :: st) M (zQ Q) := by
  refine zr_lcmp hd1 hp1 hx hy (zr_if_lt hd ht hp ?_ (fun h => kt ?_) (fun h => kf ?_))
  all_goals (unfold zR at *; split at * <;> try split at *) <;> omega
theorem zn_lif_ge {x y off : Int} {tgt pc1 : Nat} (hd1 : decode d.2.1 pc = .ok (.lcmp, 1)) (hp1 : pc + 1 = pc1) (hd : decode d.2.1 pc1 = .ok (.ifCond .ge off, 3)) (ht : (pc1 : Int) + off = (tgt : Int)) (hp : pc1 + 3 = pc') (hx : zL x) (hy : zL y) (kt : y ≤ x → zA E zNN (0, 0) d tgt al st M (zQ Q)) (kf : x < y → zA E zNN (0, 0) d pc' al st M (zQ Q)) : zA E zNN (0, 0) d pc al (.inr (.inl y) :: .inr (.inl x) :: st) M (zQ Q) := by
  refine zr_lcmp hd1 hp1 hx hy (zr_if_ge hd ht hp ?_ (fun h => kt ?_) (fun h => kf ?_))
  all_goals (unfold zR at *; split at * <;> try split at *) <;> omega
theorem zn_lif_gt {x y off : Int} {tgt pc1 : Nat} (hd1 : decode d.2.1 pc = .ok (.lcmp, 1)) (hp1 : pc + 1 = pc1) (hd : decode d.2.1 pc1 = .ok (.ifCond .gt off, 3)) (ht : (pc1 : Int) + off = (tgt : Int)) (hp : pc1 + 3 = pc') (hx : zL x) (hy : zL y) (kt : y < x → zA E zNN (0, 0) d tgt al st M (zQ Q)) (kf : x ≤ y → zA E zNN (0, 0) d pc' al st M (zQ Q)) : zA E zNN (0, 0) d pc al (.inr (.inl y) :: .inr (.inl x) :: st) M (zQ Q) := by
  refine zr_lcmp hd1 hp1 hx hy (zr_if_gt hd ht hp ?_ (fun h => kt ?_) (fun h => kf ?_))
  all_goals (unfold zR at *; split at * <;> try split at *) <;> omega
theorem zn_lif_le {x y off : Int} {tgt pc1 : Nat} (hd1 : decode d.2.1 pc = .ok (.lcmp, 1)) (hp1 : pc + 1 = pc1) (hd : decode d.2.1 pc1 = .ok (.ifCond .le off, 3)) (ht : (pc1 : Int) + off = (tgt : Int)) (hp : pc1 + 3 = pc') (hx : zL x) (hy : zL y) (kt : x ≤ y → zA E zNN (0, 0) d tgt al st M (zQ Q)) (kf : y < x → zA E zNN (0, 0) d pc' al st M (zQ Q)) : zA E zNN (0, 0) d pc al (.inr (.inl y) :: .inr (.inl x) :: st) M (zQ Q) := by
  refine zr_lcmp hd1 hp1 hx hy (zr_if_le hd ht hp ?_ (fun h => kt ?_) (fun h => kf ?_))
  all_goals (unfold zR at *; split at * <;> try split at *) <;> omega
end zn
