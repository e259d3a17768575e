/-! THE START -/
def sv00 : SV := (0, fun _ => 0, fun _ => 0, fun _ _ => 0)
def vi00 : VI := fun _ _ => 0
def vl00 : VL := fun _ _ => 0
def mkA : Option (SV × VI × VL) := fX9_init 0 (j_svn sv00 9 14) (j_z0 vi00 0 0) (j_z0 vl00 0 0)
set_option maxRecDepth 100000 in
theorem mkA_some : mkA.isSome = true := by decide +kernel
def stA : SV × VI × VL := mkA.get mkA_some
theorem mkA_eq : mkA = some stA := by simp [stA]
def mkB : Option (SV × VI × VL) := fX10_init 63 (j_svn stA.1 10 53) (j_z0 stA.2.1 stA.1.1 0) (j_z0 stA.2.2 stA.1.1 0)
set_option maxRecDepth 100000 in
theorem mkB_some : mkB.isSome = true := by decide +kernel
def stB : SV × VI × VL := mkB.get mkB_some
theorem mkB_eq : mkB = some stB := by simp [stB]
set_option maxRecDepth 100000 in
theorem stA_n : stA.1.1 = 63 := by decide +kernel
set_option maxRecDepth 100000 in
theorem wfB_0 : 0 ≤ 5 := Nat.zero_le _
set_option maxRecDepth 100000 in
theorem wfB_1 : stB.1.1 = 98 + 5 * 0 := by decide +kernel
set_option maxRecDepth 100000 in
theorem wfB_2 : Ob stB.1 0 9 := ⟨by decide +kernel, by decide +kernel⟩
set_option maxRecDepth 100000 in
theorem wfB_3 : Ar stB.1 1 23 5 := ⟨by decide +kernel, by decide +kernel, by decide +kernel⟩
set_option maxRecDepth 100000 in
theorem wfB_4 : Ar stB.1 2 11 6 := ⟨by decide +kernel, by decide +kernel, by decide +kernel⟩
set_option maxRecDepth 100000 in
theorem wfB_5 : Ob stB.1 3 8 := ⟨by decide +kernel, by decide +kernel⟩
set_option maxRecDepth 100000 in
theorem wfB_6 : Ar stB.1 4 11 120 := ⟨by decide +kernel, by decide +kernel, by decide +kernel⟩
set_option maxRecDepth 100000 in
theorem wfB_7 : Ob stB.1 5 5 := ⟨by decide +kernel, by decide +kernel⟩
set_option maxRecDepth 100000 in
theorem wfB_8 : Ar stB.1 6 11 121 := ⟨by decide +kernel, by decide +kernel, by decide +kernel⟩
set_option maxRecDepth 100000 in
theorem wfB_9 : Ar stB.1 7 11 6 := ⟨by decide +kernel, by decide +kernel, by decide +kernel⟩
set_option maxRecDepth 100000 in
theorem wfB_10 : Ar stB.1 8 11 121 := ⟨by decide +kernel, by decide +kernel, by decide +kernel⟩
set_option maxRecDepth 100000 in
theorem wfB_11 : Ob stB.1 9 5 := ⟨by decide +kernel, by decide +kernel⟩
set_option maxRecDepth 100000 in
theorem wfB_12 : Ar stB.1 10 11 121 := ⟨by decide +kernel, by decide +kernel, by decide +kernel⟩
set_option maxRecDepth 100000 in
theorem wfB_13 : Ar stB.1 11 11 6 := ⟨by decide +kernel, by decide +kernel, by decide +kernel⟩
set_option maxRecDepth 100000 in
theorem wfB_14 : Ar stB.1 12 11 121 := ⟨by decide +kernel, by decide +kernel, by decide +kernel⟩
set_option maxRecDepth 100000 in
theorem wfB_15 : Ob stB.1 13 3 := ⟨by decide +kernel, by decide +kernel⟩
set_option maxRecDepth 100000 in
theorem wfB_16 : Ar stB.1 14 11 12 := ⟨by decide +kernel, by decide +kernel, by decide +kernel⟩
set_option maxRecDepth 100000 in
theorem wfB_17 : Ar stB.1 15 11 12 := ⟨by decide +kernel, by decide +kernel, by decide +kernel⟩
set_option maxRecDepth 100000 in
theorem wfB_18 : Ob stB.1 16 2 := ⟨by decide +kernel, by decide +kernel⟩
set_option maxRecDepth 100000 in
theorem wfB_19 : Ar stB.1 17 20 820 := ⟨by decide +kernel, by decide +kernel, by decide +kernel⟩
set_option maxRecDepth 100000 in
theorem wfB_20 : Ar stB.1 18 11 13 := ⟨by decide +kernel, by decide +kernel, by decide +kernel⟩
set_option maxRecDepth 100000 in
theorem wfB_21 : Ar stB.1 19 11 13 := ⟨by decide +kernel, by decide +kernel, by decide +kernel⟩
set_option maxRecDepth 100000 in
theorem wfB_22 : Ar stB.1 20 11 130 := ⟨by decide +kernel, by decide +kernel, by decide +kernel⟩
set_option maxRecDepth 100000 in
theorem wfB_23 : Ar stB.1 21 11 130 := ⟨by decide +kernel, by decide +kernel, by decide +kernel⟩
set_option maxRecDepth 100000 in
theorem wfB_24 : Ar stB.1 22 11 169 := ⟨by decide +kernel, by decide +kernel, by decide +kernel⟩
set_option maxRecDepth 100000 in
theorem wfB_25 : Ar stB.1 23 11 5 := ⟨by decide +kernel, by decide +kernel, by decide +kernel⟩
set_option maxRecDepth 100000 in
theorem wfB_26 : Ob stB.1 24 4 := ⟨by decide +kernel, by decide +kernel⟩
set_option maxRecDepth 100000 in
theorem wfB_27 : Ar stB.1 25 21 5 := ⟨by decide +kernel, by decide +kernel, by decide +kernel⟩
set_option maxRecDepth 100000 in
theorem wfB_28 : Ar stB.1 26 11 5 := ⟨by decide +kernel, by decide +kernel, by decide +kernel⟩
set_option maxRecDepth 100000 in
theorem wfB_29 : Ob stB.1 27 3 := ⟨by decide +kernel, by decide +kernel⟩
set_option maxRecDepth 100000 in
theorem wfB_30 : Ar stB.1 28 11 12 := ⟨by decide +kernel, by decide +kernel, by decide +kernel⟩
set_option maxRecDepth 100000 in
theorem wfB_31 : Ar stB.1 29 11 12 := ⟨by decide +kernel, by decide +kernel, by decide +kernel⟩
set_option maxRecDepth 100000 in
theorem wfB_32 : Ob stB.1 30 3 := ⟨by decide +kernel, by decide +kernel⟩
set_option maxRecDepth 100000 in
theorem wfB_33 : Ar stB.1 31 11 12 := ⟨by decide +kernel, by decide +kernel, by decide +kernel⟩
set_option maxRecDepth 100000 in
theorem wfB_34 : Ar stB.1 32 11 12 := ⟨by decide +kernel, by decide +kernel, by decide +kernel⟩
set_option maxRecDepth 100000 in
theorem wfB_35 : Ob stB.1 33 3 := ⟨by decide +kernel, by decide +kernel⟩
set_option maxRecDepth 100000 in
theorem wfB_36 : Ar stB.1 34 11 12 := ⟨by decide +kernel, by decide +kernel, by decide +kernel⟩
set_option maxRecDepth 100000 in
theorem wfB_37 : Ar stB.1 35 11 12 := ⟨by decide +kernel, by decide +kernel, by decide +kernel⟩
set_option maxRecDepth 100000 in
theorem wfB_38 : Ob stB.1 36 3 := ⟨by decide +kernel, by decide +kernel⟩
set_option maxRecDepth 100000 in
theorem wfB_39 : Ar stB.1 37 11 12 := ⟨by decide +kernel, by decide +kernel, by decide +kernel⟩
set_option maxRecDepth 100000 in
theorem wfB_40 : Ar stB.1 38 11 12 := ⟨by decide +kernel, by decide +kernel, by decide +kernel⟩
set_option maxRecDepth 100000 in
theorem wfB_41 : Ob stB.1 39 3 := ⟨by decide +kernel, by decide +kernel⟩
set_option maxRecDepth 100000 in
theorem wfB_42 : Ar stB.1 40 11 12 := ⟨by decide +kernel, by decide +kernel, by decide +kernel⟩
set_option maxRecDepth 100000 in
theorem wfB_43 : Ar stB.1 41 11 12 := ⟨by decide +kernel, by decide +kernel, by decide +kernel⟩
set_option maxRecDepth 100000 in
theorem wfB_44 : Ob stB.1 42 1 := ⟨by decide +kernel, by decide +kernel⟩
set_option maxRecDepth 100000 in
theorem wfB_45 : Ar stB.1 43 11 40 := ⟨by decide +kernel, by decide +kernel, by decide +kernel⟩
set_option maxRecDepth 100000 in
theorem wfB_46 : Ar stB.1 44 11 40 := ⟨by decide +kernel, by decide +kernel, by decide +kernel⟩
set_option maxRecDepth 100000 in
theorem wfB_47 : Ar stB.1 45 11 40 := ⟨by decide +kernel, by decide +kernel, by decide +kernel⟩
set_option maxRecDepth 100000 in
theorem wfB_48 : Ar stB.1 46 11 40 := ⟨by decide +kernel, by decide +kernel, by decide +kernel⟩
set_option maxRecDepth 100000 in
theorem wfB_49 : Ob stB.1 47 0 := ⟨by decide +kernel, by decide +kernel⟩
set_option maxRecDepth 100000 in
theorem wfB_50 : Ar stB.1 48 11 50 := ⟨by decide +kernel, by decide +kernel, by decide +kernel⟩
set_option maxRecDepth 100000 in
theorem wfB_51 : Ar stB.1 49 11 24 := ⟨by decide +kernel, by decide +kernel, by decide +kernel⟩
set_option maxRecDepth 100000 in
theorem wfB_52 : Ar stB.1 50 22 6 := ⟨by decide +kernel, by decide +kernel, by decide +kernel⟩
set_option maxRecDepth 100000 in
theorem wfB_53 : Ob stB.1 51 6 := ⟨by decide +kernel, by decide +kernel⟩
set_option maxRecDepth 100000 in
theorem wfB_54 : Ar stB.1 52 20 60 := ⟨by decide +kernel, by decide +kernel, by decide +kernel⟩
set_option maxRecDepth 100000 in
theorem wfB_55 : Ob stB.1 53 6 := ⟨by decide +kernel, by decide +kernel⟩
set_option maxRecDepth 100000 in
theorem wfB_56 : Ar stB.1 54 20 60 := ⟨by decide +kernel, by decide +kernel, by decide +kernel⟩
set_option maxRecDepth 100000 in
theorem wfB_57 : Ob stB.1 55 6 := ⟨by decide +kernel, by decide +kernel⟩
set_option maxRecDepth 100000 in
theorem wfB_58 : Ar stB.1 56 20 60 := ⟨by decide +kernel, by decide +kernel, by decide +kernel⟩
set_option maxRecDepth 100000 in
theorem wfB_59 : Ob stB.1 57 6 := ⟨by decide +kernel, by decide +kernel⟩
set_option maxRecDepth 100000 in
theorem wfB_60 : Ar stB.1 58 20 60 := ⟨by decide +kernel, by decide +kernel, by decide +kernel⟩
set_option maxRecDepth 100000 in
theorem wfB_61 : Ob stB.1 59 6 := ⟨by decide +kernel, by decide +kernel⟩
set_option maxRecDepth 100000 in
theorem wfB_62 : Ar stB.1 60 20 60 := ⟨by decide +kernel, by decide +kernel, by decide +kernel⟩
set_option maxRecDepth 100000 in
theorem wfB_63 : Ob stB.1 61 6 := ⟨by decide +kernel, by decide +kernel⟩
set_option maxRecDepth 100000 in
theorem wfB_64 : Ar stB.1 62 20 60 := ⟨by decide +kernel, by decide +kernel, by decide +kernel⟩
set_option maxRecDepth 100000 in
theorem wfB_65 : Ob stB.1 63 10 := ⟨by decide +kernel, by decide +kernel⟩
set_option maxRecDepth 100000 in
theorem wfB_66 : Ar stB.1 64 11 5 := ⟨by decide +kernel, by decide +kernel, by decide +kernel⟩
set_option maxRecDepth 100000 in
theorem wfB_67 : Ar stB.1 65 11 5 := ⟨by decide +kernel, by decide +kernel, by decide +kernel⟩
set_option maxRecDepth 100000 in
theorem wfB_68 : Ar stB.1 66 11 6 := ⟨by decide +kernel, by decide +kernel, by decide +kernel⟩
set_option maxRecDepth 100000 in
theorem wfB_69 : Ar stB.1 67 11 5 := ⟨by decide +kernel, by decide +kernel, by decide +kernel⟩
set_option maxRecDepth 100000 in
theorem wfB_70 : Ar stB.1 68 11 60 := ⟨by decide +kernel, by decide +kernel, by decide +kernel⟩
set_option maxRecDepth 100000 in
theorem wfB_71 : Ar stB.1 69 11 60 := ⟨by decide +kernel, by decide +kernel, by decide +kernel⟩
set_option maxRecDepth 100000 in
theorem wfB_72 : Ar stB.1 70 11 40 := ⟨by decide +kernel, by decide +kernel, by decide +kernel⟩
set_option maxRecDepth 100000 in
theorem wfB_73 : Ar stB.1 71 11 40 := ⟨by decide +kernel, by decide +kernel, by decide +kernel⟩
set_option maxRecDepth 100000 in
theorem wfB_74 : Ar stB.1 72 11 40 := ⟨by decide +kernel, by decide +kernel, by decide +kernel⟩
set_option maxRecDepth 100000 in
theorem wfB_75 : Ar stB.1 73 11 40 := ⟨by decide +kernel, by decide +kernel, by decide +kernel⟩
set_option maxRecDepth 100000 in
theorem wfB_76 : Ar stB.1 74 12 120 := ⟨by decide +kernel, by decide +kernel, by decide +kernel⟩
set_option maxRecDepth 100000 in
theorem wfB_77 : Ar stB.1 75 12 260 := ⟨by decide +kernel, by decide +kernel, by decide +kernel⟩
set_option maxRecDepth 100000 in
theorem wfB_78 : Ar stB.1 76 11 260 := ⟨by decide +kernel, by decide +kernel, by decide +kernel⟩
set_option maxRecDepth 100000 in
theorem wfB_79 : Ar stB.1 77 11 2 := ⟨by decide +kernel, by decide +kernel, by decide +kernel⟩
set_option maxRecDepth 100000 in
theorem wfB_80 : Ar stB.1 78 13 122 := ⟨by decide +kernel, by decide +kernel, by decide +kernel⟩
set_option maxRecDepth 100000 in
theorem wfB_81 : Ar stB.1 79 13 122 := ⟨by decide +kernel, by decide +kernel, by decide +kernel⟩
set_option maxRecDepth 100000 in
theorem wfB_82 : Ar stB.1 80 11 6 := ⟨by decide +kernel, by decide +kernel, by decide +kernel⟩
set_option maxRecDepth 100000 in
theorem wfB_83 : Ar stB.1 81 11 130 := ⟨by decide +kernel, by decide +kernel, by decide +kernel⟩
set_option maxRecDepth 100000 in
theorem wfB_84 : Ar stB.1 82 11 13 := ⟨by decide +kernel, by decide +kernel, by decide +kernel⟩
set_option maxRecDepth 100000 in
theorem wfB_85 : Ar stB.1 83 11 13 := ⟨by decide +kernel, by decide +kernel, by decide +kernel⟩
set_option maxRecDepth 100000 in
theorem wfB_86 : Ar stB.1 84 20 10000 := ⟨by decide +kernel, by decide +kernel, by decide +kernel⟩
set_option maxRecDepth 100000 in
theorem wfB_87 : Ar stB.1 85 11 600 := ⟨by decide +kernel, by decide +kernel, by decide +kernel⟩
set_option maxRecDepth 100000 in
theorem wfB_88 : Ar stB.1 86 11 169 := ⟨by decide +kernel, by decide +kernel, by decide +kernel⟩
set_option maxRecDepth 100000 in
theorem wfB_89 : Ar stB.1 87 11 5 := ⟨by decide +kernel, by decide +kernel, by decide +kernel⟩
set_option maxRecDepth 100000 in
theorem wfB_90 : Ar stB.1 88 11 5 := ⟨by decide +kernel, by decide +kernel, by decide +kernel⟩
set_option maxRecDepth 100000 in
theorem wfB_91 : Ar stB.1 89 11 60 := ⟨by decide +kernel, by decide +kernel, by decide +kernel⟩
set_option maxRecDepth 100000 in
theorem wfB_92 : Ar stB.1 90 11 60 := ⟨by decide +kernel, by decide +kernel, by decide +kernel⟩
set_option maxRecDepth 100000 in
theorem wfB_93 : Ar stB.1 91 11 5 := ⟨by decide +kernel, by decide +kernel, by decide +kernel⟩
set_option maxRecDepth 100000 in
theorem wfB_94 : Ar stB.1 92 11 50 := ⟨by decide +kernel, by decide +kernel, by decide +kernel⟩
set_option maxRecDepth 100000 in
theorem wfB_95 : Ar stB.1 93 11 24 := ⟨by decide +kernel, by decide +kernel, by decide +kernel⟩
set_option maxRecDepth 100000 in
theorem wfB_96 : Ar stB.1 94 11 6 := ⟨by decide +kernel, by decide +kernel, by decide +kernel⟩
set_option maxRecDepth 100000 in
theorem wfB_97 : Ar stB.1 95 11 6 := ⟨by decide +kernel, by decide +kernel, by decide +kernel⟩
set_option maxRecDepth 100000 in
theorem wfB_98 : Ar stB.1 96 20 360 := ⟨by decide +kernel, by decide +kernel, by decide +kernel⟩
set_option maxRecDepth 100000 in
theorem wfB_99 : Ar stB.1 97 20 60 := ⟨by decide +kernel, by decide +kernel, by decide +kernel⟩
set_option maxRecDepth 100000 in
theorem wfB_100 : stB.1.2.2.2 0 0 = 1 + 1 := by decide +kernel
set_option maxRecDepth 100000 in
theorem wfB_101 : stB.1.2.2.2 0 2 = 2 + 1 := by decide +kernel
set_option maxRecDepth 100000 in
theorem wfB_102 : stB.1.2.2.2 0 3 = 3 + 1 := by decide +kernel
set_option maxRecDepth 100000 in
theorem wfB_103 : stB.1.2.2.2 3 0 = 4 + 1 := by decide +kernel
set_option maxRecDepth 100000 in
theorem wfB_104 : stB.1.2.2.2 0 4 = 5 + 1 := by decide +kernel
set_option maxRecDepth 100000 in
theorem wfB_105 : stB.1.2.2.2 5 0 = 6 + 1 := by decide +kernel
set_option maxRecDepth 100000 in
theorem wfB_106 : stB.1.2.2.2 5 3 = 7 + 1 := by decide +kernel
set_option maxRecDepth 100000 in
theorem wfB_107 : stB.1.2.2.2 5 4 = 8 + 1 := by decide +kernel
set_option maxRecDepth 100000 in
theorem wfB_108 : stB.1.2.2.2 0 5 = 9 + 1 := by decide +kernel
set_option maxRecDepth 100000 in
theorem wfB_109 : stB.1.2.2.2 9 0 = 10 + 1 := by decide +kernel
set_option maxRecDepth 100000 in
theorem wfB_110 : stB.1.2.2.2 9 3 = 11 + 1 := by decide +kernel
set_option maxRecDepth 100000 in
theorem wfB_111 : stB.1.2.2.2 9 4 = 12 + 1 := by decide +kernel
set_option maxRecDepth 100000 in
theorem wfB_112 : stB.1.2.2.2 0 6 = 13 + 1 := by decide +kernel
set_option maxRecDepth 100000 in
theorem wfB_113 : stB.1.2.2.2 0 7 = 16 + 1 := by decide +kernel
set_option maxRecDepth 100000 in
theorem wfB_114 : stB.1.2.2.2 16 0 = 17 + 1 := by decide +kernel
set_option maxRecDepth 100000 in
theorem wfB_115 : stB.1.2.2.2 16 1 = 18 + 1 := by decide +kernel
set_option maxRecDepth 100000 in
theorem wfB_116 : stB.1.2.2.2 16 2 = 19 + 1 := by decide +kernel
set_option maxRecDepth 100000 in
theorem wfB_117 : stB.1.2.2.2 16 3 = 20 + 1 := by decide +kernel
set_option maxRecDepth 100000 in
theorem wfB_118 : stB.1.2.2.2 16 4 = 21 + 1 := by decide +kernel
set_option maxRecDepth 100000 in
theorem wfB_119 : stB.1.2.2.2 0 8 = 22 + 1 := by decide +kernel
set_option maxRecDepth 100000 in
theorem wfB_120 : stB.1.2.2.2 0 9 = 23 + 1 := by decide +kernel
set_option maxRecDepth 100000 in
theorem wfB_121 : stB.1.2.2.2 0 10 = 24 + 1 := by decide +kernel
set_option maxRecDepth 100000 in
theorem wfB_122 : stB.1.2.2.2 24 0 = 25 + 1 := by decide +kernel
set_option maxRecDepth 100000 in
theorem wfB_123 : stB.1.2.2.2 24 1 = 26 + 1 := by decide +kernel
set_option maxRecDepth 100000 in
theorem wfB_124 : stB.1.2.2.2 25 0 = 27 + 1 := by decide +kernel
set_option maxRecDepth 100000 in
theorem wfB_125 : stB.1.2.2.2 25 1 = 30 + 1 := by decide +kernel
set_option maxRecDepth 100000 in
theorem wfB_126 : stB.1.2.2.2 25 2 = 33 + 1 := by decide +kernel
set_option maxRecDepth 100000 in
theorem wfB_127 : stB.1.2.2.2 25 3 = 36 + 1 := by decide +kernel
set_option maxRecDepth 100000 in
theorem wfB_128 : stB.1.2.2.2 25 4 = 39 + 1 := by decide +kernel
set_option maxRecDepth 100000 in
theorem wfB_129 : stB.1.2.2.2 13 0 = 14 + 1 := by decide +kernel
set_option maxRecDepth 100000 in
theorem wfB_130 : stB.1.2.2.2 13 1 = 15 + 1 := by decide +kernel
set_option maxRecDepth 100000 in
theorem wfB_131 : stB.1.2.2.2 27 0 = 28 + 1 := by decide +kernel
set_option maxRecDepth 100000 in
theorem wfB_132 : stB.1.2.2.2 27 1 = 29 + 1 := by decide +kernel
set_option maxRecDepth 100000 in
theorem wfB_133 : stB.1.2.2.2 30 0 = 31 + 1 := by decide +kernel
set_option maxRecDepth 100000 in
theorem wfB_134 : stB.1.2.2.2 30 1 = 32 + 1 := by decide +kernel
set_option maxRecDepth 100000 in
theorem wfB_135 : stB.1.2.2.2 33 0 = 34 + 1 := by decide +kernel
set_option maxRecDepth 100000 in
theorem wfB_136 : stB.1.2.2.2 33 1 = 35 + 1 := by decide +kernel
set_option maxRecDepth 100000 in
theorem wfB_137 : stB.1.2.2.2 36 0 = 37 + 1 := by decide +kernel
set_option maxRecDepth 100000 in
theorem wfB_138 : stB.1.2.2.2 36 1 = 38 + 1 := by decide +kernel
set_option maxRecDepth 100000 in
theorem wfB_139 : stB.1.2.2.2 39 0 = 40 + 1 := by decide +kernel
set_option maxRecDepth 100000 in
theorem wfB_140 : stB.1.2.2.2 39 1 = 41 + 1 := by decide +kernel
set_option maxRecDepth 100000 in
theorem wfB_141 : stB.1.2.2.2 0 11 = 42 + 1 := by decide +kernel
set_option maxRecDepth 100000 in
theorem wfB_142 : stB.1.2.2.2 42 0 = 43 + 1 := by decide +kernel
set_option maxRecDepth 100000 in
theorem wfB_143 : stB.1.2.2.2 42 1 = 44 + 1 := by decide +kernel
set_option maxRecDepth 100000 in
theorem wfB_144 : stB.1.2.2.2 42 2 = 45 + 1 := by decide +kernel
set_option maxRecDepth 100000 in
theorem wfB_145 : stB.1.2.2.2 42 3 = 46 + 1 := by decide +kernel
set_option maxRecDepth 100000 in
theorem wfB_146 : stB.1.2.2.2 0 12 = 47 + 1 := by decide +kernel
set_option maxRecDepth 100000 in
theorem wfB_147 : stB.1.2.2.2 47 0 = 48 + 1 := by decide +kernel
set_option maxRecDepth 100000 in
theorem wfB_148 : stB.1.2.2.2 47 2 = 49 + 1 := by decide +kernel
set_option maxRecDepth 100000 in
theorem wfB_149 : stB.1.2.2.2 0 13 = 50 + 1 := by decide +kernel
set_option maxRecDepth 100000 in
theorem wfB_150 : stB.1.2.2.2 51 4 = 52 + 1 := by decide +kernel
set_option maxRecDepth 100000 in
theorem wfB_151 : stB.1.2.2.2 50 0 = 51 + 1 := by decide +kernel
set_option maxRecDepth 100000 in
theorem wfB_152 : stB.1.2.2.2 53 4 = 54 + 1 := by decide +kernel
set_option maxRecDepth 100000 in
theorem wfB_153 : stB.1.2.2.2 50 1 = 53 + 1 := by decide +kernel
set_option maxRecDepth 100000 in
theorem wfB_154 : stB.1.2.2.2 55 4 = 56 + 1 := by decide +kernel
set_option maxRecDepth 100000 in
theorem wfB_155 : stB.1.2.2.2 50 2 = 55 + 1 := by decide +kernel
set_option maxRecDepth 100000 in
theorem wfB_156 : stB.1.2.2.2 57 4 = 58 + 1 := by decide +kernel
set_option maxRecDepth 100000 in
theorem wfB_157 : stB.1.2.2.2 50 3 = 57 + 1 := by decide +kernel
set_option maxRecDepth 100000 in
theorem wfB_158 : stB.1.2.2.2 59 4 = 60 + 1 := by decide +kernel
set_option maxRecDepth 100000 in
theorem wfB_159 : stB.1.2.2.2 50 4 = 59 + 1 := by decide +kernel
set_option maxRecDepth 100000 in
theorem wfB_160 : stB.1.2.2.2 61 4 = 62 + 1 := by decide +kernel
set_option maxRecDepth 100000 in
theorem wfB_161 : stB.1.2.2.2 50 5 = 61 + 1 := by decide +kernel
set_option maxRecDepth 100000 in
theorem wfB_162 : stB.1.2.2.2 63 2 = 64 + 1 := by decide +kernel
set_option maxRecDepth 100000 in
theorem wfB_163 : stB.1.2.2.2 63 3 = 65 + 1 := by decide +kernel
set_option maxRecDepth 100000 in
theorem wfB_164 : stB.1.2.2.2 63 4 = 66 + 1 := by decide +kernel
set_option maxRecDepth 100000 in
theorem wfB_165 : stB.1.2.2.2 63 6 = 67 + 1 := by decide +kernel
set_option maxRecDepth 100000 in
theorem wfB_166 : stB.1.2.2.2 63 7 = 68 + 1 := by decide +kernel
set_option maxRecDepth 100000 in
theorem wfB_167 : stB.1.2.2.2 63 8 = 69 + 1 := by decide +kernel
set_option maxRecDepth 100000 in
theorem wfB_168 : stB.1.2.2.2 63 11 = 70 + 1 := by decide +kernel
set_option maxRecDepth 100000 in
theorem wfB_169 : stB.1.2.2.2 63 12 = 71 + 1 := by decide +kernel
set_option maxRecDepth 100000 in
theorem wfB_170 : stB.1.2.2.2 63 13 = 72 + 1 := by decide +kernel
set_option maxRecDepth 100000 in
theorem wfB_171 : stB.1.2.2.2 63 14 = 73 + 1 := by decide +kernel
set_option maxRecDepth 100000 in
theorem wfB_172 : stB.1.2.2.2 63 15 = 74 + 1 := by decide +kernel
set_option maxRecDepth 100000 in
theorem wfB_173 : stB.1.2.2.2 63 21 = 75 + 1 := by decide +kernel
set_option maxRecDepth 100000 in
theorem wfB_174 : stB.1.2.2.2 63 22 = 76 + 1 := by decide +kernel
set_option maxRecDepth 100000 in
theorem wfB_175 : stB.1.2.2.2 63 23 = 77 + 1 := by decide +kernel
set_option maxRecDepth 100000 in
theorem wfB_176 : stB.1.2.2.2 63 24 = 78 + 1 := by decide +kernel
set_option maxRecDepth 100000 in
theorem wfB_177 : stB.1.2.2.2 63 25 = 79 + 1 := by decide +kernel
set_option maxRecDepth 100000 in
theorem wfB_178 : stB.1.2.2.2 63 26 = 80 + 1 := by decide +kernel
set_option maxRecDepth 100000 in
theorem wfB_179 : stB.1.2.2.2 63 27 = 81 + 1 := by decide +kernel
set_option maxRecDepth 100000 in
theorem wfB_180 : stB.1.2.2.2 63 31 = 82 + 1 := by decide +kernel
set_option maxRecDepth 100000 in
theorem wfB_181 : stB.1.2.2.2 63 32 = 83 + 1 := by decide +kernel
set_option maxRecDepth 100000 in
theorem wfB_182 : stB.1.2.2.2 63 34 = 84 + 1 := by decide +kernel
set_option maxRecDepth 100000 in
theorem wfB_183 : stB.1.2.2.2 63 35 = 85 + 1 := by decide +kernel
set_option maxRecDepth 100000 in
theorem wfB_184 : stB.1.2.2.2 63 37 = 86 + 1 := by decide +kernel
set_option maxRecDepth 100000 in
theorem wfB_185 : stB.1.2.2.2 63 38 = 87 + 1 := by decide +kernel
set_option maxRecDepth 100000 in
theorem wfB_186 : stB.1.2.2.2 63 41 = 88 + 1 := by decide +kernel
set_option maxRecDepth 100000 in
theorem wfB_187 : stB.1.2.2.2 63 42 = 89 + 1 := by decide +kernel
set_option maxRecDepth 100000 in
theorem wfB_188 : stB.1.2.2.2 63 43 = 90 + 1 := by decide +kernel
set_option maxRecDepth 100000 in
theorem wfB_189 : stB.1.2.2.2 63 44 = 91 + 1 := by decide +kernel
set_option maxRecDepth 100000 in
theorem wfB_190 : stB.1.2.2.2 63 46 = 92 + 1 := by decide +kernel
set_option maxRecDepth 100000 in
theorem wfB_191 : stB.1.2.2.2 63 48 = 93 + 1 := by decide +kernel
set_option maxRecDepth 100000 in
theorem wfB_192 : stB.1.2.2.2 63 49 = 94 + 1 := by decide +kernel
set_option maxRecDepth 100000 in
theorem wfB_193 : stB.1.2.2.2 63 50 = 95 + 1 := by decide +kernel
set_option maxRecDepth 100000 in
theorem wfB_194 : stB.1.2.2.2 63 51 = 96 + 1 := by decide +kernel
set_option maxRecDepth 100000 in
theorem wfB_195 : stB.1.2.2.2 63 52 = 97 + 1 := by decide +kernel
set_option maxRecDepth 100000 in
theorem wfB_196 : ∀ i, i < 0 → stB.1.2.2.2 1 i = (98 + 5 * i) + 1 := fun i h => absurd h (Nat.not_lt_zero i)
set_option maxRecDepth 100000 in
theorem wfB_197 : ∀ i, i < 0 → isSill stB.1 (98 + 5 * i) := fun i h => absurd h (Nat.not_lt_zero i)
set_option maxRecDepth 100000 in
theorem wfB_198 : ∀ i, i < 6 → stB.1.2.2.2 50 i = (51 + 2 * i) + 1 ∧ isShelf stB.1 (51 + 2 * i) := by
  intro i h
  match i, h with
  | 0, _ => exact ⟨by decide +kernel, ⟨⟨by decide +kernel, by decide +kernel⟩, by decide +kernel, by decide +kernel, by decide +kernel, by decide +kernel⟩⟩
  | 1, _ => exact ⟨by decide +kernel, ⟨⟨by decide +kernel, by decide +kernel⟩, by decide +kernel, by decide +kernel, by decide +kernel, by decide +kernel⟩⟩
  | 2, _ => exact ⟨by decide +kernel, ⟨⟨by decide +kernel, by decide +kernel⟩, by decide +kernel, by decide +kernel, by decide +kernel, by decide +kernel⟩⟩
  | 3, _ => exact ⟨by decide +kernel, ⟨⟨by decide +kernel, by decide +kernel⟩, by decide +kernel, by decide +kernel, by decide +kernel, by decide +kernel⟩⟩
  | 4, _ => exact ⟨by decide +kernel, ⟨⟨by decide +kernel, by decide +kernel⟩, by decide +kernel, by decide +kernel, by decide +kernel, by decide +kernel⟩⟩
  | 5, _ => exact ⟨by decide +kernel, ⟨⟨by decide +kernel, by decide +kernel⟩, by decide +kernel, by decide +kernel, by decide +kernel, by decide +kernel⟩⟩
set_option maxRecDepth 100000 in
theorem wfB_199 : ∀ i, i < 5 → stB.1.2.2.2 25 i = (27 + 3 * i) + 1 ∧ isDust stB.1 (27 + 3 * i) := by
  intro i h
  match i, h with
  | 0, _ => exact ⟨by decide +kernel, ⟨⟨by decide +kernel, by decide +kernel⟩, by decide +kernel, by decide +kernel, ⟨by decide +kernel, by decide +kernel, by decide +kernel⟩, by decide +kernel, by decide +kernel, by decide +kernel⟩⟩
  | 1, _ => exact ⟨by decide +kernel, ⟨⟨by decide +kernel, by decide +kernel⟩, by decide +kernel, by decide +kernel, ⟨by decide +kernel, by decide +kernel, by decide +kernel⟩, by decide +kernel, by decide +kernel, by decide +kernel⟩⟩
  | 2, _ => exact ⟨by decide +kernel, ⟨⟨by decide +kernel, by decide +kernel⟩, by decide +kernel, by decide +kernel, ⟨by decide +kernel, by decide +kernel, by decide +kernel⟩, by decide +kernel, by decide +kernel, by decide +kernel⟩⟩
  | 3, _ => exact ⟨by decide +kernel, ⟨⟨by decide +kernel, by decide +kernel⟩, by decide +kernel, by decide +kernel, ⟨by decide +kernel, by decide +kernel, by decide +kernel⟩, by decide +kernel, by decide +kernel, by decide +kernel⟩⟩
  | 4, _ => exact ⟨by decide +kernel, ⟨⟨by decide +kernel, by decide +kernel⟩, by decide +kernel, by decide +kernel, ⟨by decide +kernel, by decide +kernel, by decide +kernel⟩, by decide +kernel, by decide +kernel, by decide +kernel⟩⟩
theorem wfB : WF stB.1 0 := ⟨⟨wfB_0, wfB_1, wfB_2, wfB_3, wfB_4, wfB_5, wfB_6, wfB_7, wfB_8, wfB_9, wfB_10, wfB_11, wfB_12, wfB_13, wfB_14, wfB_15, wfB_16, wfB_17, wfB_18, wfB_19⟩, ⟨wfB_20, wfB_21, wfB_22, wfB_23, wfB_24, wfB_25, wfB_26, wfB_27, wfB_28, wfB_29, wfB_30, wfB_31, wfB_32, wfB_33, wfB_34, wfB_35, wfB_36, wfB_37, wfB_38, wfB_39⟩, ⟨wfB_40, wfB_41, wfB_42, wfB_43, wfB_44, wfB_45, wfB_46, wfB_47, wfB_48, wfB_49, wfB_50, wfB_51, wfB_52, wfB_53, wfB_54, wfB_55, wfB_56, wfB_57, wfB_58, wfB_59⟩, ⟨wfB_60, wfB_61, wfB_62, wfB_63, wfB_64, wfB_65, wfB_66, wfB_67, wfB_68, wfB_69, wfB_70, wfB_71, wfB_72, wfB_73, wfB_74, wfB_75, wfB_76, wfB_77, wfB_78, wfB_79⟩, ⟨wfB_80, wfB_81, wfB_82, wfB_83, wfB_84, wfB_85, wfB_86, wfB_87, wfB_88, wfB_89, wfB_90, wfB_91, wfB_92, wfB_93, wfB_94, wfB_95, wfB_96, wfB_97, wfB_98, wfB_99⟩, ⟨wfB_100, wfB_101, wfB_102, wfB_103, wfB_104, wfB_105, wfB_106, wfB_107, wfB_108, wfB_109, wfB_110, wfB_111, wfB_112, wfB_113, wfB_114, wfB_115, wfB_116, wfB_117, wfB_118, wfB_119⟩, ⟨wfB_120, wfB_121, wfB_122, wfB_123, wfB_124, wfB_125, wfB_126, wfB_127, wfB_128, wfB_129, wfB_130, wfB_131, wfB_132, wfB_133, wfB_134, wfB_135, wfB_136, wfB_137, wfB_138, wfB_139⟩, ⟨wfB_140, wfB_141, wfB_142, wfB_143, wfB_144, wfB_145, wfB_146, wfB_147, wfB_148, wfB_149, wfB_150, wfB_151, wfB_152, wfB_153, wfB_154, wfB_155, wfB_156, wfB_157, wfB_158, wfB_159⟩, ⟨wfB_160, wfB_161, wfB_162, wfB_163, wfB_164, wfB_165, wfB_166, wfB_167, wfB_168, wfB_169, wfB_170, wfB_171, wfB_172, wfB_173, wfB_174, wfB_175, wfB_176, wfB_177, wfB_178, wfB_179⟩, ⟨wfB_180, wfB_181, wfB_182, wfB_183, wfB_184, wfB_185, wfB_186, wfB_187, wfB_188, wfB_189, wfB_190, wfB_191, wfB_192, wfB_193, wfB_194, wfB_195, wfB_196, wfB_197, wfB_198, wfB_199⟩⟩
theorem wins_any : ∀ k : Nat, ∀ q : vw_C, jcl[k]? = some q → ∃ n : Nat, Cond.instantiable q.1 n ∈ gtb ∧ ∀ w ∈ u_ws q.1 q.2.1 q.2.2, w ∈ gtb := by
  intro k q hq
  match k, hq with
  | 0, hq => cases hq; exact ⟨_, wins_RX0, cls0.2.2.1⟩
  | 1, hq => cases hq; exact ⟨_, wins_RX1, cls1.2.2.1⟩
  | 2, hq => cases hq; exact ⟨_, wins_RX2, cls2.2.2.1⟩
  | 3, hq => cases hq; exact ⟨_, wins_RX3, cls3.2.2.1⟩
  | 4, hq => cases hq; exact ⟨_, wins_RX4, cls4.2.2.1⟩
  | 5, hq => cases hq; exact ⟨_, wins_RX5, cls5.2.2.1⟩
  | 6, hq => cases hq; exact ⟨_, wins_RX6, cls6.2.2.1⟩
  | 7, hq => cases hq; exact ⟨_, wins_RX7, cls7.2.2.1⟩
  | 8, hq => cases hq; exact ⟨_, wins_RX8, cls8.2.2.1⟩
  | 9, hq => cases hq; exact ⟨_, wins_RX9, cls9.2.2.1⟩
  | 10, hq => cases hq; exact ⟨_, wins_RX10, cls10.2.2.1⟩
  | k + 11, hq => simp [jcl] at hq
theorem nest_in : ∀ q ∈ j_nests, Cond.methodLinkNest q.1 q.2.1 q.2.2.1 q.2.2.2 ∈ lw_tbl := by decide +kernel
/-- the two objects can be made, and what they are then holds INV -/
def Made (INV : Nat → VI → VL → Prop) : Prop := ∃ (svA : SV) (viA : VI) (vlA : VL), fX9_init 0 (j_svn sv00 9 14) (j_z0 vi00 0 0) (j_z0 vl00 0 0) = some (svA, viA, vlA) ∧ svA.1 = 63 ∧
  ∃ (svB : SV) (viB : VI) (vlB : VL), fX10_init 63 (j_svn svA 10 53) (j_z0 viA 63 0) (j_z0 vlA 63 0) = some (svB, viB, vlB) ∧ WF svB 0 ∧ INV 0 viB vlB
theorem made_of {INV : Nat → VI → VL → Prop} (h0 : INV 0 stB.2.1 stB.2.2) : Made INV := by
  refine ⟨stA.1, stA.2.1, stA.2.2, mkA_eq, stA_n, stB.1, stB.2.1, stB.2.2, ?_, wfB, h0⟩
  have q := mkB_eq
  rw [mkB, stA_n] at q
  exact q
set_option maxHeartbeats 4000000 in
theorem start_of {INV : Nat → VI → VL → Prop} (hok : OKall INV) (hmade : Made INV) {p : Program} {e : Env} {s : State} {m : MethodId} {below : List Frame} {meth : Method} {c : Code} (l : Launch) {b L : Nat} {xs : Nat → Int32} (hL : L ≤ 3072) (C0 : lw_At p s m meth c b L xs) (hnm : meth.name = "law") : W p l e room_1 s m #[Value.ref b] below meth c s.heap [] 0 0 (lw_Z below #[Value.ref b] s) (entryFrame m ([Value.ref b] : List Value).toArray 4) := by
  obtain ⟨hx, hb, hr, hml, hown, hts, hX, hbl, hlocks, hgv⟩ := C0
  have hg : ∀ w ∈ gtb, w.before #[Value.ref b] s = true := fun w hw => hts w (List.mem_filter.mp hw).1
  have hs := flat_of_before _ hgv
  -- the classes
  have hcl : ∀ k : Nat, ∃ cI : ClassId × (Nat → Nat), ∀ q : vw_C, jcl[k]? = some q → u_Kn s q.1 q.2.1 q.2.2 cI.1 cI.2 := by
    intro k
    cases hk : jcl[k]? with
    | none => exact ⟨(0, fun _ => 0), fun q h => by cases h⟩
    | some q =>
      obtain ⟨n, h1, h2⟩ := wins_any k q hk
      obtain ⟨cC, iS, hKn⟩ := u_known (C := q.1) (T := q.2.1) (N := q.2.2) (n := n) hg h2 (hg _ h1)
      exact ⟨(cC, iS), fun q' h => by cases h; exact hKn⟩
  obtain ⟨D, hD⟩ := Classical.axiomOfChoice hcl
  -- the arrays
  obtain ⟨c11, k11, m11, f11, g11, i11⟩ := Cond.arrayClass_spec (hg _ wac_11)
  obtain ⟨c12, k12, m12, f12, g12, i12⟩ := Cond.arrayClass_spec (hg _ wac_12)
  obtain ⟨c13, k13, m13, f13, g13, i13⟩ := Cond.arrayClass_spec (hg _ wac_13)
  obtain ⟨c20, k20, m20, f20, g20, i20⟩ := Cond.arrayClass_spec (hg _ wac_20)
  have o21 : (Cond.arrayOver (.object RX3)).before #[Value.ref b] s = true := hts _ (List.mem_of_getElem? (i := 242) (by decide +kernel))
  have o22 : (Cond.arrayOver (.object RX6)).before #[Value.ref b] s = true := hts _ (List.mem_of_getElem? (i := 311) (by decide +kernel))
  have o23 : (Cond.arrayOver (.object RX7)).before #[Value.ref b] s = true := hts _ (List.mem_of_getElem? (i := 132) (by decide +kernel))
  obtain ⟨m21, c21, k21, a21, -, g21, i21, f21⟩ := Cond.arrayOver_spec o21
  obtain ⟨m22, c22, k22, a22, -, g22, i22, f22⟩ := Cond.arrayOver_spec o22
  obtain ⟨m23, c23, k23, a23, -, g23, i23, f23⟩ := Cond.arrayOver_spec o23
  -- the tables
  obtain ⟨tOWN, eOWN, TOWN⟩ := va_Tof (args := #[Value.ref b]) (s := s) (tm := (.static "DustInOrder$Bodies" "OWN" "[I")) (ty := .int) (N := 32) (f := fun j => .int (j_own j)) (A := fun q => s.heap.size ≤ q) (by decide) (hs _ (by decide +kernel)) (va_eqt (hs (Cond.eq (.length (.static "DustInOrder$Bodies" "OWN" "[I")) (.int 32)) (by decide +kernel))) (by
    intro j hj
    match j, hj with
    | 0, _ => exact va_eqt (hs (Cond.eq (.elem (.static "DustInOrder$Bodies" "OWN" "[I") (.int 0)) (.int 1)) (by decide +kernel))
    | 1, _ => exact va_eqt (hs (Cond.eq (.elem (.static "DustInOrder$Bodies" "OWN" "[I") (.int 1)) (.int 10)) (by decide +kernel))
    | 2, _ => exact va_eqt (hs (Cond.eq (.elem (.static "DustInOrder$Bodies" "OWN" "[I") (.int 2)) (.int 11)) (by decide +kernel))
    | 3, _ => exact va_eqt (hs (Cond.eq (.elem (.static "DustInOrder$Bodies" "OWN" "[I") (.int 3)) (.int 2)) (by decide +kernel))
    | 4, _ => exact va_eqt (hs (Cond.eq (.elem (.static "DustInOrder$Bodies" "OWN" "[I") (.int 4)) (.int 20)) (by decide +kernel))
    | 5, _ => exact va_eqt (hs (Cond.eq (.elem (.static "DustInOrder$Bodies" "OWN" "[I") (.int 5)) (.int 0)) (by decide +kernel))
    | 6, _ => exact va_eqt (hs (Cond.eq (.elem (.static "DustInOrder$Bodies" "OWN" "[I") (.int 6)) (.int 0)) (by decide +kernel))
    | 7, _ => exact va_eqt (hs (Cond.eq (.elem (.static "DustInOrder$Bodies" "OWN" "[I") (.int 7)) (.int 0)) (by decide +kernel))
    | 8, _ => exact va_eqt (hs (Cond.eq (.elem (.static "DustInOrder$Bodies" "OWN" "[I") (.int 8)) (.int 0)) (by decide +kernel))
    | 9, _ => exact va_eqt (hs (Cond.eq (.elem (.static "DustInOrder$Bodies" "OWN" "[I") (.int 9)) (.int 30)) (by decide +kernel))
    | 10, _ => exact va_eqt (hs (Cond.eq (.elem (.static "DustInOrder$Bodies" "OWN" "[I") (.int 10)) (.int 0)) (by decide +kernel))
    | 11, _ => exact va_eqt (hs (Cond.eq (.elem (.static "DustInOrder$Bodies" "OWN" "[I") (.int 11)) (.int 0)) (by decide +kernel))
    | 12, _ => exact va_eqt (hs (Cond.eq (.elem (.static "DustInOrder$Bodies" "OWN" "[I") (.int 12)) (.int 0)) (by decide +kernel))
    | 13, _ => exact va_eqt (hs (Cond.eq (.elem (.static "DustInOrder$Bodies" "OWN" "[I") (.int 13)) (.int 41)) (by decide +kernel))
    | 14, _ => exact va_eqt (hs (Cond.eq (.elem (.static "DustInOrder$Bodies" "OWN" "[I") (.int 14)) (.int 40)) (by decide +kernel))
    | 15, _ => exact va_eqt (hs (Cond.eq (.elem (.static "DustInOrder$Bodies" "OWN" "[I") (.int 15)) (.int 0)) (by decide +kernel))
    | 16, _ => exact va_eqt (hs (Cond.eq (.elem (.static "DustInOrder$Bodies" "OWN" "[I") (.int 16)) (.int 0)) (by decide +kernel))
    | 17, _ => exact va_eqt (hs (Cond.eq (.elem (.static "DustInOrder$Bodies" "OWN" "[I") (.int 17)) (.int 0)) (by decide +kernel))
    | 18, _ => exact va_eqt (hs (Cond.eq (.elem (.static "DustInOrder$Bodies" "OWN" "[I") (.int 18)) (.int 0)) (by decide +kernel))
    | 19, _ => exact va_eqt (hs (Cond.eq (.elem (.static "DustInOrder$Bodies" "OWN" "[I") (.int 19)) (.int 50)) (by decide +kernel))
    | 20, _ => exact va_eqt (hs (Cond.eq (.elem (.static "DustInOrder$Bodies" "OWN" "[I") (.int 20)) (.int 0)) (by decide +kernel))
    | 21, _ => exact va_eqt (hs (Cond.eq (.elem (.static "DustInOrder$Bodies" "OWN" "[I") (.int 21)) (.int 0)) (by decide +kernel))
    | 22, _ => exact va_eqt (hs (Cond.eq (.elem (.static "DustInOrder$Bodies" "OWN" "[I") (.int 22)) (.int 60)) (by decide +kernel))
    | 23, _ => exact va_eqt (hs (Cond.eq (.elem (.static "DustInOrder$Bodies" "OWN" "[I") (.int 23)) (.int 61)) (by decide +kernel))
    | 24, _ => exact va_eqt (hs (Cond.eq (.elem (.static "DustInOrder$Bodies" "OWN" "[I") (.int 24)) (.int 70)) (by decide +kernel))
    | 25, _ => exact va_eqt (hs (Cond.eq (.elem (.static "DustInOrder$Bodies" "OWN" "[I") (.int 25)) (.int 0)) (by decide +kernel))
    | 26, _ => exact va_eqt (hs (Cond.eq (.elem (.static "DustInOrder$Bodies" "OWN" "[I") (.int 26)) (.int 0)) (by decide +kernel))
    | 27, _ => exact va_eqt (hs (Cond.eq (.elem (.static "DustInOrder$Bodies" "OWN" "[I") (.int 27)) (.int 0)) (by decide +kernel))
    | 28, _ => exact va_eqt (hs (Cond.eq (.elem (.static "DustInOrder$Bodies" "OWN" "[I") (.int 28)) (.int 81)) (by decide +kernel))
    | 29, _ => exact va_eqt (hs (Cond.eq (.elem (.static "DustInOrder$Bodies" "OWN" "[I") (.int 29)) (.int 80)) (by decide +kernel))
    | 30, _ => exact va_eqt (hs (Cond.eq (.elem (.static "DustInOrder$Bodies" "OWN" "[I") (.int 30)) (.int 0)) (by decide +kernel))
    | 31, _ => exact va_eqt (hs (Cond.eq (.elem (.static "DustInOrder$Bodies" "OWN" "[I") (.int 31)) (.int 0)) (by decide +kernel))
    | j + 32, hj => exact absurd hj (by omega)) (fun a h => Nat.not_le.mpr h)
  obtain ⟨tABOVE, eABOVE, TABOVE⟩ := va_Tof (args := #[Value.ref b]) (s := s) (tm := (.static "DustInOrder$Bodies" "ABOVE" "[I")) (ty := .int) (N := 8) (f := fun j => .int (j_abv j)) (A := fun q => s.heap.size ≤ q) (by decide) (hs _ (by decide +kernel)) (va_eqt (hs (Cond.eq (.length (.static "DustInOrder$Bodies" "ABOVE" "[I")) (.int 8)) (by decide +kernel))) (by
    intro j hj
    match j, hj with
    | 0, _ => exact va_eqt (hs (Cond.eq (.elem (.static "DustInOrder$Bodies" "ABOVE" "[I") (.int 0)) (.int (-1))) (by decide +kernel))
    | 1, _ => exact va_eqt (hs (Cond.eq (.elem (.static "DustInOrder$Bodies" "ABOVE" "[I") (.int 1)) (.int 0)) (by decide +kernel))
    | 2, _ => exact va_eqt (hs (Cond.eq (.elem (.static "DustInOrder$Bodies" "ABOVE" "[I") (.int 2)) (.int 0)) (by decide +kernel))
    | 3, _ => exact va_eqt (hs (Cond.eq (.elem (.static "DustInOrder$Bodies" "ABOVE" "[I") (.int 3)) (.int 2)) (by decide +kernel))
    | 4, _ => exact va_eqt (hs (Cond.eq (.elem (.static "DustInOrder$Bodies" "ABOVE" "[I") (.int 4)) (.int 1)) (by decide +kernel))
    | 5, _ => exact va_eqt (hs (Cond.eq (.elem (.static "DustInOrder$Bodies" "ABOVE" "[I") (.int 5)) (.int 3)) (by decide +kernel))
    | 6, _ => exact va_eqt (hs (Cond.eq (.elem (.static "DustInOrder$Bodies" "ABOVE" "[I") (.int 6)) (.int 0)) (by decide +kernel))
    | 7, _ => exact va_eqt (hs (Cond.eq (.elem (.static "DustInOrder$Bodies" "ABOVE" "[I") (.int 7)) (.int 6)) (by decide +kernel))
    | j + 8, hj => exact absurd hj (by omega)) (fun a h => Nat.not_le.mpr h)
  have ini0 : (Cond.initialized RX0).before #[Value.ref b] s = true := hg _ wini_RX0
  have ZO : va_Z RX0 "OWN" "[I" (.ref tOWN) (fun q => s.heap.size ≤ q) s s.heap := va_Zof (hts _ (List.mem_of_getElem? (i := 889) (by decide +kernel))) ini0 eOWN (fun a h => Nat.not_le.mpr h)
  have ZA : va_Z RX0 "ABOVE" "[I" (.ref tABOVE) (fun q => s.heap.size ≤ q) s s.heap := va_Zof (hts _ (List.mem_of_getElem? (i := 891) (by decide +kernel))) ini0 eABOVE (fun a h => Nat.not_le.mpr h)
  have hKt : ∀ (aC : Nat → ClassId), aC 11 = c11 → aC 12 = c12 → aC 13 = c13 → aC 20 = c20 → aC 21 = c21 → aC 22 = c22 → aC 23 = c23 → va_K (fun k => (D k).1, fun k => (D k).2) jcl (j_tys aC) s := by
    intro aC e11 e12 e13 e20 e21 e22 e23
    subst e11; subst e12; subst e13; subst e20; subst e21; subst e22; subst e23
    refine ⟨fun k q hq => hD k q hq, fun k q hq => ?_⟩
    match k, hq with
    | 0, hq => cases hq; exact ⟨fun n z => ⟨fun k h => (by cases h), k11, g11, m11, i11⟩, f11⟩
    | 1, hq => cases hq; exact ⟨fun n z => ⟨fun k h => (by cases h), k12, g12, m12, i12⟩, f12⟩
    | 2, hq => cases hq; exact ⟨fun n z => ⟨fun k h => (by cases h), k13, g13, m13, i13⟩, f13⟩
    | 3, hq => cases hq; exact ⟨fun n z => ⟨fun k h => (by cases h), k20, g20, m20, i20⟩, f20⟩
    | 4, hq => cases hq; exact ⟨fun n z => ⟨fun k h => (by cases h), k21, g21, m21, i21⟩, k21, m21, g21, i21, a21, f21⟩
    | 5, hq => cases hq; exact ⟨fun n z => ⟨fun k h => (by cases h), k22, g22, m22, i22⟩, k22, m22, g22, i22, a22, f22⟩
    | 6, hq => cases hq; exact ⟨fun n z => ⟨fun k h => (by cases h), k23, g23, m23, i23⟩, k23, m23, g23, i23, a23, f23⟩
    | k + 7, hq => simp [j_tys] at hq
  obtain ⟨aC, e11, e12, e13, e20, e21, e22, e23⟩ : ∃ aC : Nat → ClassId, aC 11 = c11 ∧ aC 12 = c12 ∧ aC 13 = c13 ∧ aC 20 = c20 ∧ aC 21 = c21 ∧ aC 22 = c22 ∧ aC 23 = c23 :=
    ⟨fun k => if k = 11 then c11 else if k = 12 then c12 else if k = 13 then c13 else if k = 20 then c20 else if k = 21 then c21 else if k = 22 then c22 else c23, rfl, rfl, rfl, rfl, rfl, rfl, rfl⟩
  have hK := hKt aC e11 e12 e13 e20 e21 e22 e23
  obtain ⟨G, hG⟩ : ∃ G : GT, G = (s.heap.size, (fun k => (D k).1, fun k => (D k).2), aC, tOWN, tABOVE, l) := ⟨_, rfl⟩
  have hst : j_stat G s s.heap := by
    subst hG
    exact ⟨ZO, ZA, TOWN, TABOVE, fun q hq => va_Nw.of rfl (hts _ (nest_in q hq)), va_AO.of o21, va_AO.of o22, va_AO.of o23⟩
  have hK' : va_K G.2.1 jcl (j_tys G.2.2.1) s := by subst hG; exact hK
  have hz : s.heap.size = G.1 := by subst hG; rfl
  have hl : G.2.2.2.2.2 = l := by subst hG; rfl
  obtain ⟨Γ, hΓ⟩ : ∃ Γ : CT, Γ = (p, e, room_1, s, m, #[Value.ref b], below, meth, c, lw_Z below #[Value.ref b] s) := ⟨_, rfl⟩
  have B : Base G Γ mL 1300 600000 7302250 := by
    subst hΓ
    exact ⟨hx, hb, by rw [hr]; rfl, hml, hown, hg, hlocks, hnm, ⟨by decide, by decide, Nat.le_refl _, Nat.le_refl _⟩, hK', hst⟩
  have A : LawAt G Γ b L xs := by
    subst hΓ
    exact ⟨hX, hbl, hz, rfl, rfl, rfl, hr⟩
  obtain ⟨svA, viA, vlA, eA, nA, svB, viB, vlB, eB, hWB, hIB⟩ := hmade
  have J0 : J G Γ 0 0 0 [(0, .ref b)] [] sv00 vi00 vl00 := by
    refine j_new B cls9 hdef9 wcl_RL_7 wins_RX9 wini_RX9 (by omega) (by omega) dL_law_0 ?_
    refine j_dup B dL_law_3 rfl ?_
    refine j_cI (rest := [.ref (G.1 + 0)]) B (tX9_init (o := 0) eA) ⟨rfl, rfl⟩ jt_RL_9 wi_X9_init rfl (by decide) (by omega) (by omega) rfl (Nat.le_of_ble_eq_true rfl) dL_law_4 ?_
    refine j_astore_n (L' := [(1, .ref (G.1 + 0)), (0, .ref b)]) B dL_law_7 rfl (by decide) rfl ?_
    refine j_new B cls10 hdef10 wcl_RL_10 wins_RX10 wini_RX10 (by omega) (by omega) dL_law_8 ?_
    rw [nA]
    refine j_dup B dL_law_11 rfl ?_
    refine j_cI (rest := [.ref (G.1 + 63)]) B (tX10_init (o := 63) eB) ⟨rfl, rfl⟩ jt_RL_12 wi_X10_init rfl (by decide) (by omega) (by omega) rfl (Nat.le_of_ble_eq_true rfl) dL_law_12 ?_
    refine j_astore_n (L' := [(2, .ref (G.1 + 63)), (1, .ref (G.1 + 0)), (0, .ref b)]) B dL_law_15 rfl (by decide) rfl ?_
    refine j_iconst B dL_law_16 (v := nI (6 * 0)) (by decide) ?_
    refine j_istore_n (L' := [(3, .int (nI (6 * 0))), (2, .ref (G.1 + 63)), (1, .ref (G.1 + 0)), (0, .ref b)]) B dL_law_17 rfl (by decide) rfl ?_
    refine j_locals [3, 2, 1, 0] rfl ?_
    exact law_loop hL B A hok 513 0 (by omega) _ _ 0 svB viB vlB hWB hIB (by omega) (by omega)
  subst hΓ
  rw [lg_entry_eq, ← hl]
  refine J0 s.heap [] _ hz (fun k q h => by simp [j_wl, sv00] at h) va_S.rf ?_
  show lv_has _ c.maxLocals _
  rw [hml]
  exact lv_entry ([.ref b]) (n := 4) (Nat.le_of_ble_eq_true rfl)
