theorem dX9_init_0 : decode cX9_init 0 = .ok (.aload_n 0, 1) := by decide +kernel
theorem dX9_init_1 : decode cX9_init 1 = .ok (.invokespecial 3, 3) := by decide +kernel
theorem dX9_init_4 : decode cX9_init 4 = .ok (.aload_n 0, 1) := by decide +kernel
theorem dX9_init_5 : decode cX9_init 5 = .ok (.iconst 5, 1) := by decide +kernel
theorem dX9_init_6 : decode cX9_init 6 = .ok (.anewarray 9, 3) := by decide +kernel
theorem dX9_init_9 : decode cX9_init 9 = .ok (.putfield 11, 3) := by decide +kernel
theorem dX9_init_12 : decode cX9_init 12 = .ok (.aload_n 0, 1) := by decide +kernel
theorem dX9_init_13 : decode cX9_init 13 = .ok (.bipush 6, 2) := by decide +kernel
theorem dX9_init_15 : decode cX9_init 15 = .ok (.newarray .int, 2) := by decide +kernel
theorem dX9_init_17 : decode cX9_init 17 = .ok (.putfield 15, 3) := by decide +kernel
theorem dX9_init_20 : decode cX9_init 20 = .ok (.aload_n 0, 1) := by decide +kernel
theorem dX9_init_21 : decode cX9_init 21 = .ok (.new 19, 3) := by decide +kernel
theorem dX9_init_24 : decode cX9_init 24 = .ok (.dup, 1) := by decide +kernel
theorem dX9_init_25 : decode cX9_init 25 = .ok (.invokespecial 21, 3) := by decide +kernel
theorem dX9_init_28 : decode cX9_init 28 = .ok (.putfield 22, 3) := by decide +kernel
theorem dX9_init_31 : decode cX9_init 31 = .ok (.aload_n 0, 1) := by decide +kernel
theorem dX9_init_32 : decode cX9_init 32 = .ok (.new 26, 3) := by decide +kernel
theorem dX9_init_35 : decode cX9_init 35 = .ok (.dup, 1) := by decide +kernel
theorem dX9_init_36 : decode cX9_init 36 = .ok (.invokespecial 28, 3) := by decide +kernel
theorem dX9_init_39 : decode cX9_init 39 = .ok (.putfield 29, 3) := by decide +kernel
theorem dX9_init_42 : decode cX9_init 42 = .ok (.aload_n 0, 1) := by decide +kernel
theorem dX9_init_43 : decode cX9_init 43 = .ok (.new 26, 3) := by decide +kernel
theorem dX9_init_46 : decode cX9_init 46 = .ok (.dup, 1) := by decide +kernel
theorem dX9_init_47 : decode cX9_init 47 = .ok (.invokespecial 28, 3) := by decide +kernel
theorem dX9_init_50 : decode cX9_init 50 = .ok (.putfield 33, 3) := by decide +kernel
theorem dX9_init_53 : decode cX9_init 53 = .ok (.aload_n 0, 1) := by decide +kernel
theorem dX9_init_54 : decode cX9_init 54 = .ok (.new 36, 3) := by decide +kernel
theorem dX9_init_57 : decode cX9_init 57 = .ok (.dup, 1) := by decide +kernel
theorem dX9_init_58 : decode cX9_init 58 = .ok (.invokespecial 38, 3) := by decide +kernel
theorem dX9_init_61 : decode cX9_init 61 = .ok (.putfield 39, 3) := by decide +kernel
theorem dX9_init_64 : decode cX9_init 64 = .ok (.aload_n 0, 1) := by decide +kernel
theorem dX9_init_65 : decode cX9_init 65 = .ok (.new 43, 3) := by decide +kernel
theorem dX9_init_68 : decode cX9_init 68 = .ok (.dup, 1) := by decide +kernel
theorem dX9_init_69 : decode cX9_init 69 = .ok (.invokespecial 45, 3) := by decide +kernel
theorem dX9_init_72 : decode cX9_init 72 = .ok (.putfield 46, 3) := by decide +kernel
theorem dX9_init_75 : decode cX9_init 75 = .ok (.aload_n 0, 1) := by decide +kernel
theorem dX9_init_76 : decode cX9_init 76 = .ok (.sipush 169, 3) := by decide +kernel
theorem dX9_init_79 : decode cX9_init 79 = .ok (.newarray .int, 2) := by decide +kernel
theorem dX9_init_81 : decode cX9_init 81 = .ok (.putfield 50, 3) := by decide +kernel
theorem dX9_init_84 : decode cX9_init 84 = .ok (.aload_n 0, 1) := by decide +kernel
theorem dX9_init_85 : decode cX9_init 85 = .ok (.iconst 5, 1) := by decide +kernel
theorem dX9_init_86 : decode cX9_init 86 = .ok (.newarray .int, 2) := by decide +kernel
theorem dX9_init_88 : decode cX9_init 88 = .ok (.putfield 53, 3) := by decide +kernel
theorem dX9_init_91 : decode cX9_init 91 = .ok (.aload_n 0, 1) := by decide +kernel
theorem dX9_init_92 : decode cX9_init 92 = .ok (.new 56, 3) := by decide +kernel
theorem dX9_init_95 : decode cX9_init 95 = .ok (.dup, 1) := by decide +kernel
theorem dX9_init_96 : decode cX9_init 96 = .ok (.invokespecial 58, 3) := by decide +kernel
theorem dX9_init_99 : decode cX9_init 99 = .ok (.putfield 59, 3) := by decide +kernel
theorem dX9_init_102 : decode cX9_init 102 = .ok (.aload_n 0, 1) := by decide +kernel
theorem dX9_init_103 : decode cX9_init 103 = .ok (.new 63, 3) := by decide +kernel
theorem dX9_init_106 : decode cX9_init 106 = .ok (.dup, 1) := by decide +kernel
theorem dX9_init_107 : decode cX9_init 107 = .ok (.invokespecial 65, 3) := by decide +kernel
theorem dX9_init_110 : decode cX9_init 110 = .ok (.putfield 66, 3) := by decide +kernel
theorem dX9_init_113 : decode cX9_init 113 = .ok (.aload_n 0, 1) := by decide +kernel
theorem dX9_init_114 : decode cX9_init 114 = .ok (.new 70, 3) := by decide +kernel
theorem dX9_init_117 : decode cX9_init 117 = .ok (.dup, 1) := by decide +kernel
theorem dX9_init_118 : decode cX9_init 118 = .ok (.invokespecial 72, 3) := by decide +kernel
theorem dX9_init_121 : decode cX9_init 121 = .ok (.putfield 73, 3) := by decide +kernel
theorem dX9_init_124 : decode cX9_init 124 = .ok (.aload_n 0, 1) := by decide +kernel
theorem dX9_init_125 : decode cX9_init 125 = .ok (.bipush 6, 2) := by decide +kernel
theorem dX9_init_127 : decode cX9_init 127 = .ok (.anewarray 77, 3) := by decide +kernel
theorem dX9_init_130 : decode cX9_init 130 = .ok (.putfield 79, 3) := by decide +kernel
theorem dX9_init_133 : decode cX9_init 133 = .ok (.aload_n 0, 1) := by decide +kernel
theorem dX9_init_134 : decode cX9_init 134 = .ok (.getfield 15, 3) := by decide +kernel
theorem dX9_init_137 : decode cX9_init 137 = .ok (.iconst 5, 1) := by decide +kernel
theorem dX9_init_138 : decode cX9_init 138 = .ok (.invokestatic 83, 3) := by decide +kernel
theorem dX9_init_141 : decode cX9_init 141 = .ok (.iconst 0, 1) := by decide +kernel
theorem dX9_init_142 : decode cX9_init 142 = .ok (.istore_n 1, 1) := by decide +kernel
theorem dX9_init_143 : decode cX9_init 143 = .ok (.iload_n 1, 1) := by decide +kernel
theorem dX9_init_144 : decode cX9_init 144 = .ok (.bipush 6, 2) := by decide +kernel
theorem dX9_init_146 : decode cX9_init 146 = .ok (.if_icmp .ge 22, 3) := by decide +kernel
theorem dX9_init_149 : decode cX9_init 149 = .ok (.aload_n 0, 1) := by decide +kernel
theorem dX9_init_150 : decode cX9_init 150 = .ok (.getfield 79, 3) := by decide +kernel
theorem dX9_init_153 : decode cX9_init 153 = .ok (.iload_n 1, 1) := by decide +kernel
theorem dX9_init_154 : decode cX9_init 154 = .ok (.new 77, 3) := by decide +kernel
theorem dX9_init_157 : decode cX9_init 157 = .ok (.dup, 1) := by decide +kernel
theorem dX9_init_158 : decode cX9_init 158 = .ok (.invokespecial 89, 3) := by decide +kernel
theorem dX9_init_161 : decode cX9_init 161 = .ok (.aastore, 1) := by decide +kernel
theorem dX9_init_162 : decode cX9_init 162 = .ok (.iinc 1 1, 3) := by decide +kernel
theorem dX9_init_165 : decode cX9_init 165 = .ok (.goto (-22), 3) := by decide +kernel
theorem dX9_init_168 : decode cX9_init 168 = .ok (.return_, 1) := by decide +kernel
theorem dX9_sill_0 : decode cX9_sill 0 = .ok (.iload_n 1, 1) := by decide +kernel
theorem dX9_sill_1 : decode cX9_sill 1 = .ok (.bipush 9, 2) := by decide +kernel
theorem dX9_sill_3 : decode cX9_sill 3 = .ok (.invokestatic 90, 3) := by decide +kernel
theorem dX9_sill_6 : decode cX9_sill 6 = .ok (.ifCond .eq 12, 3) := by decide +kernel
theorem dX9_sill_9 : decode cX9_sill 9 = .ok (.iload_n 2, 1) := by decide +kernel
theorem dX9_sill_10 : decode cX9_sill 10 = .ok (.bipush 9, 2) := by decide +kernel
theorem dX9_sill_12 : decode cX9_sill 12 = .ok (.invokestatic 90, 3) := by decide +kernel
theorem dX9_sill_15 : decode cX9_sill 15 = .ok (.ifCond .ne 5, 3) := by decide +kernel
theorem dX9_sill_18 : decode cX9_sill 18 = .ok (.iconst (-1), 1) := by decide +kernel
theorem dX9_sill_19 : decode cX9_sill 19 = .ok (.ireturn, 1) := by decide +kernel
theorem dX9_sill_20 : decode cX9_sill 20 = .ok (.aload_n 0, 1) := by decide +kernel
theorem dX9_sill_21 : decode cX9_sill 21 = .ok (.getfield 94, 3) := by decide +kernel
theorem dX9_sill_24 : decode cX9_sill 24 = .ok (.iconst 5, 1) := by decide +kernel
theorem dX9_sill_25 : decode cX9_sill 25 = .ok (.if_icmp .lt 6, 3) := by decide +kernel
theorem dX9_sill_28 : decode cX9_sill 28 = .ok (.bipush (-3), 2) := by decide +kernel
theorem dX9_sill_30 : decode cX9_sill 30 = .ok (.ireturn, 1) := by decide +kernel
theorem dX9_sill_31 : decode cX9_sill 31 = .ok (.aload_n 0, 1) := by decide +kernel
theorem dX9_sill_32 : decode cX9_sill 32 = .ok (.getfield 11, 3) := by decide +kernel
theorem dX9_sill_35 : decode cX9_sill 35 = .ok (.aload_n 0, 1) := by decide +kernel
theorem dX9_sill_36 : decode cX9_sill 36 = .ok (.getfield 94, 3) := by decide +kernel
theorem dX9_sill_39 : decode cX9_sill 39 = .ok (.new 9, 3) := by decide +kernel
theorem dX9_sill_42 : decode cX9_sill 42 = .ok (.dup, 1) := by decide +kernel
theorem dX9_sill_43 : decode cX9_sill 43 = .ok (.aload_n 0, 1) := by decide +kernel
theorem dX9_sill_44 : decode cX9_sill 44 = .ok (.getfield 29, 3) := by decide +kernel
theorem dX9_sill_47 : decode cX9_sill 47 = .ok (.iload_n 1, 1) := by decide +kernel
theorem dX9_sill_48 : decode cX9_sill 48 = .ok (.iload_n 2, 1) := by decide +kernel
theorem dX9_sill_49 : decode cX9_sill 49 = .ok (.invokespecial 98, 3) := by decide +kernel
theorem dX9_sill_52 : decode cX9_sill 52 = .ok (.aastore, 1) := by decide +kernel
theorem dX9_sill_53 : decode cX9_sill 53 = .ok (.aload_n 0, 1) := by decide +kernel
theorem dX9_sill_54 : decode cX9_sill 54 = .ok (.dup, 1) := by decide +kernel
theorem dX9_sill_55 : decode cX9_sill 55 = .ok (.getfield 94, 3) := by decide +kernel
theorem dX9_sill_58 : decode cX9_sill 58 = .ok (.iconst 1, 1) := by decide +kernel
theorem dX9_sill_59 : decode cX9_sill 59 = .ok (.iadd, 1) := by decide +kernel
theorem dX9_sill_60 : decode cX9_sill 60 = .ok (.putfield 94, 3) := by decide +kernel
theorem dX9_sill_63 : decode cX9_sill 63 = .ok (.aload_n 0, 1) := by decide +kernel
theorem dX9_sill_64 : decode cX9_sill 64 = .ok (.getfield 94, 3) := by decide +kernel
theorem dX9_sill_67 : decode cX9_sill 67 = .ok (.iconst 1, 1) := by decide +kernel
theorem dX9_sill_68 : decode cX9_sill 68 = .ok (.isub, 1) := by decide +kernel
theorem dX9_sill_69 : decode cX9_sill 69 = .ok (.ireturn, 1) := by decide +kernel
theorem dX9_sills_0 : decode cX9_sills 0 = .ok (.iload_n 1, 1) := by decide +kernel
theorem dX9_sills_1 : decode cX9_sills 1 = .ok (.invokestatic 101, 3) := by decide +kernel
theorem dX9_sills_4 : decode cX9_sills 4 = .ok (.ifCond .eq 13, 3) := by decide +kernel
theorem dX9_sills_7 : decode cX9_sills 7 = .ok (.iload_n 3, 1) := by decide +kernel
theorem dX9_sills_8 : decode cX9_sills 8 = .ok (.iconst 1, 1) := by decide +kernel
theorem dX9_sills_9 : decode cX9_sills 9 = .ok (.if_icmp .lt 8, 3) := by decide +kernel
theorem dX9_sills_12 : decode cX9_sills 12 = .ok (.iload_n 3, 1) := by decide +kernel
theorem dX9_sills_13 : decode cX9_sills 13 = .ok (.iconst 5, 1) := by decide +kernel
theorem dX9_sills_14 : decode cX9_sills 14 = .ok (.if_icmp .le 5, 3) := by decide +kernel
theorem dX9_sills_17 : decode cX9_sills 17 = .ok (.iconst (-1), 1) := by decide +kernel
theorem dX9_sills_18 : decode cX9_sills 18 = .ok (.ireturn, 1) := by decide +kernel
theorem dX9_sills_19 : decode cX9_sills 19 = .ok (.aload_n 0, 1) := by decide +kernel
theorem dX9_sills_20 : decode cX9_sills 20 = .ok (.getfield 79, 3) := by decide +kernel
theorem dX9_sills_23 : decode cX9_sills 23 = .ok (.iload_n 1, 1) := by decide +kernel
theorem dX9_sills_24 : decode cX9_sills 24 = .ok (.aaload, 1) := by decide +kernel
theorem dX9_sills_25 : decode cX9_sills 25 = .ok (.astore 4, 2) := by decide +kernel
theorem dX9_sills_27 : decode cX9_sills 27 = .ok (.aload 4, 2) := by decide +kernel
theorem dX9_sills_29 : decode cX9_sills 29 = .ok (.getfield 105, 3) := by decide +kernel
theorem dX9_sills_32 : decode cX9_sills 32 = .ok (.ifCond .ne 5, 3) := by decide +kernel
theorem dX9_sills_35 : decode cX9_sills 35 = .ok (.iconst 0, 1) := by decide +kernel
theorem dX9_sills_36 : decode cX9_sills 36 = .ok (.ireturn, 1) := by decide +kernel
theorem dX9_sills_37 : decode cX9_sills 37 = .ok (.aload 4, 2) := by decide +kernel
theorem dX9_sills_39 : decode cX9_sills 39 = .ok (.invokevirtual 108, 3) := by decide +kernel
theorem dX9_sills_42 : decode cX9_sills 42 = .ok (.ifCond .ne 6, 3) := by decide +kernel
theorem dX9_sills_45 : decode cX9_sills 45 = .ok (.bipush (-12), 2) := by decide +kernel
theorem dX9_sills_47 : decode cX9_sills 47 = .ok (.ireturn, 1) := by decide +kernel
theorem dX9_sills_48 : decode cX9_sills 48 = .ok (.iload_n 2, 1) := by decide +kernel
theorem dX9_sills_49 : decode cX9_sills 49 = .ok (.ifCond .ge 5, 3) := by decide +kernel
theorem dX9_sills_52 : decode cX9_sills 52 = .ok (.iconst 0, 1) := by decide +kernel
theorem dX9_sills_53 : decode cX9_sills 53 = .ok (.ireturn, 1) := by decide +kernel
theorem dX9_sills_54 : decode cX9_sills 54 = .ok (.iconst 0, 1) := by decide +kernel
theorem dX9_sills_55 : decode cX9_sills 55 = .ok (.istore 5, 2) := by decide +kernel
theorem dX9_sills_57 : decode cX9_sills 57 = .ok (.iload 5, 2) := by decide +kernel
theorem dX9_sills_59 : decode cX9_sills 59 = .ok (.iload_n 3, 1) := by decide +kernel
theorem dX9_sills_60 : decode cX9_sills 60 = .ok (.if_icmp .ge 63, 3) := by decide +kernel
theorem dX9_sills_63 : decode cX9_sills 63 = .ok (.aload 4, 2) := by decide +kernel
theorem dX9_sills_65 : decode cX9_sills 65 = .ok (.getfield 112, 3) := by decide +kernel
theorem dX9_sills_68 : decode cX9_sills 68 = .ok (.iload_n 2, 1) := by decide +kernel
theorem dX9_sills_69 : decode cX9_sills 69 = .ok (.isub, 1) := by decide +kernel
theorem dX9_sills_70 : decode cX9_sills 70 = .ok (.iconst 2, 1) := by decide +kernel
theorem dX9_sills_71 : decode cX9_sills 71 = .ok (.iload 5, 2) := by decide +kernel
theorem dX9_sills_73 : decode cX9_sills 73 = .ok (.imul, 1) := by decide +kernel
theorem dX9_sills_74 : decode cX9_sills 74 = .ok (.iconst 1, 1) := by decide +kernel
theorem dX9_sills_75 : decode cX9_sills 75 = .ok (.iadd, 1) := by decide +kernel
theorem dX9_sills_76 : decode cX9_sills 76 = .ok (.if_icmp .le 47, 3) := by decide +kernel
theorem dX9_sills_79 : decode cX9_sills 79 = .ok (.iload_n 2, 1) := by decide +kernel
theorem dX9_sills_80 : decode cX9_sills 80 = .ok (.iconst 2, 1) := by decide +kernel
theorem dX9_sills_81 : decode cX9_sills 81 = .ok (.iload 5, 2) := by decide +kernel
theorem dX9_sills_83 : decode cX9_sills 83 = .ok (.imul, 1) := by decide +kernel
theorem dX9_sills_84 : decode cX9_sills 84 = .ok (.iadd, 1) := by decide +kernel
theorem dX9_sills_85 : decode cX9_sills 85 = .ok (.istore 6, 2) := by decide +kernel
theorem dX9_sills_87 : decode cX9_sills 87 = .ok (.aload_n 0, 1) := by decide +kernel
theorem dX9_sills_88 : decode cX9_sills 88 = .ok (.aload 4, 2) := by decide +kernel
theorem dX9_sills_90 : decode cX9_sills 90 = .ok (.getfield 115, 3) := by decide +kernel
theorem dX9_sills_93 : decode cX9_sills 93 = .ok (.iload 6, 2) := by decide +kernel
theorem dX9_sills_95 : decode cX9_sills 95 = .ok (.laload, 1) := by decide +kernel
theorem dX9_sills_96 : decode cX9_sills 96 = .ok (.l2i, 1) := by decide +kernel
theorem dX9_sills_97 : decode cX9_sills 97 = .ok (.aload 4, 2) := by decide +kernel
theorem dX9_sills_99 : decode cX9_sills 99 = .ok (.getfield 115, 3) := by decide +kernel
theorem dX9_sills_102 : decode cX9_sills 102 = .ok (.iload 6, 2) := by decide +kernel
theorem dX9_sills_104 : decode cX9_sills 104 = .ok (.iconst 1, 1) := by decide +kernel
theorem dX9_sills_105 : decode cX9_sills 105 = .ok (.iadd, 1) := by decide +kernel
theorem dX9_sills_106 : decode cX9_sills 106 = .ok (.laload, 1) := by decide +kernel
theorem dX9_sills_107 : decode cX9_sills 107 = .ok (.l2i, 1) := by decide +kernel
theorem dX9_sills_108 : decode cX9_sills 108 = .ok (.invokevirtual 119, 3) := by decide +kernel
theorem dX9_sills_111 : decode cX9_sills 111 = .ok (.ifCond .ge 6, 3) := by decide +kernel
theorem dX9_sills_114 : decode cX9_sills 114 = .ok (.goto 9, 3) := by decide +kernel
theorem dX9_sills_117 : decode cX9_sills 117 = .ok (.iinc 5 1, 3) := by decide +kernel
theorem dX9_sills_120 : decode cX9_sills 120 = .ok (.goto (-63), 3) := by decide +kernel
theorem dX9_sills_123 : decode cX9_sills 123 = .ok (.iload 5, 2) := by decide +kernel
theorem dX9_sills_125 : decode cX9_sills 125 = .ok (.ireturn, 1) := by decide +kernel
theorem dX9_mend_0 : decode cX9_mend 0 = .ok (.aload_n 0, 1) := by decide +kernel
theorem dX9_mend_1 : decode cX9_mend 1 = .ok (.iload_n 1, 1) := by decide +kernel
theorem dX9_mend_2 : decode cX9_mend 2 = .ok (.iload_n 2, 1) := by decide +kernel
theorem dX9_mend_3 : decode cX9_mend 3 = .ok (.invokevirtual 123, 3) := by decide +kernel
theorem dX9_mend_6 : decode cX9_mend 6 = .ok (.ifCond .eq 21, 3) := by decide +kernel
theorem dX9_mend_9 : decode cX9_mend 9 = .ok (.iload_n 3, 1) := by decide +kernel
theorem dX9_mend_10 : decode cX9_mend 10 = .ok (.iload_n 2, 1) := by decide +kernel
theorem dX9_mend_11 : decode cX9_mend 11 = .ok (.iconst 3, 1) := by decide +kernel
theorem dX9_mend_12 : decode cX9_mend 12 = .ok (.if_icmp .ne 7, 3) := by decide +kernel
theorem dX9_mend_15 : decode cX9_mend 15 = .ok (.iconst 3, 1) := by decide +kernel
theorem dX9_mend_16 : decode cX9_mend 16 = .ok (.goto 5, 3) := by decide +kernel
theorem dX9_mend_19 : decode cX9_mend 19 = .ok (.bipush 9, 2) := by decide +kernel
theorem dX9_mend_21 : decode cX9_mend 21 = .ok (.invokestatic 90, 3) := by decide +kernel
theorem dX9_mend_24 : decode cX9_mend 24 = .ok (.ifCond .ne 5, 3) := by decide +kernel
theorem dX9_mend_27 : decode cX9_mend 27 = .ok (.iconst (-1), 1) := by decide +kernel
theorem dX9_mend_28 : decode cX9_mend 28 = .ok (.ireturn, 1) := by decide +kernel
theorem dX9_mend_29 : decode cX9_mend 29 = .ok (.aload_n 0, 1) := by decide +kernel
theorem dX9_mend_30 : decode cX9_mend 30 = .ok (.iload_n 1, 1) := by decide +kernel
theorem dX9_mend_31 : decode cX9_mend 31 = .ok (.iload_n 2, 1) := by decide +kernel
theorem dX9_mend_32 : decode cX9_mend 32 = .ok (.invokevirtual 126, 3) := by decide +kernel
theorem dX9_mend_35 : decode cX9_mend 35 = .ok (.istore 4, 2) := by decide +kernel
theorem dX9_mend_37 : decode cX9_mend 37 = .ok (.iload 4, 2) := by decide +kernel
theorem dX9_mend_39 : decode cX9_mend 39 = .ok (.iload_n 3, 1) := by decide +kernel
theorem dX9_mend_40 : decode cX9_mend 40 = .ok (.if_icmp .eq 22, 3) := by decide +kernel
theorem dX9_mend_43 : decode cX9_mend 43 = .ok (.aload_n 0, 1) := by decide +kernel
theorem dX9_mend_44 : decode cX9_mend 44 = .ok (.getfield 66, 3) := by decide +kernel
theorem dX9_mend_47 : decode cX9_mend 47 = .ok (.iload_n 1, 1) := by decide +kernel
theorem dX9_mend_48 : decode cX9_mend 48 = .ok (.iload_n 2, 1) := by decide +kernel
theorem dX9_mend_49 : decode cX9_mend 49 = .ok (.iload 4, 2) := by decide +kernel
theorem dX9_mend_51 : decode cX9_mend 51 = .ok (.iload_n 3, 1) := by decide +kernel
theorem dX9_mend_52 : decode cX9_mend 52 = .ok (.invokevirtual 129, 3) := by decide +kernel
theorem dX9_mend_55 : decode cX9_mend 55 = .ok (.aload_n 0, 1) := by decide +kernel
theorem dX9_mend_56 : decode cX9_mend 56 = .ok (.iload_n 1, 1) := by decide +kernel
theorem dX9_mend_57 : decode cX9_mend 57 = .ok (.iload_n 2, 1) := by decide +kernel
theorem dX9_mend_58 : decode cX9_mend 58 = .ok (.iload_n 3, 1) := by decide +kernel
theorem dX9_mend_59 : decode cX9_mend 59 = .ok (.invokevirtual 133, 3) := by decide +kernel
theorem dX9_mend_62 : decode cX9_mend 62 = .ok (.iload 4, 2) := by decide +kernel
theorem dX9_mend_64 : decode cX9_mend 64 = .ok (.ireturn, 1) := by decide +kernel
theorem dX9_of_0 : decode cX9_of 0 = .ok (.aload_n 0, 1) := by decide +kernel
theorem dX9_of_1 : decode cX9_of 1 = .ok (.iload_n 1, 1) := by decide +kernel
theorem dX9_of_2 : decode cX9_of 2 = .ok (.iload_n 2, 1) := by decide +kernel
theorem dX9_of_3 : decode cX9_of 3 = .ok (.invokevirtual 123, 3) := by decide +kernel
theorem dX9_of_6 : decode cX9_of 6 = .ok (.ifCond .eq 10, 3) := by decide +kernel
theorem dX9_of_9 : decode cX9_of 9 = .ok (.aload_n 0, 1) := by decide +kernel
theorem dX9_of_10 : decode cX9_of 10 = .ok (.iload_n 1, 1) := by decide +kernel
theorem dX9_of_11 : decode cX9_of 11 = .ok (.iload_n 2, 1) := by decide +kernel
theorem dX9_of_12 : decode cX9_of 12 = .ok (.invokevirtual 126, 3) := by decide +kernel
theorem dX9_of_15 : decode cX9_of 15 = .ok (.ireturn, 1) := by decide +kernel
theorem dX9_of_16 : decode cX9_of 16 = .ok (.aload_n 0, 1) := by decide +kernel
theorem dX9_of_17 : decode cX9_of 17 = .ok (.iload_n 1, 1) := by decide +kernel
theorem dX9_of_18 : decode cX9_of 18 = .ok (.invokevirtual 137, 3) := by decide +kernel
theorem dX9_of_21 : decode cX9_of 21 = .ok (.astore_n 3, 1) := by decide +kernel
theorem dX9_of_22 : decode cX9_of 22 = .ok (.aload_n 3, 1) := by decide +kernel
theorem dX9_of_23 : decode cX9_of 23 = .ok (.ifnull 13, 3) := by decide +kernel
theorem dX9_of_26 : decode cX9_of 26 = .ok (.iload_n 2, 1) := by decide +kernel
theorem dX9_of_27 : decode cX9_of 27 = .ok (.iconst 4, 1) := by decide +kernel
theorem dX9_of_28 : decode cX9_of 28 = .ok (.if_icmp .lt 8, 3) := by decide +kernel
theorem dX9_of_31 : decode cX9_of 31 = .ok (.iload_n 2, 1) := by decide +kernel
theorem dX9_of_32 : decode cX9_of 32 = .ok (.iconst 5, 1) := by decide +kernel
theorem dX9_of_33 : decode cX9_of 33 = .ok (.if_icmp .le 5, 3) := by decide +kernel
theorem dX9_of_36 : decode cX9_of 36 = .ok (.iconst (-1), 1) := by decide +kernel
theorem dX9_of_37 : decode cX9_of 37 = .ok (.ireturn, 1) := by decide +kernel
theorem dX9_of_38 : decode cX9_of 38 = .ok (.iload_n 2, 1) := by decide +kernel
theorem dX9_of_39 : decode cX9_of 39 = .ok (.iconst 4, 1) := by decide +kernel
theorem dX9_of_40 : decode cX9_of 40 = .ok (.if_icmp .ne 13, 3) := by decide +kernel
theorem dX9_of_43 : decode cX9_of 43 = .ok (.aload_n 3, 1) := by decide +kernel
theorem dX9_of_44 : decode cX9_of 44 = .ok (.getfield 141, 3) := by decide +kernel
theorem dX9_of_47 : decode cX9_of 47 = .ok (.getfield 144, 3) := by decide +kernel
theorem dX9_of_50 : decode cX9_of 50 = .ok (.goto 10, 3) := by decide +kernel
theorem dX9_of_53 : decode cX9_of 53 = .ok (.aload_n 3, 1) := by decide +kernel
theorem dX9_of_54 : decode cX9_of 54 = .ok (.getfield 141, 3) := by decide +kernel
theorem dX9_of_57 : decode cX9_of 57 = .ok (.invokevirtual 147, 3) := by decide +kernel
theorem dX9_of_60 : decode cX9_of 60 = .ok (.ireturn, 1) := by decide +kernel
theorem dX9_layer_0 : decode cX9_layer 0 = .ok (.aload_n 0, 1) := by decide +kernel
theorem dX9_layer_1 : decode cX9_layer 1 = .ok (.iload_n 1, 1) := by decide +kernel
theorem dX9_layer_2 : decode cX9_layer 2 = .ok (.invokevirtual 137, 3) := by decide +kernel
theorem dX9_layer_5 : decode cX9_layer 5 = .ok (.astore 4, 2) := by decide +kernel
theorem dX9_layer_7 : decode cX9_layer 7 = .ok (.aload 4, 2) := by decide +kernel
theorem dX9_layer_9 : decode cX9_layer 9 = .ok (.ifnull 15, 3) := by decide +kernel
theorem dX9_layer_12 : decode cX9_layer 12 = .ok (.iload_n 2, 1) := by decide +kernel
theorem dX9_layer_13 : decode cX9_layer 13 = .ok (.ifCond .lt 11, 3) := by decide +kernel
theorem dX9_layer_16 : decode cX9_layer 16 = .ok (.iload_n 3, 1) := by decide +kernel
theorem dX9_layer_17 : decode cX9_layer 17 = .ok (.iconst 1, 1) := by decide +kernel
theorem dX9_layer_18 : decode cX9_layer 18 = .ok (.invokestatic 90, 3) := by decide +kernel
theorem dX9_layer_21 : decode cX9_layer 21 = .ok (.ifCond .ne 5, 3) := by decide +kernel
theorem dX9_layer_24 : decode cX9_layer 24 = .ok (.iconst (-1), 1) := by decide +kernel
theorem dX9_layer_25 : decode cX9_layer 25 = .ok (.ireturn, 1) := by decide +kernel
theorem dX9_layer_26 : decode cX9_layer 26 = .ok (.aload 4, 2) := by decide +kernel
theorem dX9_layer_28 : decode cX9_layer 28 = .ok (.getfield 141, 3) := by decide +kernel
theorem dX9_layer_31 : decode cX9_layer 31 = .ok (.iload_n 2, 1) := by decide +kernel
theorem dX9_layer_32 : decode cX9_layer 32 = .ok (.iload_n 3, 1) := by decide +kernel
theorem dX9_layer_33 : decode cX9_layer 33 = .ok (.invokevirtual 151, 3) := by decide +kernel
theorem dX9_layer_36 : decode cX9_layer 36 = .ok (.ireturn, 1) := by decide +kernel
theorem dX9_feed_0 : decode cX9_feed 0 = .ok (.iload_n 1, 1) := by decide +kernel
theorem dX9_feed_1 : decode cX9_feed 1 = .ok (.sipush 255, 3) := by decide +kernel
theorem dX9_feed_4 : decode cX9_feed 4 = .ok (.invokestatic 90, 3) := by decide +kernel
theorem dX9_feed_7 : decode cX9_feed 7 = .ok (.ifCond .ne 5, 3) := by decide +kernel
theorem dX9_feed_10 : decode cX9_feed 10 = .ok (.iconst (-1), 1) := by decide +kernel
theorem dX9_feed_11 : decode cX9_feed 11 = .ok (.ireturn, 1) := by decide +kernel
theorem dX9_feed_12 : decode cX9_feed 12 = .ok (.aload_n 0, 1) := by decide +kernel
theorem dX9_feed_13 : decode cX9_feed 13 = .ok (.getfield 22, 3) := by decide +kernel
theorem dX9_feed_16 : decode cX9_feed 16 = .ok (.iload_n 1, 1) := by decide +kernel
theorem dX9_feed_17 : decode cX9_feed 17 = .ok (.invokevirtual 154, 3) := by decide +kernel
theorem dX9_feed_20 : decode cX9_feed 20 = .ok (.ifCond .eq 13, 3) := by decide +kernel
theorem dX9_feed_23 : decode cX9_feed 23 = .ok (.aload_n 0, 1) := by decide +kernel
theorem dX9_feed_24 : decode cX9_feed 24 = .ok (.getfield 22, 3) := by decide +kernel
theorem dX9_feed_27 : decode cX9_feed 27 = .ok (.getfield 157, 3) := by decide +kernel
theorem dX9_feed_30 : decode cX9_feed 30 = .ok (.goto 5, 3) := by decide +kernel
theorem dX9_feed_33 : decode cX9_feed 33 = .ok (.bipush (-3), 2) := by decide +kernel
theorem dX9_feed_35 : decode cX9_feed 35 = .ok (.ireturn, 1) := by decide +kernel
theorem dX9_law_0 : decode cX9_law 0 = .ok (.aload_n 0, 1) := by decide +kernel
theorem dX9_law_1 : decode cX9_law 1 = .ok (.getfield 22, 3) := by decide +kernel
theorem dX9_law_4 : decode cX9_law 4 = .ok (.aload_n 0, 1) := by decide +kernel
theorem dX9_law_5 : decode cX9_law 5 = .ok (.getfield 33, 3) := by decide +kernel
theorem dX9_law_8 : decode cX9_law 8 = .ok (.invokevirtual 160, 3) := by decide +kernel
theorem dX9_law_11 : decode cX9_law 11 = .ok (.istore_n 1, 1) := by decide +kernel
theorem dX9_law_12 : decode cX9_law 12 = .ok (.aload_n 0, 1) := by decide +kernel
theorem dX9_law_13 : decode cX9_law 13 = .ok (.getfield 22, 3) := by decide +kernel
theorem dX9_law_16 : decode cX9_law 16 = .ok (.iconst 0, 1) := by decide +kernel
theorem dX9_law_17 : decode cX9_law 17 = .ok (.putfield 157, 3) := by decide +kernel
theorem dX9_law_20 : decode cX9_law 20 = .ok (.iload_n 1, 1) := by decide +kernel
theorem dX9_law_21 : decode cX9_law 21 = .ok (.ifCond .lt 8, 3) := by decide +kernel
theorem dX9_law_24 : decode cX9_law 24 = .ok (.bipush (-100), 2) := by decide +kernel
theorem dX9_law_26 : decode cX9_law 26 = .ok (.iload_n 1, 1) := by decide +kernel
theorem dX9_law_27 : decode cX9_law 27 = .ok (.isub, 1) := by decide +kernel
theorem dX9_law_28 : decode cX9_law 28 = .ok (.ireturn, 1) := by decide +kernel
theorem dX9_law_29 : decode cX9_law 29 = .ok (.aload_n 0, 1) := by decide +kernel
theorem dX9_law_30 : decode cX9_law 30 = .ok (.getfield 29, 3) := by decide +kernel
theorem dX9_law_33 : decode cX9_law 33 = .ok (.aload_n 0, 1) := by decide +kernel
theorem dX9_law_34 : decode cX9_law 34 = .ok (.getfield 33, 3) := by decide +kernel
theorem dX9_law_37 : decode cX9_law 37 = .ok (.invokevirtual 164, 3) := by decide +kernel
theorem dX9_law_40 : decode cX9_law 40 = .ok (.aload_n 0, 1) := by decide +kernel
theorem dX9_law_41 : decode cX9_law 41 = .ok (.invokevirtual 168, 3) := by decide +kernel
theorem dX9_law_44 : decode cX9_law 44 = .ok (.iconst 1, 1) := by decide +kernel
theorem dX9_law_45 : decode cX9_law 45 = .ok (.ireturn, 1) := by decide +kernel
theorem dX9_lays_0 : decode cX9_lays 0 = .ok (.aload_n 0, 1) := by decide +kernel
theorem dX9_lays_1 : decode cX9_lays 1 = .ok (.iload_n 1, 1) := by decide +kernel
theorem dX9_lays_2 : decode cX9_lays 2 = .ok (.invokevirtual 137, 3) := by decide +kernel
theorem dX9_lays_5 : decode cX9_lays 5 = .ok (.astore_n 3, 1) := by decide +kernel
theorem dX9_lays_6 : decode cX9_lays 6 = .ok (.aload_n 3, 1) := by decide +kernel
theorem dX9_lays_7 : decode cX9_lays 7 = .ok (.ifnull 10, 3) := by decide +kernel
theorem dX9_lays_10 : decode cX9_lays 10 = .ok (.iload_n 2, 1) := by decide +kernel
theorem dX9_lays_11 : decode cX9_lays 11 = .ok (.invokestatic 171, 3) := by decide +kernel
theorem dX9_lays_14 : decode cX9_lays 14 = .ok (.ifCond .ne 5, 3) := by decide +kernel
theorem dX9_lays_17 : decode cX9_lays 17 = .ok (.iconst (-1), 1) := by decide +kernel
theorem dX9_lays_18 : decode cX9_lays 18 = .ok (.ireturn, 1) := by decide +kernel
theorem dX9_lays_19 : decode cX9_lays 19 = .ok (.aload_n 3, 1) := by decide +kernel
theorem dX9_lays_20 : decode cX9_lays 20 = .ok (.aload_n 3, 1) := by decide +kernel
theorem dX9_lays_21 : decode cX9_lays 21 = .ok (.getfield 141, 3) := by decide +kernel
theorem dX9_lays_24 : decode cX9_lays 24 = .ok (.getfield 144, 3) := by decide +kernel
theorem dX9_lays_27 : decode cX9_lays 27 = .ok (.iload_n 2, 1) := by decide +kernel
theorem dX9_lays_28 : decode cX9_lays 28 = .ok (.invokestatic 174, 3) := by decide +kernel
theorem dX9_lays_31 : decode cX9_lays 31 = .ok (.aload_n 0, 1) := by decide +kernel
theorem dX9_lays_32 : decode cX9_lays 32 = .ok (.iload_n 2, 1) := by decide +kernel
theorem dX9_lays_33 : decode cX9_lays 33 = .ok (.invokevirtual 178, 3) := by decide +kernel
theorem dX9_lays_36 : decode cX9_lays 36 = .ok (.invokevirtual 181, 3) := by decide +kernel
theorem dX9_lays_39 : decode cX9_lays 39 = .ok (.ireturn, 1) := by decide +kernel
theorem dX9_later_0 : decode cX9_later 0 = .ok (.aload_n 0, 1) := by decide +kernel
theorem dX9_later_1 : decode cX9_later 1 = .ok (.iload_n 3, 1) := by decide +kernel
theorem dX9_later_2 : decode cX9_later 2 = .ok (.invokevirtual 137, 3) := by decide +kernel
theorem dX9_later_5 : decode cX9_later 5 = .ok (.astore 5, 2) := by decide +kernel
theorem dX9_later_7 : decode cX9_later 7 = .ok (.aload 5, 2) := by decide +kernel
theorem dX9_later_9 : decode cX9_later 9 = .ok (.ifnull 28, 3) := by decide +kernel
theorem dX9_later_12 : decode cX9_later 12 = .ok (.iload_n 1, 1) := by decide +kernel
theorem dX9_later_13 : decode cX9_later 13 = .ok (.invokestatic 101, 3) := by decide +kernel
theorem dX9_later_16 : decode cX9_later 16 = .ok (.ifCond .eq 21, 3) := by decide +kernel
theorem dX9_later_19 : decode cX9_later 19 = .ok (.iload_n 2, 1) := by decide +kernel
theorem dX9_later_20 : decode cX9_later 20 = .ok (.bipush 40, 2) := by decide +kernel
theorem dX9_later_22 : decode cX9_later 22 = .ok (.invokestatic 90, 3) := by decide +kernel
theorem dX9_later_25 : decode cX9_later 25 = .ok (.ifCond .eq 12, 3) := by decide +kernel
theorem dX9_later_28 : decode cX9_later 28 = .ok (.iload 4, 2) := by decide +kernel
theorem dX9_later_30 : decode cX9_later 30 = .ok (.iconst 4, 1) := by decide +kernel
theorem dX9_later_31 : decode cX9_later 31 = .ok (.invokestatic 90, 3) := by decide +kernel
theorem dX9_later_34 : decode cX9_later 34 = .ok (.ifCond .ne 5, 3) := by decide +kernel
theorem dX9_later_37 : decode cX9_later 37 = .ok (.iconst (-1), 1) := by decide +kernel
theorem dX9_later_38 : decode cX9_later 38 = .ok (.ireturn, 1) := by decide +kernel
theorem dX9_later_39 : decode cX9_later 39 = .ok (.aload_n 0, 1) := by decide +kernel
theorem dX9_later_40 : decode cX9_later 40 = .ok (.iload_n 1, 1) := by decide +kernel
theorem dX9_later_41 : decode cX9_later 41 = .ok (.invokevirtual 185, 3) := by decide +kernel
theorem dX9_later_44 : decode cX9_later 44 = .ok (.istore 6, 2) := by decide +kernel
theorem dX9_later_46 : decode cX9_later 46 = .ok (.iload 6, 2) := by decide +kernel
theorem dX9_later_48 : decode cX9_later 48 = .ok (.ifCond .ge 6, 3) := by decide +kernel
theorem dX9_later_51 : decode cX9_later 51 = .ok (.iload 6, 2) := by decide +kernel
theorem dX9_later_53 : decode cX9_later 53 = .ok (.ireturn, 1) := by decide +kernel
theorem dX9_later_54 : decode cX9_later 54 = .ok (.aload_n 0, 1) := by decide +kernel
theorem dX9_later_55 : decode cX9_later 55 = .ok (.aload 5, 2) := by decide +kernel
theorem dX9_later_57 : decode cX9_later 57 = .ok (.aload_n 0, 1) := by decide +kernel
theorem dX9_later_58 : decode cX9_later 58 = .ok (.getfield 79, 3) := by decide +kernel
theorem dX9_later_61 : decode cX9_later 61 = .ok (.iload_n 1, 1) := by decide +kernel
theorem dX9_later_62 : decode cX9_later 62 = .ok (.aaload, 1) := by decide +kernel
theorem dX9_later_63 : decode cX9_later 63 = .ok (.iload_n 2, 1) := by decide +kernel
theorem dX9_later_64 : decode cX9_later 64 = .ok (.invokevirtual 188, 3) := by decide +kernel
theorem dX9_later_67 : decode cX9_later 67 = .ok (.istore 7, 2) := by decide +kernel
theorem dX9_later_69 : decode cX9_later 69 = .ok (.iload 4, 2) := by decide +kernel
theorem dX9_later_71 : decode cX9_later 71 = .ok (.tableswitch 61 0 3 #[29, 37, 45, 53], 29) := by decide +kernel
theorem dX9_later_100 : decode cX9_later 100 = .ok (.aload_n 0, 1) := by decide +kernel
theorem dX9_later_101 : decode cX9_later 101 = .ok (.getfield 39, 3) := by decide +kernel
theorem dX9_later_104 : decode cX9_later 104 = .ok (.getfield 144, 3) := by decide +kernel
theorem dX9_later_107 : decode cX9_later 107 = .ok (.ireturn, 1) := by decide +kernel
theorem dX9_later_108 : decode cX9_later 108 = .ok (.aload_n 0, 1) := by decide +kernel
theorem dX9_later_109 : decode cX9_later 109 = .ok (.getfield 39, 3) := by decide +kernel
theorem dX9_later_112 : decode cX9_later 112 = .ok (.invokevirtual 147, 3) := by decide +kernel
theorem dX9_later_115 : decode cX9_later 115 = .ok (.ireturn, 1) := by decide +kernel
theorem dX9_later_116 : decode cX9_later 116 = .ok (.aload_n 0, 1) := by decide +kernel
theorem dX9_later_117 : decode cX9_later 117 = .ok (.getfield 39, 3) := by decide +kernel
theorem dX9_later_120 : decode cX9_later 120 = .ok (.invokevirtual 192, 3) := by decide +kernel
theorem dX9_later_123 : decode cX9_later 123 = .ok (.ireturn, 1) := by decide +kernel
theorem dX9_later_124 : decode cX9_later 124 = .ok (.aload_n 0, 1) := by decide +kernel
theorem dX9_later_125 : decode cX9_later 125 = .ok (.getfield 39, 3) := by decide +kernel
theorem dX9_later_128 : decode cX9_later 128 = .ok (.invokevirtual 195, 3) := by decide +kernel
theorem dX9_later_131 : decode cX9_later 131 = .ok (.ireturn, 1) := by decide +kernel
theorem dX9_later_132 : decode cX9_later 132 = .ok (.iload 7, 2) := by decide +kernel
theorem dX9_later_134 : decode cX9_later 134 = .ok (.ireturn, 1) := by decide +kernel
theorem dX9_laid_0 : decode cX9_laid 0 = .ok (.aload_n 0, 1) := by decide +kernel
theorem dX9_laid_1 : decode cX9_laid 1 = .ok (.iload_n 3, 1) := by decide +kernel
theorem dX9_laid_2 : decode cX9_laid 2 = .ok (.invokevirtual 137, 3) := by decide +kernel
theorem dX9_laid_5 : decode cX9_laid 5 = .ok (.astore 5, 2) := by decide +kernel
theorem dX9_laid_7 : decode cX9_laid 7 = .ok (.aload 5, 2) := by decide +kernel
theorem dX9_laid_9 : decode cX9_laid 9 = .ok (.ifnull 33, 3) := by decide +kernel
theorem dX9_laid_12 : decode cX9_laid 12 = .ok (.iload_n 1, 1) := by decide +kernel
theorem dX9_laid_13 : decode cX9_laid 13 = .ok (.invokestatic 101, 3) := by decide +kernel
theorem dX9_laid_16 : decode cX9_laid 16 = .ok (.ifCond .eq 26, 3) := by decide +kernel
theorem dX9_laid_19 : decode cX9_laid 19 = .ok (.iload_n 2, 1) := by decide +kernel
theorem dX9_laid_20 : decode cX9_laid 20 = .ok (.bipush 40, 2) := by decide +kernel
theorem dX9_laid_22 : decode cX9_laid 22 = .ok (.invokestatic 90, 3) := by decide +kernel
theorem dX9_laid_25 : decode cX9_laid 25 = .ok (.ifCond .eq 17, 3) := by decide +kernel
theorem dX9_laid_28 : decode cX9_laid 28 = .ok (.iload 4, 2) := by decide +kernel
theorem dX9_laid_30 : decode cX9_laid 30 = .ok (.ifCond .lt 12, 3) := by decide +kernel
theorem dX9_laid_33 : decode cX9_laid 33 = .ok (.iload 4, 2) := by decide +kernel
theorem dX9_laid_35 : decode cX9_laid 35 = .ok (.bipush 10, 2) := by decide +kernel
theorem dX9_laid_37 : decode cX9_laid 37 = .ok (.irem, 1) := by decide +kernel
theorem dX9_laid_38 : decode cX9_laid 38 = .ok (.iconst 2, 1) := by decide +kernel
theorem dX9_laid_39 : decode cX9_laid 39 = .ok (.if_icmp .le 5, 3) := by decide +kernel
theorem dX9_laid_42 : decode cX9_laid 42 = .ok (.iconst (-1), 1) := by decide +kernel
theorem dX9_laid_43 : decode cX9_laid 43 = .ok (.ireturn, 1) := by decide +kernel
theorem dX9_laid_44 : decode cX9_laid 44 = .ok (.aload_n 0, 1) := by decide +kernel
theorem dX9_laid_45 : decode cX9_laid 45 = .ok (.iload_n 1, 1) := by decide +kernel
theorem dX9_laid_46 : decode cX9_laid 46 = .ok (.invokevirtual 185, 3) := by decide +kernel
theorem dX9_laid_49 : decode cX9_laid 49 = .ok (.istore 6, 2) := by decide +kernel
theorem dX9_laid_51 : decode cX9_laid 51 = .ok (.iload 6, 2) := by decide +kernel
theorem dX9_laid_53 : decode cX9_laid 53 = .ok (.ifCond .ge 6, 3) := by decide +kernel
theorem dX9_laid_56 : decode cX9_laid 56 = .ok (.iload 6, 2) := by decide +kernel
theorem dX9_laid_58 : decode cX9_laid 58 = .ok (.ireturn, 1) := by decide +kernel
theorem dX9_laid_59 : decode cX9_laid 59 = .ok (.aload_n 0, 1) := by decide +kernel
theorem dX9_laid_60 : decode cX9_laid 60 = .ok (.aload 5, 2) := by decide +kernel
theorem dX9_laid_62 : decode cX9_laid 62 = .ok (.aload_n 0, 1) := by decide +kernel
theorem dX9_laid_63 : decode cX9_laid 63 = .ok (.getfield 79, 3) := by decide +kernel
theorem dX9_laid_66 : decode cX9_laid 66 = .ok (.iload_n 1, 1) := by decide +kernel
theorem dX9_laid_67 : decode cX9_laid 67 = .ok (.aaload, 1) := by decide +kernel
theorem dX9_laid_68 : decode cX9_laid 68 = .ok (.iload_n 2, 1) := by decide +kernel
theorem dX9_laid_69 : decode cX9_laid 69 = .ok (.invokevirtual 188, 3) := by decide +kernel
theorem dX9_laid_72 : decode cX9_laid 72 = .ok (.pop, 1) := by decide +kernel
theorem dX9_laid_73 : decode cX9_laid 73 = .ok (.iload 4, 2) := by decide +kernel
theorem dX9_laid_75 : decode cX9_laid 75 = .ok (.bipush 10, 2) := by decide +kernel
theorem dX9_laid_77 : decode cX9_laid 77 = .ok (.idiv, 1) := by decide +kernel
theorem dX9_laid_78 : decode cX9_laid 78 = .ok (.istore 7, 2) := by decide +kernel
theorem dX9_laid_80 : decode cX9_laid 80 = .ok (.iload 4, 2) := by decide +kernel
theorem dX9_laid_82 : decode cX9_laid 82 = .ok (.bipush 10, 2) := by decide +kernel
theorem dX9_laid_84 : decode cX9_laid 84 = .ok (.irem, 1) := by decide +kernel
theorem dX9_laid_85 : decode cX9_laid 85 = .ok (.iconst 2, 1) := by decide +kernel
theorem dX9_laid_86 : decode cX9_laid 86 = .ok (.if_icmp .ne 15, 3) := by decide +kernel
theorem dX9_laid_89 : decode cX9_laid 89 = .ok (.aload_n 0, 1) := by decide +kernel
theorem dX9_laid_90 : decode cX9_laid 90 = .ok (.getfield 39, 3) := by decide +kernel
theorem dX9_laid_93 : decode cX9_laid 93 = .ok (.iload 7, 2) := by decide +kernel
theorem dX9_laid_95 : decode cX9_laid 95 = .ok (.invokevirtual 198, 3) := by decide +kernel
theorem dX9_laid_98 : decode cX9_laid 98 = .ok (.goto 17, 3) := by decide +kernel
theorem dX9_laid_101 : decode cX9_laid 101 = .ok (.aload_n 0, 1) := by decide +kernel
theorem dX9_laid_102 : decode cX9_laid 102 = .ok (.getfield 39, 3) := by decide +kernel
theorem dX9_laid_105 : decode cX9_laid 105 = .ok (.iload 7, 2) := by decide +kernel
theorem dX9_laid_107 : decode cX9_laid 107 = .ok (.iload 4, 2) := by decide +kernel
theorem dX9_laid_109 : decode cX9_laid 109 = .ok (.bipush 10, 2) := by decide +kernel
theorem dX9_laid_111 : decode cX9_laid 111 = .ok (.irem, 1) := by decide +kernel
theorem dX9_laid_112 : decode cX9_laid 112 = .ok (.invokevirtual 151, 3) := by decide +kernel
theorem dX9_laid_115 : decode cX9_laid 115 = .ok (.ireturn, 1) := by decide +kernel
theorem dX9_breath_0 : decode cX9_breath 0 = .ok (.aload_n 0, 1) := by decide +kernel
theorem dX9_breath_1 : decode cX9_breath 1 = .ok (.iload_n 1, 1) := by decide +kernel
theorem dX9_breath_2 : decode cX9_breath 2 = .ok (.invokevirtual 137, 3) := by decide +kernel
theorem dX9_breath_5 : decode cX9_breath 5 = .ok (.astore 4, 2) := by decide +kernel
theorem dX9_breath_7 : decode cX9_breath 7 = .ok (.aload 4, 2) := by decide +kernel
theorem dX9_breath_9 : decode cX9_breath 9 = .ok (.ifnull 20, 3) := by decide +kernel
theorem dX9_breath_12 : decode cX9_breath 12 = .ok (.iload_n 2, 1) := by decide +kernel
theorem dX9_breath_13 : decode cX9_breath 13 = .ok (.bipush 99, 2) := by decide +kernel
theorem dX9_breath_15 : decode cX9_breath 15 = .ok (.invokestatic 90, 3) := by decide +kernel
theorem dX9_breath_18 : decode cX9_breath 18 = .ok (.ifCond .eq 11, 3) := by decide +kernel
theorem dX9_breath_21 : decode cX9_breath 21 = .ok (.iload_n 3, 1) := by decide +kernel
theorem dX9_breath_22 : decode cX9_breath 22 = .ok (.iconst 1, 1) := by decide +kernel
theorem dX9_breath_23 : decode cX9_breath 23 = .ok (.invokestatic 90, 3) := by decide +kernel
theorem dX9_breath_26 : decode cX9_breath 26 = .ok (.ifCond .ne 5, 3) := by decide +kernel
theorem dX9_breath_29 : decode cX9_breath 29 = .ok (.iconst (-1), 1) := by decide +kernel
theorem dX9_breath_30 : decode cX9_breath 30 = .ok (.ireturn, 1) := by decide +kernel
theorem dX9_breath_31 : decode cX9_breath 31 = .ok (.aload_n 0, 1) := by decide +kernel
theorem dX9_breath_32 : decode cX9_breath 32 = .ok (.getfield 39, 3) := by decide +kernel
theorem dX9_breath_35 : decode cX9_breath 35 = .ok (.aload 4, 2) := by decide +kernel
theorem dX9_breath_37 : decode cX9_breath 37 = .ok (.getfield 141, 3) := by decide +kernel
theorem dX9_breath_40 : decode cX9_breath 40 = .ok (.invokevirtual 201, 3) := by decide +kernel
theorem dX9_breath_43 : decode cX9_breath 43 = .ok (.aload_n 0, 1) := by decide +kernel
theorem dX9_breath_44 : decode cX9_breath 44 = .ok (.getfield 39, 3) := by decide +kernel
theorem dX9_breath_47 : decode cX9_breath 47 = .ok (.iload_n 2, 1) := by decide +kernel
theorem dX9_breath_48 : decode cX9_breath 48 = .ok (.invokevirtual 204, 3) := by decide +kernel
theorem dX9_breath_51 : decode cX9_breath 51 = .ok (.pop, 1) := by decide +kernel
theorem dX9_breath_52 : decode cX9_breath 52 = .ok (.iload_n 3, 1) := by decide +kernel
theorem dX9_breath_53 : decode cX9_breath 53 = .ok (.ifCond .ne 13, 3) := by decide +kernel
theorem dX9_breath_56 : decode cX9_breath 56 = .ok (.aload_n 0, 1) := by decide +kernel
theorem dX9_breath_57 : decode cX9_breath 57 = .ok (.getfield 39, 3) := by decide +kernel
theorem dX9_breath_60 : decode cX9_breath 60 = .ok (.invokevirtual 207, 3) := by decide +kernel
theorem dX9_breath_63 : decode cX9_breath 63 = .ok (.goto 10, 3) := by decide +kernel
theorem dX9_breath_66 : decode cX9_breath 66 = .ok (.aload_n 0, 1) := by decide +kernel
theorem dX9_breath_67 : decode cX9_breath 67 = .ok (.getfield 39, 3) := by decide +kernel
theorem dX9_breath_70 : decode cX9_breath 70 = .ok (.getfield 144, 3) := by decide +kernel
theorem dX9_breath_73 : decode cX9_breath 73 = .ok (.ireturn, 1) := by decide +kernel
theorem dX9_clear_0 : decode cX9_clear 0 = .ok (.aload_n 0, 1) := by decide +kernel
theorem dX9_clear_1 : decode cX9_clear 1 = .ok (.iload_n 1, 1) := by decide +kernel
theorem dX9_clear_2 : decode cX9_clear 2 = .ok (.invokevirtual 137, 3) := by decide +kernel
theorem dX9_clear_5 : decode cX9_clear 5 = .ok (.astore_n 3, 1) := by decide +kernel
theorem dX9_clear_6 : decode cX9_clear 6 = .ok (.aload_n 3, 1) := by decide +kernel
theorem dX9_clear_7 : decode cX9_clear 7 = .ok (.ifnull 10, 3) := by decide +kernel
theorem dX9_clear_10 : decode cX9_clear 10 = .ok (.iload_n 2, 1) := by decide +kernel
theorem dX9_clear_11 : decode cX9_clear 11 = .ok (.invokestatic 210, 3) := by decide +kernel
theorem dX9_clear_14 : decode cX9_clear 14 = .ok (.ifCond .ne 5, 3) := by decide +kernel
theorem dX9_clear_17 : decode cX9_clear 17 = .ok (.iconst (-1), 1) := by decide +kernel
theorem dX9_clear_18 : decode cX9_clear 18 = .ok (.ireturn, 1) := by decide +kernel
theorem dX9_clear_19 : decode cX9_clear 19 = .ok (.aload_n 3, 1) := by decide +kernel
theorem dX9_clear_20 : decode cX9_clear 20 = .ok (.getfield 141, 3) := by decide +kernel
theorem dX9_clear_23 : decode cX9_clear 23 = .ok (.aload_n 3, 1) := by decide +kernel
theorem dX9_clear_24 : decode cX9_clear 24 = .ok (.getfield 141, 3) := by decide +kernel
theorem dX9_clear_27 : decode cX9_clear 27 = .ok (.iload_n 2, 1) := by decide +kernel
theorem dX9_clear_28 : decode cX9_clear 28 = .ok (.iconst 0, 1) := by decide +kernel
theorem dX9_clear_29 : decode cX9_clear 29 = .ok (.invokevirtual 213, 3) := by decide +kernel
theorem dX9_clear_32 : decode cX9_clear 32 = .ok (.invokevirtual 216, 3) := by decide +kernel
theorem dX9_clear_35 : decode cX9_clear 35 = .ok (.ireturn, 1) := by decide +kernel
theorem dX9_touch_0 : decode cX9_touch 0 = .ok (.aload_n 0, 1) := by decide +kernel
theorem dX9_touch_1 : decode cX9_touch 1 = .ok (.iload_n 1, 1) := by decide +kernel
theorem dX9_touch_2 : decode cX9_touch 2 = .ok (.invokevirtual 137, 3) := by decide +kernel
theorem dX9_touch_5 : decode cX9_touch 5 = .ok (.astore 4, 2) := by decide +kernel
theorem dX9_touch_7 : decode cX9_touch 7 = .ok (.aload 4, 2) := by decide +kernel
theorem dX9_touch_9 : decode cX9_touch 9 = .ok (.ifnull 19, 3) := by decide +kernel
theorem dX9_touch_12 : decode cX9_touch 12 = .ok (.iload_n 2, 1) := by decide +kernel
theorem dX9_touch_13 : decode cX9_touch 13 = .ok (.invokestatic 210, 3) := by decide +kernel
theorem dX9_touch_16 : decode cX9_touch 16 = .ok (.ifCond .eq 12, 3) := by decide +kernel
theorem dX9_touch_19 : decode cX9_touch 19 = .ok (.iload_n 3, 1) := by decide +kernel
theorem dX9_touch_20 : decode cX9_touch 20 = .ok (.bipush 9, 2) := by decide +kernel
theorem dX9_touch_22 : decode cX9_touch 22 = .ok (.invokestatic 90, 3) := by decide +kernel
theorem dX9_touch_25 : decode cX9_touch 25 = .ok (.ifCond .ne 5, 3) := by decide +kernel
theorem dX9_touch_28 : decode cX9_touch 28 = .ok (.iconst (-1), 1) := by decide +kernel
theorem dX9_touch_29 : decode cX9_touch 29 = .ok (.ireturn, 1) := by decide +kernel
theorem dX9_touch_30 : decode cX9_touch 30 = .ok (.aload_n 0, 1) := by decide +kernel
theorem dX9_touch_31 : decode cX9_touch 31 = .ok (.getfield 39, 3) := by decide +kernel
theorem dX9_touch_34 : decode cX9_touch 34 = .ok (.aload 4, 2) := by decide +kernel
theorem dX9_touch_36 : decode cX9_touch 36 = .ok (.getfield 141, 3) := by decide +kernel
theorem dX9_touch_39 : decode cX9_touch 39 = .ok (.invokevirtual 201, 3) := by decide +kernel
theorem dX9_touch_42 : decode cX9_touch 42 = .ok (.iconst 0, 1) := by decide +kernel
theorem dX9_touch_43 : decode cX9_touch 43 = .ok (.istore 5, 2) := by decide +kernel
theorem dX9_touch_45 : decode cX9_touch 45 = .ok (.iload 5, 2) := by decide +kernel
theorem dX9_touch_47 : decode cX9_touch 47 = .ok (.bipush 60, 2) := by decide +kernel
theorem dX9_touch_49 : decode cX9_touch 49 = .ok (.if_icmp .gt 35, 3) := by decide +kernel
theorem dX9_touch_52 : decode cX9_touch 52 = .ok (.aload_n 0, 1) := by decide +kernel
theorem dX9_touch_53 : decode cX9_touch 53 = .ok (.getfield 39, 3) := by decide +kernel
theorem dX9_touch_56 : decode cX9_touch 56 = .ok (.invokevirtual 195, 3) := by decide +kernel
theorem dX9_touch_59 : decode cX9_touch 59 = .ok (.iload_n 2, 1) := by decide +kernel
theorem dX9_touch_60 : decode cX9_touch 60 = .ok (.if_icmp .ne 6, 3) := by decide +kernel
theorem dX9_touch_63 : decode cX9_touch 63 = .ok (.iload 5, 2) := by decide +kernel
theorem dX9_touch_65 : decode cX9_touch 65 = .ok (.ireturn, 1) := by decide +kernel
theorem dX9_touch_66 : decode cX9_touch 66 = .ok (.aload 4, 2) := by decide +kernel
theorem dX9_touch_68 : decode cX9_touch 68 = .ok (.aload_n 0, 1) := by decide +kernel
theorem dX9_touch_69 : decode cX9_touch 69 = .ok (.getfield 39, 3) := by decide +kernel
theorem dX9_touch_72 : decode cX9_touch 72 = .ok (.iload_n 2, 1) := by decide +kernel
theorem dX9_touch_73 : decode cX9_touch 73 = .ok (.iload_n 3, 1) := by decide +kernel
theorem dX9_touch_74 : decode cX9_touch 74 = .ok (.invokevirtual 219, 3) := by decide +kernel
theorem dX9_touch_77 : decode cX9_touch 77 = .ok (.pop, 1) := by decide +kernel
theorem dX9_touch_78 : decode cX9_touch 78 = .ok (.iinc 5 1, 3) := by decide +kernel
theorem dX9_touch_81 : decode cX9_touch 81 = .ok (.goto (-36), 3) := by decide +kernel
theorem dX9_touch_84 : decode cX9_touch 84 = .ok (.bipush (-2), 2) := by decide +kernel
theorem dX9_touch_86 : decode cX9_touch 86 = .ok (.ireturn, 1) := by decide +kernel
theorem dX9_tellsOf_0 : decode cX9_tellsOf 0 = .ok (.iload_n 1, 1) := by decide +kernel
theorem dX9_tellsOf_1 : decode cX9_tellsOf 1 = .ok (.invokestatic 210, 3) := by decide +kernel
theorem dX9_tellsOf_4 : decode cX9_tellsOf 4 = .ok (.ifCond .eq 13, 3) := by decide +kernel
theorem dX9_tellsOf_7 : decode cX9_tellsOf 7 = .ok (.aload_n 0, 1) := by decide +kernel
theorem dX9_tellsOf_8 : decode cX9_tellsOf 8 = .ok (.iconst 1, 1) := by decide +kernel
theorem dX9_tellsOf_9 : decode cX9_tellsOf 9 = .ok (.iload_n 1, 1) := by decide +kernel
theorem dX9_tellsOf_10 : decode cX9_tellsOf 10 = .ok (.ishl, 1) := by decide +kernel
theorem dX9_tellsOf_11 : decode cX9_tellsOf 11 = .ok (.invokevirtual 223, 3) := by decide +kernel
theorem dX9_tellsOf_14 : decode cX9_tellsOf 14 = .ok (.goto 4, 3) := by decide +kernel
theorem dX9_tellsOf_17 : decode cX9_tellsOf 17 = .ok (.iconst (-1), 1) := by decide +kernel
theorem dX9_tellsOf_18 : decode cX9_tellsOf 18 = .ok (.ireturn, 1) := by decide +kernel
theorem dX9_fewest_0 : decode cX9_fewest 0 = .ok (.iload_n 1, 1) := by decide +kernel
theorem dX9_fewest_1 : decode cX9_fewest 1 = .ok (.bipush 63, 2) := by decide +kernel
theorem dX9_fewest_3 : decode cX9_fewest 3 = .ok (.invokestatic 90, 3) := by decide +kernel
theorem dX9_fewest_6 : decode cX9_fewest 6 = .ok (.ifCond .eq 11, 3) := by decide +kernel
theorem dX9_fewest_9 : decode cX9_fewest 9 = .ok (.iload_n 2, 1) := by decide +kernel
theorem dX9_fewest_10 : decode cX9_fewest 10 = .ok (.iconst 2, 1) := by decide +kernel
theorem dX9_fewest_11 : decode cX9_fewest 11 = .ok (.invokestatic 90, 3) := by decide +kernel
theorem dX9_fewest_14 : decode cX9_fewest 14 = .ok (.ifCond .ne 5, 3) := by decide +kernel
theorem dX9_fewest_17 : decode cX9_fewest 17 = .ok (.iconst (-1), 1) := by decide +kernel
theorem dX9_fewest_18 : decode cX9_fewest 18 = .ok (.ireturn, 1) := by decide +kernel
theorem dX9_fewest_19 : decode cX9_fewest 19 = .ok (.iload_n 2, 1) := by decide +kernel
theorem dX9_fewest_20 : decode cX9_fewest 20 = .ok (.iconst 2, 1) := by decide +kernel
theorem dX9_fewest_21 : decode cX9_fewest 21 = .ok (.if_icmp .ne 9, 3) := by decide +kernel
theorem dX9_fewest_24 : decode cX9_fewest 24 = .ok (.aload_n 0, 1) := by decide +kernel
theorem dX9_fewest_25 : decode cX9_fewest 25 = .ok (.iload_n 1, 1) := by decide +kernel
theorem dX9_fewest_26 : decode cX9_fewest 26 = .ok (.invokevirtual 223, 3) := by decide +kernel
theorem dX9_fewest_29 : decode cX9_fewest 29 = .ok (.ireturn, 1) := by decide +kernel
theorem dX9_fewest_30 : decode cX9_fewest 30 = .ok (.aload_n 0, 1) := by decide +kernel
theorem dX9_fewest_31 : decode cX9_fewest 31 = .ok (.iload_n 1, 1) := by decide +kernel
theorem dX9_fewest_32 : decode cX9_fewest 32 = .ok (.invokevirtual 226, 3) := by decide +kernel
theorem dX9_fewest_35 : decode cX9_fewest 35 = .ok (.istore_n 3, 1) := by decide +kernel
theorem dX9_fewest_36 : decode cX9_fewest 36 = .ok (.iload_n 2, 1) := by decide +kernel
theorem dX9_fewest_37 : decode cX9_fewest 37 = .ok (.ifCond .ne 14, 3) := by decide +kernel
theorem dX9_fewest_40 : decode cX9_fewest 40 = .ok (.iload_n 3, 1) := by decide +kernel
theorem dX9_fewest_41 : decode cX9_fewest 41 = .ok (.ifCond .lt 10, 3) := by decide +kernel
theorem dX9_fewest_44 : decode cX9_fewest 44 = .ok (.iload_n 3, 1) := by decide +kernel
theorem dX9_fewest_45 : decode cX9_fewest 45 = .ok (.invokestatic 229, 3) := by decide +kernel
theorem dX9_fewest_48 : decode cX9_fewest 48 = .ok (.goto 4, 3) := by decide +kernel
theorem dX9_fewest_51 : decode cX9_fewest 51 = .ok (.iload_n 3, 1) := by decide +kernel
theorem dX9_fewest_52 : decode cX9_fewest 52 = .ok (.ireturn, 1) := by decide +kernel
theorem dX9_corner_0 : decode cX9_corner 0 = .ok (.bipush (-2), 2) := by decide +kernel
theorem dX9_corner_2 : decode cX9_corner 2 = .ok (.istore_n 1, 1) := by decide +kernel
theorem dX9_corner_3 : decode cX9_corner 3 = .ok (.iconst (-1), 1) := by decide +kernel
theorem dX9_corner_4 : decode cX9_corner 4 = .ok (.istore_n 2, 1) := by decide +kernel
theorem dX9_corner_5 : decode cX9_corner 5 = .ok (.iconst 0, 1) := by decide +kernel
theorem dX9_corner_6 : decode cX9_corner 6 = .ok (.istore_n 3, 1) := by decide +kernel
theorem dX9_corner_7 : decode cX9_corner 7 = .ok (.iload_n 3, 1) := by decide +kernel
theorem dX9_corner_8 : decode cX9_corner 8 = .ok (.aload_n 0, 1) := by decide +kernel
theorem dX9_corner_9 : decode cX9_corner 9 = .ok (.getfield 94, 3) := by decide +kernel
theorem dX9_corner_12 : decode cX9_corner 12 = .ok (.if_icmp .ge 37, 3) := by decide +kernel
theorem dX9_corner_15 : decode cX9_corner 15 = .ok (.aload_n 0, 1) := by decide +kernel
theorem dX9_corner_16 : decode cX9_corner 16 = .ok (.getfield 11, 3) := by decide +kernel
theorem dX9_corner_19 : decode cX9_corner 19 = .ok (.iload_n 3, 1) := by decide +kernel
theorem dX9_corner_20 : decode cX9_corner 20 = .ok (.aaload, 1) := by decide +kernel
theorem dX9_corner_21 : decode cX9_corner 21 = .ok (.getfield 141, 3) := by decide +kernel
theorem dX9_corner_24 : decode cX9_corner 24 = .ok (.invokevirtual 192, 3) := by decide +kernel
theorem dX9_corner_27 : decode cX9_corner 27 = .ok (.invokestatic 229, 3) := by decide +kernel
theorem dX9_corner_30 : decode cX9_corner 30 = .ok (.istore 4, 2) := by decide +kernel
theorem dX9_corner_32 : decode cX9_corner 32 = .ok (.iload 4, 2) := by decide +kernel
theorem dX9_corner_34 : decode cX9_corner 34 = .ok (.iload_n 2, 1) := by decide +kernel
theorem dX9_corner_35 : decode cX9_corner 35 = .ok (.if_icmp .le 8, 3) := by decide +kernel
theorem dX9_corner_38 : decode cX9_corner 38 = .ok (.iload_n 3, 1) := by decide +kernel
theorem dX9_corner_39 : decode cX9_corner 39 = .ok (.istore_n 1, 1) := by decide +kernel
theorem dX9_corner_40 : decode cX9_corner 40 = .ok (.iload 4, 2) := by decide +kernel
theorem dX9_corner_42 : decode cX9_corner 42 = .ok (.istore_n 2, 1) := by decide +kernel
theorem dX9_corner_43 : decode cX9_corner 43 = .ok (.iinc 3 1, 3) := by decide +kernel
theorem dX9_corner_46 : decode cX9_corner 46 = .ok (.goto (-39), 3) := by decide +kernel
theorem dX9_corner_49 : decode cX9_corner 49 = .ok (.iload_n 1, 1) := by decide +kernel
theorem dX9_corner_50 : decode cX9_corner 50 = .ok (.ireturn, 1) := by decide +kernel
theorem dX9_ways_0 : decode cX9_ways 0 = .ok (.aload_n 0, 1) := by decide +kernel
theorem dX9_ways_1 : decode cX9_ways 1 = .ok (.iload_n 1, 1) := by decide +kernel
theorem dX9_ways_2 : decode cX9_ways 2 = .ok (.invokevirtual 137, 3) := by decide +kernel
theorem dX9_ways_5 : decode cX9_ways 5 = .ok (.astore_n 3, 1) := by decide +kernel
theorem dX9_ways_6 : decode cX9_ways 6 = .ok (.aload_n 3, 1) := by decide +kernel
theorem dX9_ways_7 : decode cX9_ways 7 = .ok (.ifnull 12, 3) := by decide +kernel
theorem dX9_ways_10 : decode cX9_ways 10 = .ok (.iload_n 2, 1) := by decide +kernel
theorem dX9_ways_11 : decode cX9_ways 11 = .ok (.bipush 9, 2) := by decide +kernel
theorem dX9_ways_13 : decode cX9_ways 13 = .ok (.invokestatic 90, 3) := by decide +kernel
theorem dX9_ways_16 : decode cX9_ways 16 = .ok (.ifCond .ne 7, 3) := by decide +kernel
theorem dX9_ways_19 : decode cX9_ways 19 = .ok (.ldc2_w 234, 3) := by decide +kernel
theorem dX9_ways_22 : decode cX9_ways 22 = .ok (.lreturn, 1) := by decide +kernel
theorem dX9_ways_23 : decode cX9_ways 23 = .ok (.aload_n 0, 1) := by decide +kernel
theorem dX9_ways_24 : decode cX9_ways 24 = .ok (.getfield 46, 3) := by decide +kernel
theorem dX9_ways_27 : decode cX9_ways 27 = .ok (.aload_n 3, 1) := by decide +kernel
theorem dX9_ways_28 : decode cX9_ways 28 = .ok (.iload_n 2, 1) := by decide +kernel
theorem dX9_ways_29 : decode cX9_ways 29 = .ok (.iconst (-1), 1) := by decide +kernel
theorem dX9_ways_30 : decode cX9_ways 30 = .ok (.invokevirtual 236, 3) := by decide +kernel
theorem dX9_ways_33 : decode cX9_ways 33 = .ok (.aload_n 0, 1) := by decide +kernel
theorem dX9_ways_34 : decode cX9_ways 34 = .ok (.getfield 46, 3) := by decide +kernel
theorem dX9_ways_37 : decode cX9_ways 37 = .ok (.iload_n 2, 1) := by decide +kernel
theorem dX9_ways_38 : decode cX9_ways 38 = .ok (.invokevirtual 240, 3) := by decide +kernel
theorem dX9_ways_41 : decode cX9_ways 41 = .ok (.lreturn, 1) := by decide +kernel
theorem dX9_first_0 : decode cX9_first 0 = .ok (.aload_n 0, 1) := by decide +kernel
theorem dX9_first_1 : decode cX9_first 1 = .ok (.iload_n 1, 1) := by decide +kernel
theorem dX9_first_2 : decode cX9_first 2 = .ok (.invokevirtual 137, 3) := by decide +kernel
theorem dX9_first_5 : decode cX9_first 5 = .ok (.astore 4, 2) := by decide +kernel
theorem dX9_first_7 : decode cX9_first 7 = .ok (.aload 4, 2) := by decide +kernel
theorem dX9_first_9 : decode cX9_first 9 = .ok (.ifnull 16, 3) := by decide +kernel
theorem dX9_first_12 : decode cX9_first 12 = .ok (.iload_n 2, 1) := by decide +kernel
theorem dX9_first_13 : decode cX9_first 13 = .ok (.bipush 9, 2) := by decide +kernel
theorem dX9_first_15 : decode cX9_first 15 = .ok (.invokestatic 90, 3) := by decide +kernel
theorem dX9_first_18 : decode cX9_first 18 = .ok (.ifCond .eq 7, 3) := by decide +kernel
theorem dX9_first_21 : decode cX9_first 21 = .ok (.iload_n 3, 1) := by decide +kernel
theorem dX9_first_22 : decode cX9_first 22 = .ok (.ifCond .ge 5, 3) := by decide +kernel
theorem dX9_first_25 : decode cX9_first 25 = .ok (.iconst (-1), 1) := by decide +kernel
theorem dX9_first_26 : decode cX9_first 26 = .ok (.ireturn, 1) := by decide +kernel
theorem dX9_first_27 : decode cX9_first 27 = .ok (.iload_n 3, 1) := by decide +kernel
theorem dX9_first_28 : decode cX9_first 28 = .ok (.iload_n 2, 1) := by decide +kernel
theorem dX9_first_29 : decode cX9_first 29 = .ok (.if_icmp .lt 6, 3) := by decide +kernel
theorem dX9_first_32 : decode cX9_first 32 = .ok (.bipush (-2), 2) := by decide +kernel
theorem dX9_first_34 : decode cX9_first 34 = .ok (.ireturn, 1) := by decide +kernel
theorem dX9_first_35 : decode cX9_first 35 = .ok (.aload_n 0, 1) := by decide +kernel
theorem dX9_first_36 : decode cX9_first 36 = .ok (.getfield 46, 3) := by decide +kernel
theorem dX9_first_39 : decode cX9_first 39 = .ok (.aload 4, 2) := by decide +kernel
theorem dX9_first_41 : decode cX9_first 41 = .ok (.iload_n 2, 1) := by decide +kernel
theorem dX9_first_42 : decode cX9_first 42 = .ok (.iconst (-1), 1) := by decide +kernel
theorem dX9_first_43 : decode cX9_first 43 = .ok (.invokevirtual 236, 3) := by decide +kernel
theorem dX9_first_46 : decode cX9_first 46 = .ok (.iconst 0, 1) := by decide +kernel
theorem dX9_first_47 : decode cX9_first 47 = .ok (.istore 5, 2) := by decide +kernel
theorem dX9_first_49 : decode cX9_first 49 = .ok (.bipush (-2), 2) := by decide +kernel
theorem dX9_first_51 : decode cX9_first 51 = .ok (.istore 6, 2) := by decide +kernel
theorem dX9_first_53 : decode cX9_first 53 = .ok (.iconst 0, 1) := by decide +kernel
theorem dX9_first_54 : decode cX9_first 54 = .ok (.istore 7, 2) := by decide +kernel
theorem dX9_first_56 : decode cX9_first 56 = .ok (.iload 7, 2) := by decide +kernel
theorem dX9_first_58 : decode cX9_first 58 = .ok (.iload_n 3, 1) := by decide +kernel
theorem dX9_first_59 : decode cX9_first 59 = .ok (.if_icmp .gt 58, 3) := by decide +kernel
theorem dX9_first_62 : decode cX9_first 62 = .ok (.iload 5, 2) := by decide +kernel
theorem dX9_first_64 : decode cX9_first 64 = .ok (.ifCond .lt 53, 3) := by decide +kernel
theorem dX9_first_67 : decode cX9_first 67 = .ok (.aload_n 0, 1) := by decide +kernel
theorem dX9_first_68 : decode cX9_first 68 = .ok (.getfield 46, 3) := by decide +kernel
theorem dX9_first_71 : decode cX9_first 71 = .ok (.aload 4, 2) := by decide +kernel
theorem dX9_first_73 : decode cX9_first 73 = .ok (.iload 5, 2) := by decide +kernel
theorem dX9_first_75 : decode cX9_first 75 = .ok (.iload_n 2, 1) := by decide +kernel
theorem dX9_first_76 : decode cX9_first 76 = .ok (.iconst 1, 1) := by decide +kernel
theorem dX9_first_77 : decode cX9_first 77 = .ok (.isub, 1) := by decide +kernel
theorem dX9_first_78 : decode cX9_first 78 = .ok (.iload 7, 2) := by decide +kernel
theorem dX9_first_80 : decode cX9_first 80 = .ok (.isub, 1) := by decide +kernel
theorem dX9_first_81 : decode cX9_first 81 = .ok (.invokevirtual 244, 3) := by decide +kernel
theorem dX9_first_84 : decode cX9_first 84 = .ok (.istore 6, 2) := by decide +kernel
theorem dX9_first_86 : decode cX9_first 86 = .ok (.iload 6, 2) := by decide +kernel
theorem dX9_first_88 : decode cX9_first 88 = .ok (.ifCond .ge 8, 3) := by decide +kernel
theorem dX9_first_91 : decode cX9_first 91 = .ok (.bipush (-2), 2) := by decide +kernel
theorem dX9_first_93 : decode cX9_first 93 = .ok (.goto 16, 3) := by decide +kernel
theorem dX9_first_96 : decode cX9_first 96 = .ok (.aload_n 0, 1) := by decide +kernel
theorem dX9_first_97 : decode cX9_first 97 = .ok (.getfield 46, 3) := by decide +kernel
theorem dX9_first_100 : decode cX9_first 100 = .ok (.aload 4, 2) := by decide +kernel
theorem dX9_first_102 : decode cX9_first 102 = .ok (.iload 5, 2) := by decide +kernel
theorem dX9_first_104 : decode cX9_first 104 = .ok (.iload 6, 2) := by decide +kernel
theorem dX9_first_106 : decode cX9_first 106 = .ok (.invokevirtual 248, 3) := by decide +kernel
theorem dX9_first_109 : decode cX9_first 109 = .ok (.istore 5, 2) := by decide +kernel
theorem dX9_first_111 : decode cX9_first 111 = .ok (.iinc 7 1, 3) := by decide +kernel
theorem dX9_first_114 : decode cX9_first 114 = .ok (.goto (-58), 3) := by decide +kernel
theorem dX9_first_117 : decode cX9_first 117 = .ok (.iload 6, 2) := by decide +kernel
theorem dX9_first_119 : decode cX9_first 119 = .ok (.ireturn, 1) := by decide +kernel
theorem dX9_least_0 : decode cX9_least 0 = .ok (.aload_n 0, 1) := by decide +kernel
theorem dX9_least_1 : decode cX9_least 1 = .ok (.iload_n 1, 1) := by decide +kernel
theorem dX9_least_2 : decode cX9_least 2 = .ok (.invokevirtual 137, 3) := by decide +kernel
theorem dX9_least_5 : decode cX9_least 5 = .ok (.astore_n 2, 1) := by decide +kernel
theorem dX9_least_6 : decode cX9_least 6 = .ok (.aload_n 2, 1) := by decide +kernel
theorem dX9_least_7 : decode cX9_least 7 = .ok (.ifnonnull 5, 3) := by decide +kernel
theorem dX9_least_10 : decode cX9_least 10 = .ok (.iconst (-1), 1) := by decide +kernel
theorem dX9_least_11 : decode cX9_least 11 = .ok (.ireturn, 1) := by decide +kernel
theorem dX9_least_12 : decode cX9_least 12 = .ok (.aload_n 0, 1) := by decide +kernel
theorem dX9_least_13 : decode cX9_least 13 = .ok (.getfield 46, 3) := by decide +kernel
theorem dX9_least_16 : decode cX9_least 16 = .ok (.aload_n 2, 1) := by decide +kernel
theorem dX9_least_17 : decode cX9_least 17 = .ok (.bipush 9, 2) := by decide +kernel
theorem dX9_least_19 : decode cX9_least 19 = .ok (.iconst (-1), 1) := by decide +kernel
theorem dX9_least_20 : decode cX9_least 20 = .ok (.invokevirtual 236, 3) := by decide +kernel
theorem dX9_least_23 : decode cX9_least 23 = .ok (.iconst 0, 1) := by decide +kernel
theorem dX9_least_24 : decode cX9_least 24 = .ok (.istore_n 3, 1) := by decide +kernel
theorem dX9_least_25 : decode cX9_least 25 = .ok (.iload_n 3, 1) := by decide +kernel
theorem dX9_least_26 : decode cX9_least 26 = .ok (.bipush 9, 2) := by decide +kernel
theorem dX9_least_28 : decode cX9_least 28 = .ok (.if_icmp .gt 24, 3) := by decide +kernel
theorem dX9_least_31 : decode cX9_least 31 = .ok (.aload_n 0, 1) := by decide +kernel
theorem dX9_least_32 : decode cX9_least 32 = .ok (.getfield 46, 3) := by decide +kernel
theorem dX9_least_35 : decode cX9_least 35 = .ok (.iload_n 3, 1) := by decide +kernel
theorem dX9_least_36 : decode cX9_least 36 = .ok (.invokevirtual 240, 3) := by decide +kernel
theorem dX9_least_39 : decode cX9_least 39 = .ok (.lconst 0, 1) := by decide +kernel
theorem dX9_least_40 : decode cX9_least 40 = .ok (.lcmp, 1) := by decide +kernel
theorem dX9_least_41 : decode cX9_least 41 = .ok (.ifCond .le 5, 3) := by decide +kernel
theorem dX9_least_44 : decode cX9_least 44 = .ok (.iload_n 3, 1) := by decide +kernel
theorem dX9_least_45 : decode cX9_least 45 = .ok (.ireturn, 1) := by decide +kernel
theorem dX9_least_46 : decode cX9_least 46 = .ok (.iinc 3 1, 3) := by decide +kernel
theorem dX9_least_49 : decode cX9_least 49 = .ok (.goto (-24), 3) := by decide +kernel
theorem dX9_least_52 : decode cX9_least 52 = .ok (.bipush (-2), 2) := by decide +kernel
theorem dX9_least_54 : decode cX9_least 54 = .ok (.ireturn, 1) := by decide +kernel
theorem dX9_certain_0 : decode cX9_certain 0 = .ok (.aload_n 0, 1) := by decide +kernel
theorem dX9_certain_1 : decode cX9_certain 1 = .ok (.iload_n 1, 1) := by decide +kernel
theorem dX9_certain_2 : decode cX9_certain 2 = .ok (.invokevirtual 137, 3) := by decide +kernel
theorem dX9_certain_5 : decode cX9_certain 5 = .ok (.astore_n 3, 1) := by decide +kernel
theorem dX9_certain_6 : decode cX9_certain 6 = .ok (.aload_n 3, 1) := by decide +kernel
theorem dX9_certain_7 : decode cX9_certain 7 = .ok (.ifnull 12, 3) := by decide +kernel
theorem dX9_certain_10 : decode cX9_certain 10 = .ok (.iload_n 2, 1) := by decide +kernel
theorem dX9_certain_11 : decode cX9_certain 11 = .ok (.bipush 9, 2) := by decide +kernel
theorem dX9_certain_13 : decode cX9_certain 13 = .ok (.invokestatic 90, 3) := by decide +kernel
theorem dX9_certain_16 : decode cX9_certain 16 = .ok (.ifCond .ne 5, 3) := by decide +kernel
theorem dX9_certain_19 : decode cX9_certain 19 = .ok (.iconst (-1), 1) := by decide +kernel
theorem dX9_certain_20 : decode cX9_certain 20 = .ok (.ireturn, 1) := by decide +kernel
theorem dX9_certain_21 : decode cX9_certain 21 = .ok (.aload_n 0, 1) := by decide +kernel
theorem dX9_certain_22 : decode cX9_certain 22 = .ok (.getfield 46, 3) := by decide +kernel
theorem dX9_certain_25 : decode cX9_certain 25 = .ok (.aload_n 3, 1) := by decide +kernel
theorem dX9_certain_26 : decode cX9_certain 26 = .ok (.iload_n 2, 1) := by decide +kernel
theorem dX9_certain_27 : decode cX9_certain 27 = .ok (.iconst (-1), 1) := by decide +kernel
theorem dX9_certain_28 : decode cX9_certain 28 = .ok (.invokevirtual 236, 3) := by decide +kernel
theorem dX9_certain_31 : decode cX9_certain 31 = .ok (.aload_n 0, 1) := by decide +kernel
theorem dX9_certain_32 : decode cX9_certain 32 = .ok (.getfield 46, 3) := by decide +kernel
theorem dX9_certain_35 : decode cX9_certain 35 = .ok (.iload_n 2, 1) := by decide +kernel
theorem dX9_certain_36 : decode cX9_certain 36 = .ok (.invokevirtual 240, 3) := by decide +kernel
theorem dX9_certain_39 : decode cX9_certain 39 = .ok (.lconst 0, 1) := by decide +kernel
theorem dX9_certain_40 : decode cX9_certain 40 = .ok (.lcmp, 1) := by decide +kernel
theorem dX9_certain_41 : decode cX9_certain 41 = .ok (.ifCond .ne 5, 3) := by decide +kernel
theorem dX9_certain_44 : decode cX9_certain 44 = .ok (.iconst 0, 1) := by decide +kernel
theorem dX9_certain_45 : decode cX9_certain 45 = .ok (.ireturn, 1) := by decide +kernel
theorem dX9_certain_46 : decode cX9_certain 46 = .ok (.aload_n 3, 1) := by decide +kernel
theorem dX9_certain_47 : decode cX9_certain 47 = .ok (.getfield 141, 3) := by decide +kernel
theorem dX9_certain_50 : decode cX9_certain 50 = .ok (.invokevirtual 192, 3) := by decide +kernel
theorem dX9_certain_53 : decode cX9_certain 53 = .ok (.istore 4, 2) := by decide +kernel
theorem dX9_certain_55 : decode cX9_certain 55 = .ok (.iconst 0, 1) := by decide +kernel
theorem dX9_certain_56 : decode cX9_certain 56 = .ok (.istore 5, 2) := by decide +kernel
theorem dX9_certain_58 : decode cX9_certain 58 = .ok (.iload 5, 2) := by decide +kernel
theorem dX9_certain_60 : decode cX9_certain 60 = .ok (.bipush 6, 2) := by decide +kernel
theorem dX9_certain_62 : decode cX9_certain 62 = .ok (.if_icmp .ge 52, 3) := by decide +kernel
theorem dX9_certain_65 : decode cX9_certain 65 = .ok (.iload 4, 2) := by decide +kernel
theorem dX9_certain_67 : decode cX9_certain 67 = .ok (.iload 5, 2) := by decide +kernel
theorem dX9_certain_69 : decode cX9_certain 69 = .ok (.ishr, 1) := by decide +kernel
theorem dX9_certain_70 : decode cX9_certain 70 = .ok (.iconst 1, 1) := by decide +kernel
theorem dX9_certain_71 : decode cX9_certain 71 = .ok (.iand, 1) := by decide +kernel
theorem dX9_certain_72 : decode cX9_certain 72 = .ok (.ifCond .ne 36, 3) := by decide +kernel
theorem dX9_certain_75 : decode cX9_certain 75 = .ok (.aload_n 0, 1) := by decide +kernel
theorem dX9_certain_76 : decode cX9_certain 76 = .ok (.getfield 46, 3) := by decide +kernel
theorem dX9_certain_79 : decode cX9_certain 79 = .ok (.aload_n 3, 1) := by decide +kernel
theorem dX9_certain_80 : decode cX9_certain 80 = .ok (.iload_n 2, 1) := by decide +kernel
theorem dX9_certain_81 : decode cX9_certain 81 = .ok (.iload 5, 2) := by decide +kernel
theorem dX9_certain_83 : decode cX9_certain 83 = .ok (.invokevirtual 236, 3) := by decide +kernel
theorem dX9_certain_86 : decode cX9_certain 86 = .ok (.aload_n 0, 1) := by decide +kernel
theorem dX9_certain_87 : decode cX9_certain 87 = .ok (.getfield 46, 3) := by decide +kernel
theorem dX9_certain_90 : decode cX9_certain 90 = .ok (.iload_n 2, 1) := by decide +kernel
theorem dX9_certain_91 : decode cX9_certain 91 = .ok (.invokevirtual 240, 3) := by decide +kernel
theorem dX9_certain_94 : decode cX9_certain 94 = .ok (.lconst 0, 1) := by decide +kernel
theorem dX9_certain_95 : decode cX9_certain 95 = .ok (.lcmp, 1) := by decide +kernel
theorem dX9_certain_96 : decode cX9_certain 96 = .ok (.ifCond .ne 12, 3) := by decide +kernel
theorem dX9_certain_99 : decode cX9_certain 99 = .ok (.iload 4, 2) := by decide +kernel
theorem dX9_certain_101 : decode cX9_certain 101 = .ok (.iconst 1, 1) := by decide +kernel
theorem dX9_certain_102 : decode cX9_certain 102 = .ok (.iload 5, 2) := by decide +kernel
theorem dX9_certain_104 : decode cX9_certain 104 = .ok (.ishl, 1) := by decide +kernel
theorem dX9_certain_105 : decode cX9_certain 105 = .ok (.ior, 1) := by decide +kernel
theorem dX9_certain_106 : decode cX9_certain 106 = .ok (.istore 4, 2) := by decide +kernel
theorem dX9_certain_108 : decode cX9_certain 108 = .ok (.iinc 5 1, 3) := by decide +kernel
theorem dX9_certain_111 : decode cX9_certain 111 = .ok (.goto (-53), 3) := by decide +kernel
theorem dX9_certain_114 : decode cX9_certain 114 = .ok (.iload 4, 2) := by decide +kernel
theorem dX9_certain_116 : decode cX9_certain 116 = .ok (.ireturn, 1) := by decide +kernel
theorem dX9_alike_0 : decode cX9_alike 0 = .ok (.aload_n 0, 1) := by decide +kernel
theorem dX9_alike_1 : decode cX9_alike 1 = .ok (.iload_n 1, 1) := by decide +kernel
theorem dX9_alike_2 : decode cX9_alike 2 = .ok (.bipush 10, 2) := by decide +kernel
theorem dX9_alike_4 : decode cX9_alike 4 = .ok (.idiv, 1) := by decide +kernel
theorem dX9_alike_5 : decode cX9_alike 5 = .ok (.invokevirtual 137, 3) := by decide +kernel
theorem dX9_alike_8 : decode cX9_alike 8 = .ok (.astore_n 3, 1) := by decide +kernel
theorem dX9_alike_9 : decode cX9_alike 9 = .ok (.aload_n 0, 1) := by decide +kernel
theorem dX9_alike_10 : decode cX9_alike 10 = .ok (.iload_n 1, 1) := by decide +kernel
theorem dX9_alike_11 : decode cX9_alike 11 = .ok (.bipush 10, 2) := by decide +kernel
theorem dX9_alike_13 : decode cX9_alike 13 = .ok (.irem, 1) := by decide +kernel
theorem dX9_alike_14 : decode cX9_alike 14 = .ok (.invokevirtual 137, 3) := by decide +kernel
theorem dX9_alike_17 : decode cX9_alike 17 = .ok (.astore 4, 2) := by decide +kernel
theorem dX9_alike_19 : decode cX9_alike 19 = .ok (.aload_n 3, 1) := by decide +kernel
theorem dX9_alike_20 : decode cX9_alike 20 = .ok (.ifnull 13, 3) := by decide +kernel
theorem dX9_alike_23 : decode cX9_alike 23 = .ok (.aload 4, 2) := by decide +kernel
theorem dX9_alike_25 : decode cX9_alike 25 = .ok (.ifnull 8, 3) := by decide +kernel
theorem dX9_alike_28 : decode cX9_alike 28 = .ok (.iload_n 2, 1) := by decide +kernel
theorem dX9_alike_29 : decode cX9_alike 29 = .ok (.iconst (-1), 1) := by decide +kernel
theorem dX9_alike_30 : decode cX9_alike 30 = .ok (.if_icmp .ge 5, 3) := by decide +kernel
theorem dX9_alike_33 : decode cX9_alike 33 = .ok (.iconst (-1), 1) := by decide +kernel
theorem dX9_alike_34 : decode cX9_alike 34 = .ok (.ireturn, 1) := by decide +kernel
theorem dX9_alike_35 : decode cX9_alike 35 = .ok (.aload_n 0, 1) := by decide +kernel
theorem dX9_alike_36 : decode cX9_alike 36 = .ok (.aload_n 3, 1) := by decide +kernel
theorem dX9_alike_37 : decode cX9_alike 37 = .ok (.getfield 141, 3) := by decide +kernel
theorem dX9_alike_40 : decode cX9_alike 40 = .ok (.aload 4, 2) := by decide +kernel
theorem dX9_alike_42 : decode cX9_alike 42 = .ok (.getfield 141, 3) := by decide +kernel
theorem dX9_alike_45 : decode cX9_alike 45 = .ok (.invokevirtual 251, 3) := by decide +kernel
theorem dX9_alike_48 : decode cX9_alike 48 = .ok (.aload_n 0, 1) := by decide +kernel
theorem dX9_alike_49 : decode cX9_alike 49 = .ok (.iconst 0, 1) := by decide +kernel
theorem dX9_alike_50 : decode cX9_alike 50 = .ok (.iconst 0, 1) := by decide +kernel
theorem dX9_alike_51 : decode cX9_alike 51 = .ok (.invokevirtual 255, 3) := by decide +kernel
theorem dX9_alike_54 : decode cX9_alike 54 = .ok (.istore 5, 2) := by decide +kernel
theorem dX9_alike_56 : decode cX9_alike 56 = .ok (.iload_n 2, 1) := by decide +kernel
theorem dX9_alike_57 : decode cX9_alike 57 = .ok (.ifCond .ge 6, 3) := by decide +kernel
theorem dX9_alike_60 : decode cX9_alike 60 = .ok (.iload 5, 2) := by decide +kernel
theorem dX9_alike_62 : decode cX9_alike 62 = .ok (.ireturn, 1) := by decide +kernel
theorem dX9_alike_63 : decode cX9_alike 63 = .ok (.iload_n 2, 1) := by decide +kernel
theorem dX9_alike_64 : decode cX9_alike 64 = .ok (.iload 5, 2) := by decide +kernel
theorem dX9_alike_66 : decode cX9_alike 66 = .ok (.if_icmp .ge 20, 3) := by decide +kernel
theorem dX9_alike_69 : decode cX9_alike 69 = .ok (.aload_n 0, 1) := by decide +kernel
theorem dX9_alike_70 : decode cX9_alike 70 = .ok (.aload_n 3, 1) := by decide +kernel
theorem dX9_alike_71 : decode cX9_alike 71 = .ok (.getfield 141, 3) := by decide +kernel
theorem dX9_alike_74 : decode cX9_alike 74 = .ok (.aload 4, 2) := by decide +kernel
theorem dX9_alike_76 : decode cX9_alike 76 = .ok (.getfield 141, 3) := by decide +kernel
theorem dX9_alike_79 : decode cX9_alike 79 = .ok (.iload_n 2, 1) := by decide +kernel
theorem dX9_alike_80 : decode cX9_alike 80 = .ok (.invokevirtual 258, 3) := by decide +kernel
theorem dX9_alike_83 : decode cX9_alike 83 = .ok (.goto 5, 3) := by decide +kernel
theorem dX9_alike_86 : decode cX9_alike 86 = .ok (.bipush (-2), 2) := by decide +kernel
theorem dX9_alike_88 : decode cX9_alike 88 = .ok (.ireturn, 1) := by decide +kernel
theorem dX9_same_0 : decode cX9_same 0 = .ok (.aload_n 0, 1) := by decide +kernel
theorem dX9_same_1 : decode cX9_same 1 = .ok (.iload_n 1, 1) := by decide +kernel
theorem dX9_same_2 : decode cX9_same 2 = .ok (.bipush 10, 2) := by decide +kernel
theorem dX9_same_4 : decode cX9_same 4 = .ok (.idiv, 1) := by decide +kernel
theorem dX9_same_5 : decode cX9_same 5 = .ok (.invokevirtual 137, 3) := by decide +kernel
theorem dX9_same_8 : decode cX9_same 8 = .ok (.astore_n 2, 1) := by decide +kernel
theorem dX9_same_9 : decode cX9_same 9 = .ok (.aload_n 0, 1) := by decide +kernel
theorem dX9_same_10 : decode cX9_same 10 = .ok (.iload_n 1, 1) := by decide +kernel
theorem dX9_same_11 : decode cX9_same 11 = .ok (.bipush 10, 2) := by decide +kernel
theorem dX9_same_13 : decode cX9_same 13 = .ok (.irem, 1) := by decide +kernel
theorem dX9_same_14 : decode cX9_same 14 = .ok (.invokevirtual 137, 3) := by decide +kernel
theorem dX9_same_17 : decode cX9_same 17 = .ok (.astore_n 3, 1) := by decide +kernel
theorem dX9_same_18 : decode cX9_same 18 = .ok (.aload_n 2, 1) := by decide +kernel
theorem dX9_same_19 : decode cX9_same 19 = .ok (.ifnull 7, 3) := by decide +kernel
theorem dX9_same_22 : decode cX9_same 22 = .ok (.aload_n 3, 1) := by decide +kernel
theorem dX9_same_23 : decode cX9_same 23 = .ok (.ifnonnull 5, 3) := by decide +kernel
theorem dX9_same_26 : decode cX9_same 26 = .ok (.iconst (-1), 1) := by decide +kernel
theorem dX9_same_27 : decode cX9_same 27 = .ok (.ireturn, 1) := by decide +kernel
theorem dX9_same_28 : decode cX9_same 28 = .ok (.aload_n 2, 1) := by decide +kernel
theorem dX9_same_29 : decode cX9_same 29 = .ok (.getfield 141, 3) := by decide +kernel
theorem dX9_same_32 : decode cX9_same 32 = .ok (.getfield 144, 3) := by decide +kernel
theorem dX9_same_35 : decode cX9_same 35 = .ok (.aload_n 3, 1) := by decide +kernel
theorem dX9_same_36 : decode cX9_same 36 = .ok (.getfield 141, 3) := by decide +kernel
theorem dX9_same_39 : decode cX9_same 39 = .ok (.getfield 144, 3) := by decide +kernel
theorem dX9_same_42 : decode cX9_same 42 = .ok (.if_icmp .eq 5, 3) := by decide +kernel
theorem dX9_same_45 : decode cX9_same 45 = .ok (.iconst 0, 1) := by decide +kernel
theorem dX9_same_46 : decode cX9_same 46 = .ok (.ireturn, 1) := by decide +kernel
theorem dX9_same_47 : decode cX9_same 47 = .ok (.iconst 0, 1) := by decide +kernel
theorem dX9_same_48 : decode cX9_same 48 = .ok (.istore 4, 2) := by decide +kernel
theorem dX9_same_50 : decode cX9_same 50 = .ok (.iload 4, 2) := by decide +kernel
theorem dX9_same_52 : decode cX9_same 52 = .ok (.aload_n 2, 1) := by decide +kernel
theorem dX9_same_53 : decode cX9_same 53 = .ok (.getfield 141, 3) := by decide +kernel
theorem dX9_same_56 : decode cX9_same 56 = .ok (.getfield 144, 3) := by decide +kernel
theorem dX9_same_59 : decode cX9_same 59 = .ok (.if_icmp .ge 34, 3) := by decide +kernel
theorem dX9_same_62 : decode cX9_same 62 = .ok (.aload_n 2, 1) := by decide +kernel
theorem dX9_same_63 : decode cX9_same 63 = .ok (.getfield 141, 3) := by decide +kernel
theorem dX9_same_66 : decode cX9_same 66 = .ok (.getfield 262, 3) := by decide +kernel
theorem dX9_same_69 : decode cX9_same 69 = .ok (.iload 4, 2) := by decide +kernel
theorem dX9_same_71 : decode cX9_same 71 = .ok (.iaload, 1) := by decide +kernel
theorem dX9_same_72 : decode cX9_same 72 = .ok (.aload_n 3, 1) := by decide +kernel
theorem dX9_same_73 : decode cX9_same 73 = .ok (.getfield 141, 3) := by decide +kernel
theorem dX9_same_76 : decode cX9_same 76 = .ok (.getfield 262, 3) := by decide +kernel
theorem dX9_same_79 : decode cX9_same 79 = .ok (.iload 4, 2) := by decide +kernel
theorem dX9_same_81 : decode cX9_same 81 = .ok (.iaload, 1) := by decide +kernel
theorem dX9_same_82 : decode cX9_same 82 = .ok (.if_icmp .eq 5, 3) := by decide +kernel
theorem dX9_same_85 : decode cX9_same 85 = .ok (.iconst 0, 1) := by decide +kernel
theorem dX9_same_86 : decode cX9_same 86 = .ok (.ireturn, 1) := by decide +kernel
theorem dX9_same_87 : decode cX9_same 87 = .ok (.iinc 4 1, 3) := by decide +kernel
theorem dX9_same_90 : decode cX9_same 90 = .ok (.goto (-40), 3) := by decide +kernel
theorem dX9_same_93 : decode cX9_same 93 = .ok (.iconst 1, 1) := by decide +kernel
theorem dX9_same_94 : decode cX9_same 94 = .ok (.ireturn, 1) := by decide +kernel
theorem dX9_likely_0 : decode cX9_likely 0 = .ok (.iload_n 1, 1) := by decide +kernel
theorem dX9_likely_1 : decode cX9_likely 1 = .ok (.invokestatic 210, 3) := by decide +kernel
theorem dX9_likely_4 : decode cX9_likely 4 = .ok (.ifCond .eq 11, 3) := by decide +kernel
theorem dX9_likely_7 : decode cX9_likely 7 = .ok (.iload_n 2, 1) := by decide +kernel
theorem dX9_likely_8 : decode cX9_likely 8 = .ok (.iconst 1, 1) := by decide +kernel
theorem dX9_likely_9 : decode cX9_likely 9 = .ok (.invokestatic 90, 3) := by decide +kernel
theorem dX9_likely_12 : decode cX9_likely 12 = .ok (.ifCond .ne 7, 3) := by decide +kernel
theorem dX9_likely_15 : decode cX9_likely 15 = .ok (.ldc2_w 234, 3) := by decide +kernel
theorem dX9_likely_18 : decode cX9_likely 18 = .ok (.lreturn, 1) := by decide +kernel
theorem dX9_likely_19 : decode cX9_likely 19 = .ok (.iconst 0, 1) := by decide +kernel
theorem dX9_likely_20 : decode cX9_likely 20 = .ok (.istore_n 3, 1) := by decide +kernel
theorem dX9_likely_21 : decode cX9_likely 21 = .ok (.iconst 0, 1) := by decide +kernel
theorem dX9_likely_22 : decode cX9_likely 22 = .ok (.istore 4, 2) := by decide +kernel
theorem dX9_likely_24 : decode cX9_likely 24 = .ok (.iload 4, 2) := by decide +kernel
theorem dX9_likely_26 : decode cX9_likely 26 = .ok (.bipush 6, 2) := by decide +kernel
theorem dX9_likely_28 : decode cX9_likely 28 = .ok (.if_icmp .ge 18, 3) := by decide +kernel
theorem dX9_likely_31 : decode cX9_likely 31 = .ok (.iload_n 3, 1) := by decide +kernel
theorem dX9_likely_32 : decode cX9_likely 32 = .ok (.aload_n 0, 1) := by decide +kernel
theorem dX9_likely_33 : decode cX9_likely 33 = .ok (.iload 4, 2) := by decide +kernel
theorem dX9_likely_35 : decode cX9_likely 35 = .ok (.invokevirtual 265, 3) := by decide +kernel
theorem dX9_likely_38 : decode cX9_likely 38 = .ok (.iadd, 1) := by decide +kernel
theorem dX9_likely_39 : decode cX9_likely 39 = .ok (.istore_n 3, 1) := by decide +kernel
theorem dX9_likely_40 : decode cX9_likely 40 = .ok (.iinc 4 1, 3) := by decide +kernel
theorem dX9_likely_43 : decode cX9_likely 43 = .ok (.goto (-19), 3) := by decide +kernel
theorem dX9_likely_46 : decode cX9_likely 46 = .ok (.iload_n 3, 1) := by decide +kernel
theorem dX9_likely_47 : decode cX9_likely 47 = .ok (.ifCond .ne 6, 3) := by decide +kernel
theorem dX9_likely_50 : decode cX9_likely 50 = .ok (.iload_n 2, 1) := by decide +kernel
theorem dX9_likely_51 : decode cX9_likely 51 = .ok (.i2l, 1) := by decide +kernel
theorem dX9_likely_52 : decode cX9_likely 52 = .ok (.lreturn, 1) := by decide +kernel
theorem dX9_likely_53 : decode cX9_likely 53 = .ok (.aload_n 0, 1) := by decide +kernel
theorem dX9_likely_54 : decode cX9_likely 54 = .ok (.iload_n 1, 1) := by decide +kernel
theorem dX9_likely_55 : decode cX9_likely 55 = .ok (.invokevirtual 265, 3) := by decide +kernel
theorem dX9_likely_58 : decode cX9_likely 58 = .ok (.istore 4, 2) := by decide +kernel
theorem dX9_likely_60 : decode cX9_likely 60 = .ok (.iload_n 3, 1) := by decide +kernel
theorem dX9_likely_61 : decode cX9_likely 61 = .ok (.iload 4, 2) := by decide +kernel
theorem dX9_likely_63 : decode cX9_likely 63 = .ok (.invokestatic 268, 3) := by decide +kernel
theorem dX9_likely_66 : decode cX9_likely 66 = .ok (.istore 5, 2) := by decide +kernel
theorem dX9_likely_68 : decode cX9_likely 68 = .ok (.iload_n 2, 1) := by decide +kernel
theorem dX9_likely_69 : decode cX9_likely 69 = .ok (.ifCond .ne 8, 3) := by decide +kernel
theorem dX9_likely_72 : decode cX9_likely 72 = .ok (.iload 4, 2) := by decide +kernel
theorem dX9_likely_74 : decode cX9_likely 74 = .ok (.goto 4, 3) := by decide +kernel
theorem dX9_likely_77 : decode cX9_likely 77 = .ok (.iload_n 3, 1) := by decide +kernel
theorem dX9_likely_78 : decode cX9_likely 78 = .ok (.iload 5, 2) := by decide +kernel
theorem dX9_likely_80 : decode cX9_likely 80 = .ok (.idiv, 1) := by decide +kernel
theorem dX9_likely_81 : decode cX9_likely 81 = .ok (.i2l, 1) := by decide +kernel
theorem dX9_likely_82 : decode cX9_likely 82 = .ok (.lreturn, 1) := by decide +kernel
theorem dX9_expected_0 : decode cX9_expected 0 = .ok (.bipush (-2), 2) := by decide +kernel
theorem dX9_expected_2 : decode cX9_expected 2 = .ok (.istore_n 1, 1) := by decide +kernel
theorem dX9_expected_3 : decode cX9_expected 3 = .ok (.iconst 0, 1) := by decide +kernel
theorem dX9_expected_4 : decode cX9_expected 4 = .ok (.istore_n 2, 1) := by decide +kernel
theorem dX9_expected_5 : decode cX9_expected 5 = .ok (.iconst 0, 1) := by decide +kernel
theorem dX9_expected_6 : decode cX9_expected 6 = .ok (.istore_n 3, 1) := by decide +kernel
theorem dX9_expected_7 : decode cX9_expected 7 = .ok (.iload_n 3, 1) := by decide +kernel
theorem dX9_expected_8 : decode cX9_expected 8 = .ok (.bipush 6, 2) := by decide +kernel
theorem dX9_expected_10 : decode cX9_expected 10 = .ok (.if_icmp .ge 27, 3) := by decide +kernel
theorem dX9_expected_13 : decode cX9_expected 13 = .ok (.aload_n 0, 1) := by decide +kernel
theorem dX9_expected_14 : decode cX9_expected 14 = .ok (.iload_n 3, 1) := by decide +kernel
theorem dX9_expected_15 : decode cX9_expected 15 = .ok (.invokevirtual 265, 3) := by decide +kernel
theorem dX9_expected_18 : decode cX9_expected 18 = .ok (.istore 4, 2) := by decide +kernel
theorem dX9_expected_20 : decode cX9_expected 20 = .ok (.iload 4, 2) := by decide +kernel
theorem dX9_expected_22 : decode cX9_expected 22 = .ok (.iload_n 2, 1) := by decide +kernel
theorem dX9_expected_23 : decode cX9_expected 23 = .ok (.if_icmp .le 8, 3) := by decide +kernel
theorem dX9_expected_26 : decode cX9_expected 26 = .ok (.iload_n 3, 1) := by decide +kernel
theorem dX9_expected_27 : decode cX9_expected 27 = .ok (.istore_n 1, 1) := by decide +kernel
theorem dX9_expected_28 : decode cX9_expected 28 = .ok (.iload 4, 2) := by decide +kernel
theorem dX9_expected_30 : decode cX9_expected 30 = .ok (.istore_n 2, 1) := by decide +kernel
theorem dX9_expected_31 : decode cX9_expected 31 = .ok (.iinc 3 1, 3) := by decide +kernel
theorem dX9_expected_34 : decode cX9_expected 34 = .ok (.goto (-27), 3) := by decide +kernel
theorem dX9_expected_37 : decode cX9_expected 37 = .ok (.iload_n 1, 1) := by decide +kernel
theorem dX9_expected_38 : decode cX9_expected 38 = .ok (.ireturn, 1) := by decide +kernel
theorem dX9_judge_0 : decode cX9_judge 0 = .ok (.aload_n 0, 1) := by decide +kernel
theorem dX9_judge_1 : decode cX9_judge 1 = .ok (.iload_n 2, 1) := by decide +kernel
theorem dX9_judge_2 : decode cX9_judge 2 = .ok (.invokevirtual 137, 3) := by decide +kernel
theorem dX9_judge_5 : decode cX9_judge 5 = .ok (.astore_n 3, 1) := by decide +kernel
theorem dX9_judge_6 : decode cX9_judge 6 = .ok (.aload_n 3, 1) := by decide +kernel
theorem dX9_judge_7 : decode cX9_judge 7 = .ok (.ifnull 10, 3) := by decide +kernel
theorem dX9_judge_10 : decode cX9_judge 10 = .ok (.iload_n 1, 1) := by decide +kernel
theorem dX9_judge_11 : decode cX9_judge 11 = .ok (.invokestatic 101, 3) := by decide +kernel
theorem dX9_judge_14 : decode cX9_judge 14 = .ok (.ifCond .ne 5, 3) := by decide +kernel
theorem dX9_judge_17 : decode cX9_judge 17 = .ok (.iconst (-1), 1) := by decide +kernel
theorem dX9_judge_18 : decode cX9_judge 18 = .ok (.ireturn, 1) := by decide +kernel
theorem dX9_judge_19 : decode cX9_judge 19 = .ok (.aload_n 0, 1) := by decide +kernel
theorem dX9_judge_20 : decode cX9_judge 20 = .ok (.iload_n 1, 1) := by decide +kernel
theorem dX9_judge_21 : decode cX9_judge 21 = .ok (.invokevirtual 185, 3) := by decide +kernel
theorem dX9_judge_24 : decode cX9_judge 24 = .ok (.istore 4, 2) := by decide +kernel
theorem dX9_judge_26 : decode cX9_judge 26 = .ok (.iload 4, 2) := by decide +kernel
theorem dX9_judge_28 : decode cX9_judge 28 = .ok (.ifCond .ge 6, 3) := by decide +kernel
theorem dX9_judge_31 : decode cX9_judge 31 = .ok (.iload 4, 2) := by decide +kernel
theorem dX9_judge_33 : decode cX9_judge 33 = .ok (.ireturn, 1) := by decide +kernel
theorem dX9_judge_34 : decode cX9_judge 34 = .ok (.aload_n 0, 1) := by decide +kernel
theorem dX9_judge_35 : decode cX9_judge 35 = .ok (.getfield 79, 3) := by decide +kernel
theorem dX9_judge_38 : decode cX9_judge 38 = .ok (.iload_n 1, 1) := by decide +kernel
theorem dX9_judge_39 : decode cX9_judge 39 = .ok (.aaload, 1) := by decide +kernel
theorem dX9_judge_40 : decode cX9_judge 40 = .ok (.astore 5, 2) := by decide +kernel
theorem dX9_judge_42 : decode cX9_judge 42 = .ok (.aload 5, 2) := by decide +kernel
theorem dX9_judge_44 : decode cX9_judge 44 = .ok (.getfield 112, 3) := by decide +kernel
theorem dX9_judge_47 : decode cX9_judge 47 = .ok (.aload_n 3, 1) := by decide +kernel
theorem dX9_judge_48 : decode cX9_judge 48 = .ok (.getfield 141, 3) := by decide +kernel
theorem dX9_judge_51 : decode cX9_judge 51 = .ok (.getfield 144, 3) := by decide +kernel
theorem dX9_judge_54 : decode cX9_judge 54 = .ok (.invokestatic 271, 3) := by decide +kernel
theorem dX9_judge_57 : decode cX9_judge 57 = .ok (.istore 6, 2) := by decide +kernel
theorem dX9_judge_59 : decode cX9_judge 59 = .ok (.iconst 0, 1) := by decide +kernel
theorem dX9_judge_60 : decode cX9_judge 60 = .ok (.istore 7, 2) := by decide +kernel
theorem dX9_judge_62 : decode cX9_judge 62 = .ok (.iload 7, 2) := by decide +kernel
theorem dX9_judge_64 : decode cX9_judge 64 = .ok (.iload 6, 2) := by decide +kernel
theorem dX9_judge_66 : decode cX9_judge 66 = .ok (.if_icmp .ge 35, 3) := by decide +kernel
theorem dX9_judge_69 : decode cX9_judge 69 = .ok (.aload 5, 2) := by decide +kernel
theorem dX9_judge_71 : decode cX9_judge 71 = .ok (.getfield 115, 3) := by decide +kernel
theorem dX9_judge_74 : decode cX9_judge 74 = .ok (.iload 7, 2) := by decide +kernel
theorem dX9_judge_76 : decode cX9_judge 76 = .ok (.laload, 1) := by decide +kernel
theorem dX9_judge_77 : decode cX9_judge 77 = .ok (.aload_n 3, 1) := by decide +kernel
theorem dX9_judge_78 : decode cX9_judge 78 = .ok (.getfield 141, 3) := by decide +kernel
theorem dX9_judge_81 : decode cX9_judge 81 = .ok (.getfield 262, 3) := by decide +kernel
theorem dX9_judge_84 : decode cX9_judge 84 = .ok (.iload 7, 2) := by decide +kernel
theorem dX9_judge_86 : decode cX9_judge 86 = .ok (.iaload, 1) := by decide +kernel
theorem dX9_judge_87 : decode cX9_judge 87 = .ok (.i2l, 1) := by decide +kernel
theorem dX9_judge_88 : decode cX9_judge 88 = .ok (.lcmp, 1) := by decide +kernel
theorem dX9_judge_89 : decode cX9_judge 89 = .ok (.ifCond .eq 6, 3) := by decide +kernel
theorem dX9_judge_92 : decode cX9_judge 92 = .ok (.iload 7, 2) := by decide +kernel
theorem dX9_judge_94 : decode cX9_judge 94 = .ok (.ireturn, 1) := by decide +kernel
theorem dX9_judge_95 : decode cX9_judge 95 = .ok (.iinc 7 1, 3) := by decide +kernel
theorem dX9_judge_98 : decode cX9_judge 98 = .ok (.goto (-36), 3) := by decide +kernel
theorem dX9_judge_101 : decode cX9_judge 101 = .ok (.aload 5, 2) := by decide +kernel
theorem dX9_judge_103 : decode cX9_judge 103 = .ok (.getfield 112, 3) := by decide +kernel
theorem dX9_judge_106 : decode cX9_judge 106 = .ok (.aload_n 3, 1) := by decide +kernel
theorem dX9_judge_107 : decode cX9_judge 107 = .ok (.getfield 141, 3) := by decide +kernel
theorem dX9_judge_110 : decode cX9_judge 110 = .ok (.getfield 144, 3) := by decide +kernel
theorem dX9_judge_113 : decode cX9_judge 113 = .ok (.if_icmp .ne 8, 3) := by decide +kernel
theorem dX9_judge_116 : decode cX9_judge 116 = .ok (.bipush (-2), 2) := by decide +kernel
theorem dX9_judge_118 : decode cX9_judge 118 = .ok (.goto 5, 3) := by decide +kernel
theorem dX9_judge_121 : decode cX9_judge 121 = .ok (.iload 6, 2) := by decide +kernel
theorem dX9_judge_123 : decode cX9_judge 123 = .ok (.ireturn, 1) := by decide +kernel
theorem dX9_drawn_0 : decode cX9_drawn 0 = .ok (.aload_n 0, 1) := by decide +kernel
theorem dX9_drawn_1 : decode cX9_drawn 1 = .ok (.iload_n 3, 1) := by decide +kernel
theorem dX9_drawn_2 : decode cX9_drawn 2 = .ok (.invokevirtual 137, 3) := by decide +kernel
theorem dX9_drawn_5 : decode cX9_drawn 5 = .ok (.astore 5, 2) := by decide +kernel
theorem dX9_drawn_7 : decode cX9_drawn 7 = .ok (.iload_n 2, 1) := by decide +kernel
theorem dX9_drawn_8 : decode cX9_drawn 8 = .ok (.bipush 100, 2) := by decide +kernel
theorem dX9_drawn_10 : decode cX9_drawn 10 = .ok (.idiv, 1) := by decide +kernel
theorem dX9_drawn_11 : decode cX9_drawn 11 = .ok (.istore 6, 2) := by decide +kernel
theorem dX9_drawn_13 : decode cX9_drawn 13 = .ok (.iload_n 2, 1) := by decide +kernel
theorem dX9_drawn_14 : decode cX9_drawn 14 = .ok (.bipush 100, 2) := by decide +kernel
theorem dX9_drawn_16 : decode cX9_drawn 16 = .ok (.irem, 1) := by decide +kernel
theorem dX9_drawn_17 : decode cX9_drawn 17 = .ok (.istore 7, 2) := by decide +kernel
theorem dX9_drawn_19 : decode cX9_drawn 19 = .ok (.aload 5, 2) := by decide +kernel
theorem dX9_drawn_21 : decode cX9_drawn 21 = .ok (.ifnull 29, 3) := by decide +kernel
theorem dX9_drawn_24 : decode cX9_drawn 24 = .ok (.iload 6, 2) := by decide +kernel
theorem dX9_drawn_26 : decode cX9_drawn 26 = .ok (.iconst 1, 1) := by decide +kernel
theorem dX9_drawn_27 : decode cX9_drawn 27 = .ok (.if_icmp .lt 23, 3) := by decide +kernel
theorem dX9_drawn_30 : decode cX9_drawn 30 = .ok (.iload 6, 2) := by decide +kernel
theorem dX9_drawn_32 : decode cX9_drawn 32 = .ok (.bipush 30, 2) := by decide +kernel
theorem dX9_drawn_34 : decode cX9_drawn 34 = .ok (.if_icmp .gt 16, 3) := by decide +kernel
theorem dX9_drawn_37 : decode cX9_drawn 37 = .ok (.iload 7, 2) := by decide +kernel
theorem dX9_drawn_39 : decode cX9_drawn 39 = .ok (.iconst 1, 1) := by decide +kernel
theorem dX9_drawn_40 : decode cX9_drawn 40 = .ok (.if_icmp .lt 10, 3) := by decide +kernel
theorem dX9_drawn_43 : decode cX9_drawn 43 = .ok (.iload 7, 2) := by decide +kernel
theorem dX9_drawn_45 : decode cX9_drawn 45 = .ok (.bipush 40, 2) := by decide +kernel
theorem dX9_drawn_47 : decode cX9_drawn 47 = .ok (.if_icmp .le 5, 3) := by decide +kernel
theorem dX9_drawn_50 : decode cX9_drawn 50 = .ok (.iconst (-1), 1) := by decide +kernel
theorem dX9_drawn_51 : decode cX9_drawn 51 = .ok (.ireturn, 1) := by decide +kernel
theorem dX9_drawn_52 : decode cX9_drawn 52 = .ok (.iload 4, 2) := by decide +kernel
theorem dX9_drawn_54 : decode cX9_drawn 54 = .ok (.iconst (-1), 1) := by decide +kernel
theorem dX9_drawn_55 : decode cX9_drawn 55 = .ok (.if_icmp .eq 13, 3) := by decide +kernel
theorem dX9_drawn_58 : decode cX9_drawn 58 = .ok (.iload 4, 2) := by decide +kernel
theorem dX9_drawn_60 : decode cX9_drawn 60 = .ok (.invokestatic 210, 3) := by decide +kernel
theorem dX9_drawn_63 : decode cX9_drawn 63 = .ok (.ifCond .ne 5, 3) := by decide +kernel
theorem dX9_drawn_66 : decode cX9_drawn 66 = .ok (.iconst (-1), 1) := by decide +kernel
theorem dX9_drawn_67 : decode cX9_drawn 67 = .ok (.ireturn, 1) := by decide +kernel
theorem dX9_drawn_68 : decode cX9_drawn 68 = .ok (.iload_n 1, 1) := by decide +kernel
theorem dX9_drawn_69 : decode cX9_drawn 69 = .ok (.istore 8, 2) := by decide +kernel
theorem dX9_drawn_71 : decode cX9_drawn 71 = .ok (.iconst 0, 1) := by decide +kernel
theorem dX9_drawn_72 : decode cX9_drawn 72 = .ok (.istore 9, 2) := by decide +kernel
theorem dX9_drawn_74 : decode cX9_drawn 74 = .ok (.iconst 0, 1) := by decide +kernel
theorem dX9_drawn_75 : decode cX9_drawn 75 = .ok (.istore 10, 2) := by decide +kernel
theorem dX9_drawn_77 : decode cX9_drawn 77 = .ok (.iload 10, 2) := by decide +kernel
theorem dX9_drawn_79 : decode cX9_drawn 79 = .ok (.iload 6, 2) := by decide +kernel
theorem dX9_drawn_81 : decode cX9_drawn 81 = .ok (.if_icmp .ge 111, 3) := by decide +kernel
theorem dX9_drawn_84 : decode cX9_drawn 84 = .ok (.aload_n 0, 1) := by decide +kernel
theorem dX9_drawn_85 : decode cX9_drawn 85 = .ok (.getfield 39, 3) := by decide +kernel
theorem dX9_drawn_88 : decode cX9_drawn 88 = .ok (.aload 5, 2) := by decide +kernel
theorem dX9_drawn_90 : decode cX9_drawn 90 = .ok (.getfield 141, 3) := by decide +kernel
theorem dX9_drawn_93 : decode cX9_drawn 93 = .ok (.invokevirtual 201, 3) := by decide +kernel
theorem dX9_drawn_96 : decode cX9_drawn 96 = .ok (.iconst 0, 1) := by decide +kernel
theorem dX9_drawn_97 : decode cX9_drawn 97 = .ok (.istore 11, 2) := by decide +kernel
theorem dX9_drawn_99 : decode cX9_drawn 99 = .ok (.iload 11, 2) := by decide +kernel
theorem dX9_drawn_101 : decode cX9_drawn 101 = .ok (.iload 7, 2) := by decide +kernel
theorem dX9_drawn_103 : decode cX9_drawn 103 = .ok (.if_icmp .ge 47, 3) := by decide +kernel
theorem dX9_drawn_106 : decode cX9_drawn 106 = .ok (.iload 8, 2) := by decide +kernel
theorem dX9_drawn_108 : decode cX9_drawn 108 = .ok (.ldc_w 276, 3) := by decide +kernel
theorem dX9_drawn_111 : decode cX9_drawn 111 = .ok (.imul, 1) := by decide +kernel
theorem dX9_drawn_112 : decode cX9_drawn 112 = .ok (.sipush 12345, 3) := by decide +kernel
theorem dX9_drawn_115 : decode cX9_drawn 115 = .ok (.iadd, 1) := by decide +kernel
theorem dX9_drawn_116 : decode cX9_drawn 116 = .ok (.istore 8, 2) := by decide +kernel
theorem dX9_drawn_118 : decode cX9_drawn 118 = .ok (.aload 5, 2) := by decide +kernel
theorem dX9_drawn_120 : decode cX9_drawn 120 = .ok (.aload_n 0, 1) := by decide +kernel
theorem dX9_drawn_121 : decode cX9_drawn 121 = .ok (.getfield 39, 3) := by decide +kernel
theorem dX9_drawn_124 : decode cX9_drawn 124 = .ok (.iload 8, 2) := by decide +kernel
theorem dX9_drawn_126 : decode cX9_drawn 126 = .ok (.bipush 8, 2) := by decide +kernel
theorem dX9_drawn_128 : decode cX9_drawn 128 = .ok (.iushr, 1) := by decide +kernel
theorem dX9_drawn_129 : decode cX9_drawn 129 = .ok (.bipush 6, 2) := by decide +kernel
theorem dX9_drawn_131 : decode cX9_drawn 131 = .ok (.irem, 1) := by decide +kernel
theorem dX9_drawn_132 : decode cX9_drawn 132 = .ok (.iload 8, 2) := by decide +kernel
theorem dX9_drawn_134 : decode cX9_drawn 134 = .ok (.bipush 16, 2) := by decide +kernel
theorem dX9_drawn_136 : decode cX9_drawn 136 = .ok (.iushr, 1) := by decide +kernel
theorem dX9_drawn_137 : decode cX9_drawn 137 = .ok (.bipush 10, 2) := by decide +kernel
theorem dX9_drawn_139 : decode cX9_drawn 139 = .ok (.irem, 1) := by decide +kernel
theorem dX9_drawn_140 : decode cX9_drawn 140 = .ok (.invokevirtual 219, 3) := by decide +kernel
theorem dX9_drawn_143 : decode cX9_drawn 143 = .ok (.pop, 1) := by decide +kernel
theorem dX9_drawn_144 : decode cX9_drawn 144 = .ok (.iinc 11 1, 3) := by decide +kernel
theorem dX9_drawn_147 : decode cX9_drawn 147 = .ok (.goto (-48), 3) := by decide +kernel
theorem dX9_drawn_150 : decode cX9_drawn 150 = .ok (.iload 4, 2) := by decide +kernel
theorem dX9_drawn_152 : decode cX9_drawn 152 = .ok (.iconst (-1), 1) := by decide +kernel
theorem dX9_drawn_153 : decode cX9_drawn 153 = .ok (.if_icmp .ne 18, 3) := by decide +kernel
theorem dX9_drawn_156 : decode cX9_drawn 156 = .ok (.iload 9, 2) := by decide +kernel
theorem dX9_drawn_158 : decode cX9_drawn 158 = .ok (.aload_n 0, 1) := by decide +kernel
theorem dX9_drawn_159 : decode cX9_drawn 159 = .ok (.getfield 39, 3) := by decide +kernel
theorem dX9_drawn_162 : decode cX9_drawn 162 = .ok (.getfield 144, 3) := by decide +kernel
theorem dX9_drawn_165 : decode cX9_drawn 165 = .ok (.iadd, 1) := by decide +kernel
theorem dX9_drawn_166 : decode cX9_drawn 166 = .ok (.istore 9, 2) := by decide +kernel
theorem dX9_drawn_168 : decode cX9_drawn 168 = .ok (.goto 18, 3) := by decide +kernel
theorem dX9_drawn_171 : decode cX9_drawn 171 = .ok (.aload_n 0, 1) := by decide +kernel
theorem dX9_drawn_172 : decode cX9_drawn 172 = .ok (.getfield 39, 3) := by decide +kernel
theorem dX9_drawn_175 : decode cX9_drawn 175 = .ok (.invokevirtual 207, 3) := by decide +kernel
theorem dX9_drawn_178 : decode cX9_drawn 178 = .ok (.iload 4, 2) := by decide +kernel
theorem dX9_drawn_180 : decode cX9_drawn 180 = .ok (.if_icmp .ne 6, 3) := by decide +kernel
theorem dX9_drawn_183 : decode cX9_drawn 183 = .ok (.iinc 9 1, 3) := by decide +kernel
theorem dX9_drawn_186 : decode cX9_drawn 186 = .ok (.iinc 10 1, 3) := by decide +kernel
theorem dX9_drawn_189 : decode cX9_drawn 189 = .ok (.goto (-112), 3) := by decide +kernel
theorem dX9_drawn_192 : decode cX9_drawn 192 = .ok (.iload 9, 2) := by decide +kernel
theorem dX9_drawn_194 : decode cX9_drawn 194 = .ok (.ireturn, 1) := by decide +kernel
theorem dX9_look_0 : decode cX9_look 0 = .ok (.iload_n 1, 1) := by decide +kernel
theorem dX9_look_1 : decode cX9_look 1 = .ok (.invokestatic 171, 3) := by decide +kernel
theorem dX9_look_4 : decode cX9_look 4 = .ok (.ifCond .ne 5, 3) := by decide +kernel
theorem dX9_look_7 : decode cX9_look 7 = .ok (.iconst (-1), 1) := by decide +kernel
theorem dX9_look_8 : decode cX9_look 8 = .ok (.ireturn, 1) := by decide +kernel
theorem dX9_look_9 : decode cX9_look 9 = .ok (.iconst 0, 1) := by decide +kernel
theorem dX9_look_10 : decode cX9_look 10 = .ok (.istore_n 2, 1) := by decide +kernel
theorem dX9_look_11 : decode cX9_look 11 = .ok (.iconst 0, 1) := by decide +kernel
theorem dX9_look_12 : decode cX9_look 12 = .ok (.istore_n 3, 1) := by decide +kernel
theorem dX9_look_13 : decode cX9_look 13 = .ok (.iload_n 3, 1) := by decide +kernel
theorem dX9_look_14 : decode cX9_look 14 = .ok (.aload_n 0, 1) := by decide +kernel
theorem dX9_look_15 : decode cX9_look 15 = .ok (.getfield 94, 3) := by decide +kernel
theorem dX9_look_18 : decode cX9_look 18 = .ok (.if_icmp .ge 39, 3) := by decide +kernel
theorem dX9_look_21 : decode cX9_look 21 = .ok (.aload_n 0, 1) := by decide +kernel
theorem dX9_look_22 : decode cX9_look 22 = .ok (.getfield 11, 3) := by decide +kernel
theorem dX9_look_25 : decode cX9_look 25 = .ok (.iload_n 3, 1) := by decide +kernel
theorem dX9_look_26 : decode cX9_look 26 = .ok (.aaload, 1) := by decide +kernel
theorem dX9_look_27 : decode cX9_look 27 = .ok (.astore 4, 2) := by decide +kernel
theorem dX9_look_29 : decode cX9_look 29 = .ok (.iload_n 2, 1) := by decide +kernel
theorem dX9_look_30 : decode cX9_look 30 = .ok (.aload 4, 2) := by decide +kernel
theorem dX9_look_32 : decode cX9_look 32 = .ok (.aload 4, 2) := by decide +kernel
theorem dX9_look_34 : decode cX9_look 34 = .ok (.getfield 141, 3) := by decide +kernel
theorem dX9_look_37 : decode cX9_look 37 = .ok (.iload_n 1, 1) := by decide +kernel
theorem dX9_look_38 : decode cX9_look 38 = .ok (.invokestatic 174, 3) := by decide +kernel
theorem dX9_look_41 : decode cX9_look 41 = .ok (.aload_n 0, 1) := by decide +kernel
theorem dX9_look_42 : decode cX9_look 42 = .ok (.iload_n 1, 1) := by decide +kernel
theorem dX9_look_43 : decode cX9_look 43 = .ok (.invokevirtual 178, 3) := by decide +kernel
theorem dX9_look_46 : decode cX9_look 46 = .ok (.invokevirtual 219, 3) := by decide +kernel
theorem dX9_look_49 : decode cX9_look 49 = .ok (.iadd, 1) := by decide +kernel
theorem dX9_look_50 : decode cX9_look 50 = .ok (.istore_n 2, 1) := by decide +kernel
theorem dX9_look_51 : decode cX9_look 51 = .ok (.iinc 3 1, 3) := by decide +kernel
theorem dX9_look_54 : decode cX9_look 54 = .ok (.goto (-41), 3) := by decide +kernel
theorem dX9_look_57 : decode cX9_look 57 = .ok (.aload_n 0, 1) := by decide +kernel
theorem dX9_look_58 : decode cX9_look 58 = .ok (.getfield 53, 3) := by decide +kernel
theorem dX9_look_61 : decode cX9_look 61 = .ok (.iconst 0, 1) := by decide +kernel
theorem dX9_look_62 : decode cX9_look 62 = .ok (.dup2, 1) := by decide +kernel
theorem dX9_look_63 : decode cX9_look 63 = .ok (.iaload, 1) := by decide +kernel
theorem dX9_look_64 : decode cX9_look 64 = .ok (.iconst 1, 1) := by decide +kernel
theorem dX9_look_65 : decode cX9_look 65 = .ok (.iadd, 1) := by decide +kernel
theorem dX9_look_66 : decode cX9_look 66 = .ok (.iastore, 1) := by decide +kernel
theorem dX9_look_67 : decode cX9_look 67 = .ok (.aload_n 0, 1) := by decide +kernel
theorem dX9_look_68 : decode cX9_look 68 = .ok (.getfield 53, 3) := by decide +kernel
theorem dX9_look_71 : decode cX9_look 71 = .ok (.iconst 1, 1) := by decide +kernel
theorem dX9_look_72 : decode cX9_look 72 = .ok (.dup2, 1) := by decide +kernel
theorem dX9_look_73 : decode cX9_look 73 = .ok (.iaload, 1) := by decide +kernel
theorem dX9_look_74 : decode cX9_look 74 = .ok (.iload_n 2, 1) := by decide +kernel
theorem dX9_look_75 : decode cX9_look 75 = .ok (.iadd, 1) := by decide +kernel
theorem dX9_look_76 : decode cX9_look 76 = .ok (.iastore, 1) := by decide +kernel
theorem dX9_look_77 : decode cX9_look 77 = .ok (.iload_n 2, 1) := by decide +kernel
theorem dX9_look_78 : decode cX9_look 78 = .ok (.ireturn, 1) := by decide +kernel
theorem dX9_blow_0 : decode cX9_blow 0 = .ok (.aload_n 0, 1) := by decide +kernel
theorem dX9_blow_1 : decode cX9_blow 1 = .ok (.iload_n 1, 1) := by decide +kernel
theorem dX9_blow_2 : decode cX9_blow 2 = .ok (.invokevirtual 137, 3) := by decide +kernel
theorem dX9_blow_5 : decode cX9_blow 5 = .ok (.astore_n 3, 1) := by decide +kernel
theorem dX9_blow_6 : decode cX9_blow 6 = .ok (.aload_n 3, 1) := by decide +kernel
theorem dX9_blow_7 : decode cX9_blow 7 = .ok (.ifnull 12, 3) := by decide +kernel
theorem dX9_blow_10 : decode cX9_blow 10 = .ok (.iload_n 2, 1) := by decide +kernel
theorem dX9_blow_11 : decode cX9_blow 11 = .ok (.bipush 99, 2) := by decide +kernel
theorem dX9_blow_13 : decode cX9_blow 13 = .ok (.invokestatic 90, 3) := by decide +kernel
theorem dX9_blow_16 : decode cX9_blow 16 = .ok (.ifCond .ne 5, 3) := by decide +kernel
theorem dX9_blow_19 : decode cX9_blow 19 = .ok (.iconst (-1), 1) := by decide +kernel
theorem dX9_blow_20 : decode cX9_blow 20 = .ok (.ireturn, 1) := by decide +kernel
theorem dX9_blow_21 : decode cX9_blow 21 = .ok (.aload_n 3, 1) := by decide +kernel
theorem dX9_blow_22 : decode cX9_blow 22 = .ok (.getfield 141, 3) := by decide +kernel
theorem dX9_blow_25 : decode cX9_blow 25 = .ok (.iload_n 2, 1) := by decide +kernel
theorem dX9_blow_26 : decode cX9_blow 26 = .ok (.invokevirtual 204, 3) := by decide +kernel
theorem dX9_blow_29 : decode cX9_blow 29 = .ok (.istore 4, 2) := by decide +kernel
theorem dX9_blow_31 : decode cX9_blow 31 = .ok (.aload_n 0, 1) := by decide +kernel
theorem dX9_blow_32 : decode cX9_blow 32 = .ok (.getfield 53, 3) := by decide +kernel
theorem dX9_blow_35 : decode cX9_blow 35 = .ok (.iconst 2, 1) := by decide +kernel
theorem dX9_blow_36 : decode cX9_blow 36 = .ok (.dup2, 1) := by decide +kernel
theorem dX9_blow_37 : decode cX9_blow 37 = .ok (.iaload, 1) := by decide +kernel
theorem dX9_blow_38 : decode cX9_blow 38 = .ok (.iload 4, 2) := by decide +kernel
theorem dX9_blow_40 : decode cX9_blow 40 = .ok (.iadd, 1) := by decide +kernel
theorem dX9_blow_41 : decode cX9_blow 41 = .ok (.iastore, 1) := by decide +kernel
theorem dX9_blow_42 : decode cX9_blow 42 = .ok (.iload 4, 2) := by decide +kernel
theorem dX9_blow_44 : decode cX9_blow 44 = .ok (.ireturn, 1) := by decide +kernel
theorem dX9_sweep_0 : decode cX9_sweep 0 = .ok (.aload_n 0, 1) := by decide +kernel
theorem dX9_sweep_1 : decode cX9_sweep 1 = .ok (.iload_n 1, 1) := by decide +kernel
theorem dX9_sweep_2 : decode cX9_sweep 2 = .ok (.invokevirtual 137, 3) := by decide +kernel
theorem dX9_sweep_5 : decode cX9_sweep 5 = .ok (.astore_n 2, 1) := by decide +kernel
theorem dX9_sweep_6 : decode cX9_sweep 6 = .ok (.aload_n 2, 1) := by decide +kernel
theorem dX9_sweep_7 : decode cX9_sweep 7 = .ok (.ifnonnull 5, 3) := by decide +kernel
theorem dX9_sweep_10 : decode cX9_sweep 10 = .ok (.iconst (-1), 1) := by decide +kernel
theorem dX9_sweep_11 : decode cX9_sweep 11 = .ok (.ireturn, 1) := by decide +kernel
theorem dX9_sweep_12 : decode cX9_sweep 12 = .ok (.aload_n 2, 1) := by decide +kernel
theorem dX9_sweep_13 : decode cX9_sweep 13 = .ok (.getfield 141, 3) := by decide +kernel
theorem dX9_sweep_16 : decode cX9_sweep 16 = .ok (.invokevirtual 147, 3) := by decide +kernel
theorem dX9_sweep_19 : decode cX9_sweep 19 = .ok (.istore_n 3, 1) := by decide +kernel
theorem dX9_sweep_20 : decode cX9_sweep 20 = .ok (.aload_n 2, 1) := by decide +kernel
theorem dX9_sweep_21 : decode cX9_sweep 21 = .ok (.getfield 141, 3) := by decide +kernel
theorem dX9_sweep_24 : decode cX9_sweep 24 = .ok (.iconst 0, 1) := by decide +kernel
theorem dX9_sweep_25 : decode cX9_sweep 25 = .ok (.putfield 144, 3) := by decide +kernel
theorem dX9_sweep_28 : decode cX9_sweep 28 = .ok (.aload_n 0, 1) := by decide +kernel
theorem dX9_sweep_29 : decode cX9_sweep 29 = .ok (.getfield 53, 3) := by decide +kernel
theorem dX9_sweep_32 : decode cX9_sweep 32 = .ok (.iconst 3, 1) := by decide +kernel
theorem dX9_sweep_33 : decode cX9_sweep 33 = .ok (.dup2, 1) := by decide +kernel
theorem dX9_sweep_34 : decode cX9_sweep 34 = .ok (.iaload, 1) := by decide +kernel
theorem dX9_sweep_35 : decode cX9_sweep 35 = .ok (.iload_n 3, 1) := by decide +kernel
theorem dX9_sweep_36 : decode cX9_sweep 36 = .ok (.iadd, 1) := by decide +kernel
theorem dX9_sweep_37 : decode cX9_sweep 37 = .ok (.iastore, 1) := by decide +kernel
theorem dX9_sweep_38 : decode cX9_sweep 38 = .ok (.aload_n 0, 1) := by decide +kernel
theorem dX9_sweep_39 : decode cX9_sweep 39 = .ok (.getfield 53, 3) := by decide +kernel
theorem dX9_sweep_42 : decode cX9_sweep 42 = .ok (.iconst 4, 1) := by decide +kernel
theorem dX9_sweep_43 : decode cX9_sweep 43 = .ok (.dup2, 1) := by decide +kernel
theorem dX9_sweep_44 : decode cX9_sweep 44 = .ok (.iaload, 1) := by decide +kernel
theorem dX9_sweep_45 : decode cX9_sweep 45 = .ok (.iconst 1, 1) := by decide +kernel
theorem dX9_sweep_46 : decode cX9_sweep 46 = .ok (.iadd, 1) := by decide +kernel
theorem dX9_sweep_47 : decode cX9_sweep 47 = .ok (.iastore, 1) := by decide +kernel
theorem dX9_sweep_48 : decode cX9_sweep 48 = .ok (.iload_n 3, 1) := by decide +kernel
theorem dX9_sweep_49 : decode cX9_sweep 49 = .ok (.ireturn, 1) := by decide +kernel
theorem dX9_led_0 : decode cX9_led 0 = .ok (.iload_n 1, 1) := by decide +kernel
theorem dX9_led_1 : decode cX9_led 1 = .ok (.iconst 4, 1) := by decide +kernel
theorem dX9_led_2 : decode cX9_led 2 = .ok (.invokestatic 90, 3) := by decide +kernel
theorem dX9_led_5 : decode cX9_led 5 = .ok (.ifCond .eq 12, 3) := by decide +kernel
theorem dX9_led_8 : decode cX9_led 8 = .ok (.aload_n 0, 1) := by decide +kernel
theorem dX9_led_9 : decode cX9_led 9 = .ok (.getfield 53, 3) := by decide +kernel
theorem dX9_led_12 : decode cX9_led 12 = .ok (.iload_n 1, 1) := by decide +kernel
theorem dX9_led_13 : decode cX9_led 13 = .ok (.iaload, 1) := by decide +kernel
theorem dX9_led_14 : decode cX9_led 14 = .ok (.goto 4, 3) := by decide +kernel
theorem dX9_led_17 : decode cX9_led 17 = .ok (.iconst (-1), 1) := by decide +kernel
theorem dX9_led_18 : decode cX9_led 18 = .ok (.ireturn, 1) := by decide +kernel
theorem dX9_image_0 : decode cX9_image 0 = .ok (.iconst 0, 1) := by decide +kernel
theorem dX9_image_1 : decode cX9_image 1 = .ok (.istore_n 1, 1) := by decide +kernel
theorem dX9_image_2 : decode cX9_image 2 = .ok (.iload_n 1, 1) := by decide +kernel
theorem dX9_image_3 : decode cX9_image 3 = .ok (.aload_n 0, 1) := by decide +kernel
theorem dX9_image_4 : decode cX9_image 4 = .ok (.getfield 94, 3) := by decide +kernel
theorem dX9_image_7 : decode cX9_image 7 = .ok (.if_icmp .ge 30, 3) := by decide +kernel
theorem dX9_image_10 : decode cX9_image 10 = .ok (.aload_n 0, 1) := by decide +kernel
theorem dX9_image_11 : decode cX9_image 11 = .ok (.getfield 59, 3) := by decide +kernel
theorem dX9_image_14 : decode cX9_image 14 = .ok (.getfield 277, 3) := by decide +kernel
theorem dX9_image_17 : decode cX9_image 17 = .ok (.iload_n 1, 1) := by decide +kernel
theorem dX9_image_18 : decode cX9_image 18 = .ok (.aaload, 1) := by decide +kernel
theorem dX9_image_19 : decode cX9_image 19 = .ok (.aload_n 0, 1) := by decide +kernel
theorem dX9_image_20 : decode cX9_image 20 = .ok (.getfield 11, 3) := by decide +kernel
theorem dX9_image_23 : decode cX9_image 23 = .ok (.iload_n 1, 1) := by decide +kernel
theorem dX9_image_24 : decode cX9_image 24 = .ok (.aaload, 1) := by decide +kernel
theorem dX9_image_25 : decode cX9_image 25 = .ok (.getfield 141, 3) := by decide +kernel
theorem dX9_image_28 : decode cX9_image 28 = .ok (.invokevirtual 201, 3) := by decide +kernel
theorem dX9_image_31 : decode cX9_image 31 = .ok (.iinc 1 1, 3) := by decide +kernel
theorem dX9_image_34 : decode cX9_image 34 = .ok (.goto (-32), 3) := by decide +kernel
theorem dX9_image_37 : decode cX9_image 37 = .ok (.aload_n 0, 1) := by decide +kernel
theorem dX9_image_38 : decode cX9_image 38 = .ok (.getfield 53, 3) := by decide +kernel
theorem dX9_image_41 : decode cX9_image 41 = .ok (.iconst 0, 1) := by decide +kernel
theorem dX9_image_42 : decode cX9_image 42 = .ok (.aload_n 0, 1) := by decide +kernel
theorem dX9_image_43 : decode cX9_image 43 = .ok (.getfield 59, 3) := by decide +kernel
theorem dX9_image_46 : decode cX9_image 46 = .ok (.getfield 280, 3) := by decide +kernel
theorem dX9_image_49 : decode cX9_image 49 = .ok (.iconst 0, 1) := by decide +kernel
theorem dX9_image_50 : decode cX9_image 50 = .ok (.iconst 5, 1) := by decide +kernel
theorem dX9_image_51 : decode cX9_image 51 = .ok (.invokestatic 281, 3) := by decide +kernel
theorem dX9_image_54 : decode cX9_image 54 = .ok (.aload_n 0, 1) := by decide +kernel
theorem dX9_image_55 : decode cX9_image 55 = .ok (.getfield 59, 3) := by decide +kernel
theorem dX9_image_58 : decode cX9_image 58 = .ok (.iconst 1, 1) := by decide +kernel
theorem dX9_image_59 : decode cX9_image 59 = .ok (.putfield 287, 3) := by decide +kernel
theorem dX9_image_62 : decode cX9_image 62 = .ok (.aload_n 0, 1) := by decide +kernel
theorem dX9_image_63 : decode cX9_image 63 = .ok (.getfield 53, 3) := by decide +kernel
theorem dX9_image_66 : decode cX9_image 66 = .ok (.iconst 0, 1) := by decide +kernel
theorem dX9_image_67 : decode cX9_image 67 = .ok (.iaload, 1) := by decide +kernel
theorem dX9_image_68 : decode cX9_image 68 = .ok (.ireturn, 1) := by decide +kernel
theorem dX9_back_0 : decode cX9_back 0 = .ok (.aload_n 0, 1) := by decide +kernel
theorem dX9_back_1 : decode cX9_back 1 = .ok (.getfield 59, 3) := by decide +kernel
theorem dX9_back_4 : decode cX9_back 4 = .ok (.getfield 287, 3) := by decide +kernel
theorem dX9_back_7 : decode cX9_back 7 = .ok (.ifCond .ne 6, 3) := by decide +kernel
theorem dX9_back_10 : decode cX9_back 10 = .ok (.bipush (-5), 2) := by decide +kernel
theorem dX9_back_12 : decode cX9_back 12 = .ok (.ireturn, 1) := by decide +kernel
theorem dX9_back_13 : decode cX9_back 13 = .ok (.iconst 0, 1) := by decide +kernel
theorem dX9_back_14 : decode cX9_back 14 = .ok (.istore_n 1, 1) := by decide +kernel
theorem dX9_back_15 : decode cX9_back 15 = .ok (.iload_n 1, 1) := by decide +kernel
theorem dX9_back_16 : decode cX9_back 16 = .ok (.aload_n 0, 1) := by decide +kernel
theorem dX9_back_17 : decode cX9_back 17 = .ok (.getfield 94, 3) := by decide +kernel
theorem dX9_back_20 : decode cX9_back 20 = .ok (.if_icmp .ge 30, 3) := by decide +kernel
theorem dX9_back_23 : decode cX9_back 23 = .ok (.aload_n 0, 1) := by decide +kernel
theorem dX9_back_24 : decode cX9_back 24 = .ok (.getfield 11, 3) := by decide +kernel
theorem dX9_back_27 : decode cX9_back 27 = .ok (.iload_n 1, 1) := by decide +kernel
theorem dX9_back_28 : decode cX9_back 28 = .ok (.aaload, 1) := by decide +kernel
theorem dX9_back_29 : decode cX9_back 29 = .ok (.getfield 141, 3) := by decide +kernel
theorem dX9_back_32 : decode cX9_back 32 = .ok (.aload_n 0, 1) := by decide +kernel
theorem dX9_back_33 : decode cX9_back 33 = .ok (.getfield 59, 3) := by decide +kernel
theorem dX9_back_36 : decode cX9_back 36 = .ok (.getfield 277, 3) := by decide +kernel
theorem dX9_back_39 : decode cX9_back 39 = .ok (.iload_n 1, 1) := by decide +kernel
theorem dX9_back_40 : decode cX9_back 40 = .ok (.aaload, 1) := by decide +kernel
theorem dX9_back_41 : decode cX9_back 41 = .ok (.invokevirtual 201, 3) := by decide +kernel
theorem dX9_back_44 : decode cX9_back 44 = .ok (.iinc 1 1, 3) := by decide +kernel
theorem dX9_back_47 : decode cX9_back 47 = .ok (.goto (-32), 3) := by decide +kernel
theorem dX9_back_50 : decode cX9_back 50 = .ok (.aload_n 0, 1) := by decide +kernel
theorem dX9_back_51 : decode cX9_back 51 = .ok (.getfield 59, 3) := by decide +kernel
theorem dX9_back_54 : decode cX9_back 54 = .ok (.getfield 280, 3) := by decide +kernel
theorem dX9_back_57 : decode cX9_back 57 = .ok (.iconst 0, 1) := by decide +kernel
theorem dX9_back_58 : decode cX9_back 58 = .ok (.aload_n 0, 1) := by decide +kernel
theorem dX9_back_59 : decode cX9_back 59 = .ok (.getfield 53, 3) := by decide +kernel
theorem dX9_back_62 : decode cX9_back 62 = .ok (.iconst 0, 1) := by decide +kernel
theorem dX9_back_63 : decode cX9_back 63 = .ok (.iconst 5, 1) := by decide +kernel
theorem dX9_back_64 : decode cX9_back 64 = .ok (.invokestatic 281, 3) := by decide +kernel
theorem dX9_back_67 : decode cX9_back 67 = .ok (.aload_n 0, 1) := by decide +kernel
theorem dX9_back_68 : decode cX9_back 68 = .ok (.getfield 53, 3) := by decide +kernel
theorem dX9_back_71 : decode cX9_back 71 = .ok (.iconst 0, 1) := by decide +kernel
theorem dX9_back_72 : decode cX9_back 72 = .ok (.iaload, 1) := by decide +kernel
theorem dX9_back_73 : decode cX9_back 73 = .ok (.ireturn, 1) := by decide +kernel
theorem dX9_undo_0 : decode cX9_undo 0 = .ok (.aload_n 0, 1) := by decide +kernel
theorem dX9_undo_1 : decode cX9_undo 1 = .ok (.getfield 66, 3) := by decide +kernel
theorem dX9_undo_4 : decode cX9_undo 4 = .ok (.getfield 291, 3) := by decide +kernel
theorem dX9_undo_7 : decode cX9_undo 7 = .ok (.iconst 1, 1) := by decide +kernel
theorem dX9_undo_8 : decode cX9_undo 8 = .ok (.isub, 1) := by decide +kernel
theorem dX9_undo_9 : decode cX9_undo 9 = .ok (.istore_n 1, 1) := by decide +kernel
theorem dX9_undo_10 : decode cX9_undo 10 = .ok (.iload_n 1, 1) := by decide +kernel
theorem dX9_undo_11 : decode cX9_undo 11 = .ok (.ifCond .lt 9, 3) := by decide +kernel
theorem dX9_undo_14 : decode cX9_undo 14 = .ok (.iload_n 1, 1) := by decide +kernel
theorem dX9_undo_15 : decode cX9_undo 15 = .ok (.bipush 40, 2) := by decide +kernel
theorem dX9_undo_17 : decode cX9_undo 17 = .ok (.if_icmp .lt 6, 3) := by decide +kernel
theorem dX9_undo_20 : decode cX9_undo 20 = .ok (.bipush (-5), 2) := by decide +kernel
theorem dX9_undo_22 : decode cX9_undo 22 = .ok (.ireturn, 1) := by decide +kernel
theorem dX9_undo_23 : decode cX9_undo 23 = .ok (.aload_n 0, 1) := by decide +kernel
theorem dX9_undo_24 : decode cX9_undo 24 = .ok (.aload_n 0, 1) := by decide +kernel
theorem dX9_undo_25 : decode cX9_undo 25 = .ok (.getfield 66, 3) := by decide +kernel
theorem dX9_undo_28 : decode cX9_undo 28 = .ok (.getfield 294, 3) := by decide +kernel
theorem dX9_undo_31 : decode cX9_undo 31 = .ok (.iload_n 1, 1) := by decide +kernel
theorem dX9_undo_32 : decode cX9_undo 32 = .ok (.iaload, 1) := by decide +kernel
theorem dX9_undo_33 : decode cX9_undo 33 = .ok (.aload_n 0, 1) := by decide +kernel
theorem dX9_undo_34 : decode cX9_undo 34 = .ok (.getfield 66, 3) := by decide +kernel
theorem dX9_undo_37 : decode cX9_undo 37 = .ok (.getfield 297, 3) := by decide +kernel
theorem dX9_undo_40 : decode cX9_undo 40 = .ok (.iload_n 1, 1) := by decide +kernel
theorem dX9_undo_41 : decode cX9_undo 41 = .ok (.iaload, 1) := by decide +kernel
theorem dX9_undo_42 : decode cX9_undo 42 = .ok (.aload_n 0, 1) := by decide +kernel
theorem dX9_undo_43 : decode cX9_undo 43 = .ok (.getfield 66, 3) := by decide +kernel
theorem dX9_undo_46 : decode cX9_undo 46 = .ok (.getfield 300, 3) := by decide +kernel
theorem dX9_undo_49 : decode cX9_undo 49 = .ok (.iload_n 1, 1) := by decide +kernel
theorem dX9_undo_50 : decode cX9_undo 50 = .ok (.iaload, 1) := by decide +kernel
theorem dX9_undo_51 : decode cX9_undo 51 = .ok (.invokevirtual 133, 3) := by decide +kernel
theorem dX9_undo_54 : decode cX9_undo 54 = .ok (.aload_n 0, 1) := by decide +kernel
theorem dX9_undo_55 : decode cX9_undo 55 = .ok (.getfield 66, 3) := by decide +kernel
theorem dX9_undo_58 : decode cX9_undo 58 = .ok (.iload_n 1, 1) := by decide +kernel
theorem dX9_undo_59 : decode cX9_undo 59 = .ok (.putfield 291, 3) := by decide +kernel
theorem dX9_undo_62 : decode cX9_undo 62 = .ok (.iload_n 1, 1) := by decide +kernel
theorem dX9_undo_63 : decode cX9_undo 63 = .ok (.ireturn, 1) := by decide +kernel
theorem dX9_redo_0 : decode cX9_redo 0 = .ok (.aload_n 0, 1) := by decide +kernel
theorem dX9_redo_1 : decode cX9_redo 1 = .ok (.getfield 66, 3) := by decide +kernel
theorem dX9_redo_4 : decode cX9_redo 4 = .ok (.getfield 291, 3) := by decide +kernel
theorem dX9_redo_7 : decode cX9_redo 7 = .ok (.istore_n 1, 1) := by decide +kernel
theorem dX9_redo_8 : decode cX9_redo 8 = .ok (.iload_n 1, 1) := by decide +kernel
theorem dX9_redo_9 : decode cX9_redo 9 = .ok (.ifCond .lt 20, 3) := by decide +kernel
theorem dX9_redo_12 : decode cX9_redo 12 = .ok (.iload_n 1, 1) := by decide +kernel
theorem dX9_redo_13 : decode cX9_redo 13 = .ok (.aload_n 0, 1) := by decide +kernel
theorem dX9_redo_14 : decode cX9_redo 14 = .ok (.getfield 66, 3) := by decide +kernel
theorem dX9_redo_17 : decode cX9_redo 17 = .ok (.getfield 303, 3) := by decide +kernel
theorem dX9_redo_20 : decode cX9_redo 20 = .ok (.if_icmp .ge 9, 3) := by decide +kernel
theorem dX9_redo_23 : decode cX9_redo 23 = .ok (.iload_n 1, 1) := by decide +kernel
theorem dX9_redo_24 : decode cX9_redo 24 = .ok (.bipush 40, 2) := by decide +kernel
theorem dX9_redo_26 : decode cX9_redo 26 = .ok (.if_icmp .lt 6, 3) := by decide +kernel
theorem dX9_redo_29 : decode cX9_redo 29 = .ok (.bipush (-5), 2) := by decide +kernel
theorem dX9_redo_31 : decode cX9_redo 31 = .ok (.ireturn, 1) := by decide +kernel
theorem dX9_redo_32 : decode cX9_redo 32 = .ok (.aload_n 0, 1) := by decide +kernel
theorem dX9_redo_33 : decode cX9_redo 33 = .ok (.aload_n 0, 1) := by decide +kernel
theorem dX9_redo_34 : decode cX9_redo 34 = .ok (.getfield 66, 3) := by decide +kernel
theorem dX9_redo_37 : decode cX9_redo 37 = .ok (.getfield 294, 3) := by decide +kernel
theorem dX9_redo_40 : decode cX9_redo 40 = .ok (.iload_n 1, 1) := by decide +kernel
theorem dX9_redo_41 : decode cX9_redo 41 = .ok (.iaload, 1) := by decide +kernel
theorem dX9_redo_42 : decode cX9_redo 42 = .ok (.aload_n 0, 1) := by decide +kernel
theorem dX9_redo_43 : decode cX9_redo 43 = .ok (.getfield 66, 3) := by decide +kernel
theorem dX9_redo_46 : decode cX9_redo 46 = .ok (.getfield 297, 3) := by decide +kernel
theorem dX9_redo_49 : decode cX9_redo 49 = .ok (.iload_n 1, 1) := by decide +kernel
theorem dX9_redo_50 : decode cX9_redo 50 = .ok (.iaload, 1) := by decide +kernel
theorem dX9_redo_51 : decode cX9_redo 51 = .ok (.aload_n 0, 1) := by decide +kernel
theorem dX9_redo_52 : decode cX9_redo 52 = .ok (.getfield 66, 3) := by decide +kernel
theorem dX9_redo_55 : decode cX9_redo 55 = .ok (.getfield 306, 3) := by decide +kernel
theorem dX9_redo_58 : decode cX9_redo 58 = .ok (.iload_n 1, 1) := by decide +kernel
theorem dX9_redo_59 : decode cX9_redo 59 = .ok (.iaload, 1) := by decide +kernel
theorem dX9_redo_60 : decode cX9_redo 60 = .ok (.invokevirtual 133, 3) := by decide +kernel
theorem dX9_redo_63 : decode cX9_redo 63 = .ok (.aload_n 0, 1) := by decide +kernel
theorem dX9_redo_64 : decode cX9_redo 64 = .ok (.getfield 66, 3) := by decide +kernel
theorem dX9_redo_67 : decode cX9_redo 67 = .ok (.iload_n 1, 1) := by decide +kernel
theorem dX9_redo_68 : decode cX9_redo 68 = .ok (.iconst 1, 1) := by decide +kernel
theorem dX9_redo_69 : decode cX9_redo 69 = .ok (.iadd, 1) := by decide +kernel
theorem dX9_redo_70 : decode cX9_redo 70 = .ok (.putfield 291, 3) := by decide +kernel
theorem dX9_redo_73 : decode cX9_redo 73 = .ok (.aload_n 0, 1) := by decide +kernel
theorem dX9_redo_74 : decode cX9_redo 74 = .ok (.getfield 66, 3) := by decide +kernel
theorem dX9_redo_77 : decode cX9_redo 77 = .ok (.getfield 303, 3) := by decide +kernel
theorem dX9_redo_80 : decode cX9_redo 80 = .ok (.aload_n 0, 1) := by decide +kernel
theorem dX9_redo_81 : decode cX9_redo 81 = .ok (.getfield 66, 3) := by decide +kernel
theorem dX9_redo_84 : decode cX9_redo 84 = .ok (.getfield 291, 3) := by decide +kernel
theorem dX9_redo_87 : decode cX9_redo 87 = .ok (.isub, 1) := by decide +kernel
theorem dX9_redo_88 : decode cX9_redo 88 = .ok (.ireturn, 1) := by decide +kernel
theorem dX9_body_0 : decode cX9_body 0 = .ok (.iload_n 1, 1) := by decide +kernel
theorem dX9_body_1 : decode cX9_body 1 = .ok (.bipush 7, 2) := by decide +kernel
theorem dX9_body_3 : decode cX9_body 3 = .ok (.invokestatic 90, 3) := by decide +kernel
theorem dX9_body_6 : decode cX9_body 6 = .ok (.ifCond .ne 5, 3) := by decide +kernel
theorem dX9_body_9 : decode cX9_body 9 = .ok (.iconst (-1), 1) := by decide +kernel
theorem dX9_body_10 : decode cX9_body 10 = .ok (.ireturn, 1) := by decide +kernel
theorem dX9_body_11 : decode cX9_body 11 = .ok (.aload_n 0, 1) := by decide +kernel
theorem dX9_body_12 : decode cX9_body 12 = .ok (.getfield 73, 3) := by decide +kernel
theorem dX9_body_15 : decode cX9_body 15 = .ok (.iload_n 1, 1) := by decide +kernel
theorem dX9_body_16 : decode cX9_body 16 = .ok (.invokevirtual 309, 3) := by decide +kernel
theorem dX9_body_19 : decode cX9_body 19 = .ok (.ireturn, 1) := by decide +kernel
theorem dX9_act_0 : decode cX9_act 0 = .ok (.aload_n 0, 1) := by decide +kernel
theorem dX9_act_1 : decode cX9_act 1 = .ok (.getfield 73, 3) := by decide +kernel
theorem dX9_act_4 : decode cX9_act 4 = .ok (.iconst 0, 1) := by decide +kernel
theorem dX9_act_5 : decode cX9_act 5 = .ok (.putfield 311, 3) := by decide +kernel
theorem dX9_act_8 : decode cX9_act 8 = .ok (.aload_n 0, 1) := by decide +kernel
theorem dX9_act_9 : decode cX9_act 9 = .ok (.getfield 73, 3) := by decide +kernel
theorem dX9_act_12 : decode cX9_act 12 = .ok (.iload_n 1, 1) := by decide +kernel
theorem dX9_act_13 : decode cX9_act 13 = .ok (.invokevirtual 314, 3) := by decide +kernel
theorem dX9_act_16 : decode cX9_act 16 = .ok (.ifCond .eq 11, 3) := by decide +kernel
theorem dX9_act_19 : decode cX9_act 19 = .ok (.iload_n 2, 1) := by decide +kernel
theorem dX9_act_20 : decode cX9_act 20 = .ok (.iconst 3, 1) := by decide +kernel
theorem dX9_act_21 : decode cX9_act 21 = .ok (.invokestatic 90, 3) := by decide +kernel
theorem dX9_act_24 : decode cX9_act 24 = .ok (.ifCond .ne 5, 3) := by decide +kernel
theorem dX9_act_27 : decode cX9_act 27 = .ok (.iconst 0, 1) := by decide +kernel
theorem dX9_act_28 : decode cX9_act 28 = .ok (.ireturn, 1) := by decide +kernel
theorem dX9_act_29 : decode cX9_act 29 = .ok (.aload_n 0, 1) := by decide +kernel
theorem dX9_act_30 : decode cX9_act 30 = .ok (.getfield 73, 3) := by decide +kernel
theorem dX9_act_33 : decode cX9_act 33 = .ok (.iload_n 1, 1) := by decide +kernel
theorem dX9_act_34 : decode cX9_act 34 = .ok (.aload_n 0, 1) := by decide +kernel
theorem dX9_act_35 : decode cX9_act 35 = .ok (.getfield 73, 3) := by decide +kernel
theorem dX9_act_38 : decode cX9_act 38 = .ok (.getfield 317, 3) := by decide +kernel
theorem dX9_act_41 : decode cX9_act 41 = .ok (.iload_n 1, 1) := by decide +kernel
theorem dX9_act_42 : decode cX9_act 42 = .ok (.iaload, 1) := by decide +kernel
theorem dX9_act_43 : decode cX9_act 43 = .ok (.iload_n 2, 1) := by decide +kernel
theorem dX9_act_44 : decode cX9_act 44 = .ok (.iload_n 3, 1) := by decide +kernel
theorem dX9_act_45 : decode cX9_act 45 = .ok (.iconst 0, 1) := by decide +kernel
theorem dX9_act_46 : decode cX9_act 46 = .ok (.invokevirtual 320, 3) := by decide +kernel
theorem dX9_act_49 : decode cX9_act 49 = .ok (.ireturn, 1) := by decide +kernel
theorem dX9_trace_0 : decode cX9_trace 0 = .ok (.iload_n 1, 1) := by decide +kernel
theorem dX9_trace_1 : decode cX9_trace 1 = .ok (.ifCond .lt 32, 3) := by decide +kernel
theorem dX9_trace_4 : decode cX9_trace 4 = .ok (.iload_n 1, 1) := by decide +kernel
theorem dX9_trace_5 : decode cX9_trace 5 = .ok (.bipush 24, 2) := by decide +kernel
theorem dX9_trace_7 : decode cX9_trace 7 = .ok (.if_icmp .ge 26, 3) := by decide +kernel
theorem dX9_trace_10 : decode cX9_trace 10 = .ok (.iload_n 1, 1) := by decide +kernel
theorem dX9_trace_11 : decode cX9_trace 11 = .ok (.aload_n 0, 1) := by decide +kernel
theorem dX9_trace_12 : decode cX9_trace 12 = .ok (.getfield 73, 3) := by decide +kernel
theorem dX9_trace_15 : decode cX9_trace 15 = .ok (.getfield 311, 3) := by decide +kernel
theorem dX9_trace_18 : decode cX9_trace 18 = .ok (.if_icmp .ge 15, 3) := by decide +kernel
theorem dX9_trace_21 : decode cX9_trace 21 = .ok (.aload_n 0, 1) := by decide +kernel
theorem dX9_trace_22 : decode cX9_trace 22 = .ok (.getfield 73, 3) := by decide +kernel
theorem dX9_trace_25 : decode cX9_trace 25 = .ok (.getfield 324, 3) := by decide +kernel
theorem dX9_trace_28 : decode cX9_trace 28 = .ok (.iload_n 1, 1) := by decide +kernel
theorem dX9_trace_29 : decode cX9_trace 29 = .ok (.iaload, 1) := by decide +kernel
theorem dX9_trace_30 : decode cX9_trace 30 = .ok (.goto 4, 3) := by decide +kernel
theorem dX9_trace_33 : decode cX9_trace 33 = .ok (.iconst (-1), 1) := by decide +kernel
theorem dX9_trace_34 : decode cX9_trace 34 = .ok (.ireturn, 1) := by decide +kernel
theorem dX9_keep_0 : decode cX9_keep 0 = .ok (.iload_n 1, 1) := by decide +kernel
theorem dX9_keep_1 : decode cX9_keep 1 = .ok (.invokestatic 101, 3) := by decide +kernel
theorem dX9_keep_4 : decode cX9_keep 4 = .ok (.ifCond .eq 19, 3) := by decide +kernel
theorem dX9_keep_7 : decode cX9_keep 7 = .ok (.iload_n 2, 1) := by decide +kernel
theorem dX9_keep_8 : decode cX9_keep 8 = .ok (.iconst (-1), 1) := by decide +kernel
theorem dX9_keep_9 : decode cX9_keep 9 = .ok (.if_icmp .eq 16, 3) := by decide +kernel
theorem dX9_keep_12 : decode cX9_keep 12 = .ok (.aload_n 0, 1) := by decide +kernel
theorem dX9_keep_13 : decode cX9_keep 13 = .ok (.getfield 73, 3) := by decide +kernel
theorem dX9_keep_16 : decode cX9_keep 16 = .ok (.iload_n 2, 1) := by decide +kernel
theorem dX9_keep_17 : decode cX9_keep 17 = .ok (.invokevirtual 314, 3) := by decide +kernel
theorem dX9_keep_20 : decode cX9_keep 20 = .ok (.ifCond .ne 5, 3) := by decide +kernel
theorem dX9_keep_23 : decode cX9_keep 23 = .ok (.iconst (-1), 1) := by decide +kernel
theorem dX9_keep_24 : decode cX9_keep 24 = .ok (.ireturn, 1) := by decide +kernel
theorem dX9_keep_25 : decode cX9_keep 25 = .ok (.aload_n 0, 1) := by decide +kernel
theorem dX9_keep_26 : decode cX9_keep 26 = .ok (.getfield 79, 3) := by decide +kernel
theorem dX9_keep_29 : decode cX9_keep 29 = .ok (.iload_n 1, 1) := by decide +kernel
theorem dX9_keep_30 : decode cX9_keep 30 = .ok (.aaload, 1) := by decide +kernel
theorem dX9_keep_31 : decode cX9_keep 31 = .ok (.astore_n 3, 1) := by decide +kernel
theorem dX9_keep_32 : decode cX9_keep 32 = .ok (.aload_n 3, 1) := by decide +kernel
theorem dX9_keep_33 : decode cX9_keep 33 = .ok (.iload_n 2, 1) := by decide +kernel
theorem dX9_keep_34 : decode cX9_keep 34 = .ok (.iconst (-1), 1) := by decide +kernel
theorem dX9_keep_35 : decode cX9_keep 35 = .ok (.if_icmp .ne 7, 3) := by decide +kernel
theorem dX9_keep_38 : decode cX9_keep 38 = .ok (.iconst 0, 1) := by decide +kernel
theorem dX9_keep_39 : decode cX9_keep 39 = .ok (.goto 4, 3) := by decide +kernel
theorem dX9_keep_42 : decode cX9_keep 42 = .ok (.iconst 1, 1) := by decide +kernel
theorem dX9_keep_43 : decode cX9_keep 43 = .ok (.putfield 105, 3) := by decide +kernel
theorem dX9_keep_46 : decode cX9_keep 46 = .ok (.aload_n 3, 1) := by decide +kernel
theorem dX9_keep_47 : decode cX9_keep 47 = .ok (.iload_n 2, 1) := by decide +kernel
theorem dX9_keep_48 : decode cX9_keep 48 = .ok (.putfield 327, 3) := by decide +kernel
theorem dX9_keep_51 : decode cX9_keep 51 = .ok (.iconst 1, 1) := by decide +kernel
theorem dX9_keep_52 : decode cX9_keep 52 = .ok (.ireturn, 1) := by decide +kernel
theorem dX9_row_0 : decode cX9_row 0 = .ok (.iload_n 1, 1) := by decide +kernel
theorem dX9_row_1 : decode cX9_row 1 = .ok (.invokestatic 101, 3) := by decide +kernel
theorem dX9_row_4 : decode cX9_row 4 = .ok (.ifCond .eq 17, 3) := by decide +kernel
theorem dX9_row_7 : decode cX9_row 7 = .ok (.iload_n 2, 1) := by decide +kernel
theorem dX9_row_8 : decode cX9_row 8 = .ok (.iconst 4, 1) := by decide +kernel
theorem dX9_row_9 : decode cX9_row 9 = .ok (.invokestatic 90, 3) := by decide +kernel
theorem dX9_row_12 : decode cX9_row 12 = .ok (.ifCond .eq 9, 3) := by decide +kernel
theorem dX9_row_15 : decode cX9_row 15 = .ok (.iload_n 3, 1) := by decide +kernel
theorem dX9_row_16 : decode cX9_row 16 = .ok (.bipush 60, 2) := by decide +kernel
theorem dX9_row_18 : decode cX9_row 18 = .ok (.if_icmp .le 5, 3) := by decide +kernel
theorem dX9_row_21 : decode cX9_row 21 = .ok (.iconst (-1), 1) := by decide +kernel
theorem dX9_row_22 : decode cX9_row 22 = .ok (.ireturn, 1) := by decide +kernel
theorem dX9_row_23 : decode cX9_row 23 = .ok (.iload_n 3, 1) := by decide +kernel
theorem dX9_row_24 : decode cX9_row 24 = .ok (.ifCond .ge 6, 3) := by decide +kernel
theorem dX9_row_27 : decode cX9_row 27 = .ok (.bipush (-14), 2) := by decide +kernel
theorem dX9_row_29 : decode cX9_row 29 = .ok (.ireturn, 1) := by decide +kernel
theorem dX9_row_30 : decode cX9_row 30 = .ok (.aload_n 0, 1) := by decide +kernel
theorem dX9_row_31 : decode cX9_row 31 = .ok (.getfield 79, 3) := by decide +kernel
theorem dX9_row_34 : decode cX9_row 34 = .ok (.iload_n 1, 1) := by decide +kernel
theorem dX9_row_35 : decode cX9_row 35 = .ok (.aaload, 1) := by decide +kernel
theorem dX9_row_36 : decode cX9_row 36 = .ok (.astore 4, 2) := by decide +kernel
theorem dX9_row_38 : decode cX9_row 38 = .ok (.aload 4, 2) := by decide +kernel
theorem dX9_row_40 : decode cX9_row 40 = .ok (.iconst 2, 1) := by decide +kernel
theorem dX9_row_41 : decode cX9_row 41 = .ok (.putfield 105, 3) := by decide +kernel
theorem dX9_row_44 : decode cX9_row 44 = .ok (.aload 4, 2) := by decide +kernel
theorem dX9_row_46 : decode cX9_row 46 = .ok (.iload_n 2, 1) := by decide +kernel
theorem dX9_row_47 : decode cX9_row 47 = .ok (.putfield 330, 3) := by decide +kernel
theorem dX9_row_50 : decode cX9_row 50 = .ok (.aload 4, 2) := by decide +kernel
theorem dX9_row_52 : decode cX9_row 52 = .ok (.iload_n 3, 1) := by decide +kernel
theorem dX9_row_53 : decode cX9_row 53 = .ok (.putfield 112, 3) := by decide +kernel
theorem dX9_row_56 : decode cX9_row 56 = .ok (.aload 4, 2) := by decide +kernel
theorem dX9_row_58 : decode cX9_row 58 = .ok (.getfield 115, 3) := by decide +kernel
theorem dX9_row_61 : decode cX9_row 61 = .ok (.lconst 0, 1) := by decide +kernel
theorem dX9_row_62 : decode cX9_row 62 = .ok (.invokestatic 333, 3) := by decide +kernel
theorem dX9_row_65 : decode cX9_row 65 = .ok (.iconst 1, 1) := by decide +kernel
theorem dX9_row_66 : decode cX9_row 66 = .ok (.ireturn, 1) := by decide +kernel
theorem dX9_put_0 : decode cX9_put 0 = .ok (.aload_n 0, 1) := by decide +kernel
theorem dX9_put_1 : decode cX9_put 1 = .ok (.iload_n 1, 1) := by decide +kernel
theorem dX9_put_2 : decode cX9_put 2 = .ok (.iload_n 2, 1) := by decide +kernel
theorem dX9_put_3 : decode cX9_put 3 = .ok (.invokevirtual 336, 3) := by decide +kernel
theorem dX9_put_6 : decode cX9_put 6 = .ok (.istore 5, 2) := by decide +kernel
theorem dX9_put_8 : decode cX9_put 8 = .ok (.iload 5, 2) := by decide +kernel
theorem dX9_put_10 : decode cX9_put 10 = .ok (.ifCond .ge 6, 3) := by decide +kernel
theorem dX9_put_13 : decode cX9_put 13 = .ok (.iload 5, 2) := by decide +kernel
theorem dX9_put_15 : decode cX9_put 15 = .ok (.ireturn, 1) := by decide +kernel
theorem dX9_put_16 : decode cX9_put 16 = .ok (.aload_n 0, 1) := by decide +kernel
theorem dX9_put_17 : decode cX9_put 17 = .ok (.getfield 79, 3) := by decide +kernel
theorem dX9_put_20 : decode cX9_put 20 = .ok (.iload_n 1, 1) := by decide +kernel
theorem dX9_put_21 : decode cX9_put 21 = .ok (.aaload, 1) := by decide +kernel
theorem dX9_put_22 : decode cX9_put 22 = .ok (.astore 6, 2) := by decide +kernel
theorem dX9_put_24 : decode cX9_put 24 = .ok (.aload 6, 2) := by decide +kernel
theorem dX9_put_26 : decode cX9_put 26 = .ok (.getfield 115, 3) := by decide +kernel
theorem dX9_put_29 : decode cX9_put 29 = .ok (.iload_n 2, 1) := by decide +kernel
theorem dX9_put_30 : decode cX9_put 30 = .ok (.aload 6, 2) := by decide +kernel
theorem dX9_put_32 : decode cX9_put 32 = .ok (.lload_n 3, 1) := by decide +kernel
theorem dX9_put_33 : decode cX9_put 33 = .ok (.invokevirtual 339, 3) := by decide +kernel
theorem dX9_put_36 : decode cX9_put 36 = .ok (.lastore, 1) := by decide +kernel
theorem dX9_put_37 : decode cX9_put 37 = .ok (.iconst 1, 1) := by decide +kernel
theorem dX9_put_38 : decode cX9_put 38 = .ok (.ireturn, 1) := by decide +kernel
theorem dX9_element_0 : decode cX9_element 0 = .ok (.aload_n 0, 1) := by decide +kernel
theorem dX9_element_1 : decode cX9_element 1 = .ok (.iload_n 1, 1) := by decide +kernel
theorem dX9_element_2 : decode cX9_element 2 = .ok (.iload_n 2, 1) := by decide +kernel
theorem dX9_element_3 : decode cX9_element 3 = .ok (.invokevirtual 336, 3) := by decide +kernel
theorem dX9_element_6 : decode cX9_element 6 = .ok (.ifCond .ge 9, 3) := by decide +kernel
theorem dX9_element_9 : decode cX9_element 9 = .ok (.ldc2_w 234, 3) := by decide +kernel
theorem dX9_element_12 : decode cX9_element 12 = .ok (.goto 14, 3) := by decide +kernel
theorem dX9_element_15 : decode cX9_element 15 = .ok (.aload_n 0, 1) := by decide +kernel
theorem dX9_element_16 : decode cX9_element 16 = .ok (.getfield 79, 3) := by decide +kernel
theorem dX9_element_19 : decode cX9_element 19 = .ok (.iload_n 1, 1) := by decide +kernel
theorem dX9_element_20 : decode cX9_element 20 = .ok (.aaload, 1) := by decide +kernel
theorem dX9_element_21 : decode cX9_element 21 = .ok (.getfield 115, 3) := by decide +kernel
theorem dX9_element_24 : decode cX9_element 24 = .ok (.iload_n 2, 1) := by decide +kernel
theorem dX9_element_25 : decode cX9_element 25 = .ok (.laload, 1) := by decide +kernel
theorem dX9_element_26 : decode cX9_element 26 = .ok (.lreturn, 1) := by decide +kernel
theorem dX9_shift_0 : decode cX9_shift 0 = .ok (.iload_n 1, 1) := by decide +kernel
theorem dX9_shift_1 : decode cX9_shift 1 = .ok (.invokestatic 101, 3) := by decide +kernel
theorem dX9_shift_4 : decode cX9_shift 4 = .ok (.ifCond .eq 10, 3) := by decide +kernel
theorem dX9_shift_7 : decode cX9_shift 7 = .ok (.iload_n 3, 1) := by decide +kernel
theorem dX9_shift_8 : decode cX9_shift 8 = .ok (.invokestatic 101, 3) := by decide +kernel
theorem dX9_shift_11 : decode cX9_shift 11 = .ok (.ifCond .ne 5, 3) := by decide +kernel
theorem dX9_shift_14 : decode cX9_shift 14 = .ok (.iconst (-1), 1) := by decide +kernel
theorem dX9_shift_15 : decode cX9_shift 15 = .ok (.ireturn, 1) := by decide +kernel
theorem dX9_shift_16 : decode cX9_shift 16 = .ok (.aload_n 0, 1) := by decide +kernel
theorem dX9_shift_17 : decode cX9_shift 17 = .ok (.getfield 79, 3) := by decide +kernel
theorem dX9_shift_20 : decode cX9_shift 20 = .ok (.iload_n 1, 1) := by decide +kernel
theorem dX9_shift_21 : decode cX9_shift 21 = .ok (.aaload, 1) := by decide +kernel
theorem dX9_shift_22 : decode cX9_shift 22 = .ok (.astore 6, 2) := by decide +kernel
theorem dX9_shift_24 : decode cX9_shift 24 = .ok (.aload_n 0, 1) := by decide +kernel
theorem dX9_shift_25 : decode cX9_shift 25 = .ok (.getfield 79, 3) := by decide +kernel
theorem dX9_shift_28 : decode cX9_shift 28 = .ok (.iload_n 3, 1) := by decide +kernel
theorem dX9_shift_29 : decode cX9_shift 29 = .ok (.aaload, 1) := by decide +kernel
theorem dX9_shift_30 : decode cX9_shift 30 = .ok (.astore 7, 2) := by decide +kernel
theorem dX9_shift_32 : decode cX9_shift 32 = .ok (.aload 6, 2) := by decide +kernel
theorem dX9_shift_34 : decode cX9_shift 34 = .ok (.getfield 105, 3) := by decide +kernel
theorem dX9_shift_37 : decode cX9_shift 37 = .ok (.ifCond .eq 11, 3) := by decide +kernel
theorem dX9_shift_40 : decode cX9_shift 40 = .ok (.aload 7, 2) := by decide +kernel
theorem dX9_shift_42 : decode cX9_shift 42 = .ok (.getfield 105, 3) := by decide +kernel
theorem dX9_shift_45 : decode cX9_shift 45 = .ok (.ifCond .ne 6, 3) := by decide +kernel
theorem dX9_shift_48 : decode cX9_shift 48 = .ok (.bipush (-11), 2) := by decide +kernel
theorem dX9_shift_50 : decode cX9_shift 50 = .ok (.ireturn, 1) := by decide +kernel
theorem dX9_shift_51 : decode cX9_shift 51 = .ok (.aload 6, 2) := by decide +kernel
theorem dX9_shift_53 : decode cX9_shift 53 = .ok (.invokevirtual 343, 3) := by decide +kernel
theorem dX9_shift_56 : decode cX9_shift 56 = .ok (.ifCond .eq 24, 3) := by decide +kernel
theorem dX9_shift_59 : decode cX9_shift 59 = .ok (.aload 7, 2) := by decide +kernel
theorem dX9_shift_61 : decode cX9_shift 61 = .ok (.invokevirtual 343, 3) := by decide +kernel
theorem dX9_shift_64 : decode cX9_shift 64 = .ok (.ifCond .eq 16, 3) := by decide +kernel
theorem dX9_shift_67 : decode cX9_shift 67 = .ok (.aload 6, 2) := by decide +kernel
theorem dX9_shift_69 : decode cX9_shift 69 = .ok (.getfield 330, 3) := by decide +kernel
theorem dX9_shift_72 : decode cX9_shift 72 = .ok (.aload 7, 2) := by decide +kernel
theorem dX9_shift_74 : decode cX9_shift 74 = .ok (.getfield 330, 3) := by decide +kernel
theorem dX9_shift_77 : decode cX9_shift 77 = .ok (.if_icmp .eq 6, 3) := by decide +kernel
theorem dX9_shift_80 : decode cX9_shift 80 = .ok (.bipush (-12), 2) := by decide +kernel
theorem dX9_shift_82 : decode cX9_shift 82 = .ok (.ireturn, 1) := by decide +kernel
theorem dX9_shift_83 : decode cX9_shift 83 = .ok (.aload 6, 2) := by decide +kernel
theorem dX9_shift_85 : decode cX9_shift 85 = .ok (.iload_n 2, 1) := by decide +kernel
theorem dX9_shift_86 : decode cX9_shift 86 = .ok (.iload 5, 2) := by decide +kernel
theorem dX9_shift_88 : decode cX9_shift 88 = .ok (.invokevirtual 346, 3) := by decide +kernel
theorem dX9_shift_91 : decode cX9_shift 91 = .ok (.ifCond .eq 15, 3) := by decide +kernel
theorem dX9_shift_94 : decode cX9_shift 94 = .ok (.aload 7, 2) := by decide +kernel
theorem dX9_shift_96 : decode cX9_shift 96 = .ok (.iload 4, 2) := by decide +kernel
theorem dX9_shift_98 : decode cX9_shift 98 = .ok (.iload 5, 2) := by decide +kernel
theorem dX9_shift_100 : decode cX9_shift 100 = .ok (.invokevirtual 346, 3) := by decide +kernel
theorem dX9_shift_103 : decode cX9_shift 103 = .ok (.ifCond .ne 6, 3) := by decide +kernel
theorem dX9_shift_106 : decode cX9_shift 106 = .ok (.bipush (-13), 2) := by decide +kernel
theorem dX9_shift_108 : decode cX9_shift 108 = .ok (.ireturn, 1) := by decide +kernel
theorem dX9_shift_109 : decode cX9_shift 109 = .ok (.aload 6, 2) := by decide +kernel
theorem dX9_shift_111 : decode cX9_shift 111 = .ok (.getfield 115, 3) := by decide +kernel
theorem dX9_shift_114 : decode cX9_shift 114 = .ok (.iload_n 2, 1) := by decide +kernel
theorem dX9_shift_115 : decode cX9_shift 115 = .ok (.aload 7, 2) := by decide +kernel
theorem dX9_shift_117 : decode cX9_shift 117 = .ok (.getfield 115, 3) := by decide +kernel
theorem dX9_shift_120 : decode cX9_shift 120 = .ok (.iload 4, 2) := by decide +kernel
theorem dX9_shift_122 : decode cX9_shift 122 = .ok (.iload 5, 2) := by decide +kernel
theorem dX9_shift_124 : decode cX9_shift 124 = .ok (.invokestatic 281, 3) := by decide +kernel
theorem dX9_shift_127 : decode cX9_shift 127 = .ok (.iload 5, 2) := by decide +kernel
theorem dX9_shift_129 : decode cX9_shift 129 = .ok (.ireturn, 1) := by decide +kernel
theorem dX9_taken_0 : decode cX9_taken 0 = .ok (.iload_n 1, 1) := by decide +kernel
theorem dX9_taken_1 : decode cX9_taken 1 = .ok (.invokestatic 101, 3) := by decide +kernel
theorem dX9_taken_4 : decode cX9_taken 4 = .ok (.ifCond .eq 12, 3) := by decide +kernel
theorem dX9_taken_7 : decode cX9_taken 7 = .ok (.iload_n 2, 1) := by decide +kernel
theorem dX9_taken_8 : decode cX9_taken 8 = .ok (.bipush 7, 2) := by decide +kernel
theorem dX9_taken_10 : decode cX9_taken 10 = .ok (.invokestatic 90, 3) := by decide +kernel
theorem dX9_taken_13 : decode cX9_taken 13 = .ok (.ifCond .ne 5, 3) := by decide +kernel
theorem dX9_taken_16 : decode cX9_taken 16 = .ok (.iconst (-1), 1) := by decide +kernel
theorem dX9_taken_17 : decode cX9_taken 17 = .ok (.ireturn, 1) := by decide +kernel
theorem dX9_taken_18 : decode cX9_taken 18 = .ok (.aload_n 0, 1) := by decide +kernel
theorem dX9_taken_19 : decode cX9_taken 19 = .ok (.getfield 79, 3) := by decide +kernel
theorem dX9_taken_22 : decode cX9_taken 22 = .ok (.iload_n 1, 1) := by decide +kernel
theorem dX9_taken_23 : decode cX9_taken 23 = .ok (.aaload, 1) := by decide +kernel
theorem dX9_taken_24 : decode cX9_taken 24 = .ok (.astore_n 3, 1) := by decide +kernel
theorem dX9_taken_25 : decode cX9_taken 25 = .ok (.aload_n 3, 1) := by decide +kernel
theorem dX9_taken_26 : decode cX9_taken 26 = .ok (.getfield 105, 3) := by decide +kernel
theorem dX9_taken_29 : decode cX9_taken 29 = .ok (.ifCond .ne 6, 3) := by decide +kernel
theorem dX9_taken_32 : decode cX9_taken 32 = .ok (.bipush (-11), 2) := by decide +kernel
theorem dX9_taken_34 : decode cX9_taken 34 = .ok (.ireturn, 1) := by decide +kernel
theorem dX9_taken_35 : decode cX9_taken 35 = .ok (.aload_n 3, 1) := by decide +kernel
theorem dX9_taken_36 : decode cX9_taken 36 = .ok (.getfield 105, 3) := by decide +kernel
theorem dX9_taken_39 : decode cX9_taken 39 = .ok (.iconst 1, 1) := by decide +kernel
theorem dX9_taken_40 : decode cX9_taken 40 = .ok (.if_icmp .ne 17, 3) := by decide +kernel
theorem dX9_taken_43 : decode cX9_taken 43 = .ok (.aload_n 0, 1) := by decide +kernel
theorem dX9_taken_44 : decode cX9_taken 44 = .ok (.getfield 73, 3) := by decide +kernel
theorem dX9_taken_47 : decode cX9_taken 47 = .ok (.aload_n 3, 1) := by decide +kernel
theorem dX9_taken_48 : decode cX9_taken 48 = .ok (.getfield 327, 3) := by decide +kernel
theorem dX9_taken_51 : decode cX9_taken 51 = .ok (.invokevirtual 314, 3) := by decide +kernel
theorem dX9_taken_54 : decode cX9_taken 54 = .ok (.ifCond .ne 6, 3) := by decide +kernel
theorem dX9_taken_57 : decode cX9_taken 57 = .ok (.bipush (-12), 2) := by decide +kernel
theorem dX9_taken_59 : decode cX9_taken 59 = .ok (.ireturn, 1) := by decide +kernel
theorem dX9_taken_60 : decode cX9_taken 60 = .ok (.aload_n 0, 1) := by decide +kernel
theorem dX9_taken_61 : decode cX9_taken 61 = .ok (.getfield 73, 3) := by decide +kernel
theorem dX9_taken_64 : decode cX9_taken 64 = .ok (.getfield 317, 3) := by decide +kernel
theorem dX9_taken_67 : decode cX9_taken 67 = .ok (.aload_n 3, 1) := by decide +kernel
theorem dX9_taken_68 : decode cX9_taken 68 = .ok (.getfield 327, 3) := by decide +kernel
theorem dX9_taken_71 : decode cX9_taken 71 = .ok (.iaload, 1) := by decide +kernel
theorem dX9_taken_72 : decode cX9_taken 72 = .ok (.istore 4, 2) := by decide +kernel
theorem dX9_taken_74 : decode cX9_taken 74 = .ok (.iload 4, 2) := by decide +kernel
theorem dX9_taken_76 : decode cX9_taken 76 = .ok (.iload_n 2, 1) := by decide +kernel
theorem dX9_taken_77 : decode cX9_taken 77 = .ok (.invokestatic 349, 3) := by decide +kernel
theorem dX9_taken_80 : decode cX9_taken 80 = .ok (.ifCond .eq 8, 3) := by decide +kernel
theorem dX9_taken_83 : decode cX9_taken 83 = .ok (.iload 4, 2) := by decide +kernel
theorem dX9_taken_85 : decode cX9_taken 85 = .ok (.goto 5, 3) := by decide +kernel
theorem dX9_taken_88 : decode cX9_taken 88 = .ok (.bipush (-12), 2) := by decide +kernel
theorem dX9_taken_90 : decode cX9_taken 90 = .ok (.ireturn, 1) := by decide +kernel
theorem dX9_count_0 : decode cX9_count 0 = .ok (.iload_n 1, 1) := by decide +kernel
theorem dX9_count_1 : decode cX9_count 1 = .ok (.tableswitch 72 0 4 #[35, 40, 48, 56, 64], 35) := by decide +kernel
theorem dX9_count_36 : decode cX9_count 36 = .ok (.aload_n 0, 1) := by decide +kernel
theorem dX9_count_37 : decode cX9_count 37 = .ok (.getfield 94, 3) := by decide +kernel
theorem dX9_count_40 : decode cX9_count 40 = .ok (.ireturn, 1) := by decide +kernel
theorem dX9_count_41 : decode cX9_count 41 = .ok (.aload_n 0, 1) := by decide +kernel
theorem dX9_count_42 : decode cX9_count 42 = .ok (.getfield 22, 3) := by decide +kernel
theorem dX9_count_45 : decode cX9_count 45 = .ok (.getfield 157, 3) := by decide +kernel
theorem dX9_count_48 : decode cX9_count 48 = .ok (.ireturn, 1) := by decide +kernel
theorem dX9_count_49 : decode cX9_count 49 = .ok (.aload_n 0, 1) := by decide +kernel
theorem dX9_count_50 : decode cX9_count 50 = .ok (.getfield 66, 3) := by decide +kernel
theorem dX9_count_53 : decode cX9_count 53 = .ok (.getfield 291, 3) := by decide +kernel
theorem dX9_count_56 : decode cX9_count 56 = .ok (.ireturn, 1) := by decide +kernel
theorem dX9_count_57 : decode cX9_count 57 = .ok (.aload_n 0, 1) := by decide +kernel
theorem dX9_count_58 : decode cX9_count 58 = .ok (.getfield 73, 3) := by decide +kernel
theorem dX9_count_61 : decode cX9_count 61 = .ok (.getfield 352, 3) := by decide +kernel
theorem dX9_count_64 : decode cX9_count 64 = .ok (.ireturn, 1) := by decide +kernel
theorem dX9_count_65 : decode cX9_count 65 = .ok (.aload_n 0, 1) := by decide +kernel
theorem dX9_count_66 : decode cX9_count 66 = .ok (.getfield 73, 3) := by decide +kernel
theorem dX9_count_69 : decode cX9_count 69 = .ok (.getfield 311, 3) := by decide +kernel
theorem dX9_count_72 : decode cX9_count 72 = .ok (.ireturn, 1) := by decide +kernel
theorem dX9_count_73 : decode cX9_count 73 = .ok (.iconst (-1), 1) := by decide +kernel
theorem dX9_count_74 : decode cX9_count 74 = .ok (.ireturn, 1) := by decide +kernel
theorem dX9_isWithin_0 : decode cX9_isWithin 0 = .ok (.iload_n 0, 1) := by decide +kernel
theorem dX9_isWithin_1 : decode cX9_isWithin 1 = .ok (.ifCond .lt 12, 3) := by decide +kernel
theorem dX9_isWithin_4 : decode cX9_isWithin 4 = .ok (.iload_n 0, 1) := by decide +kernel
theorem dX9_isWithin_5 : decode cX9_isWithin 5 = .ok (.iload_n 1, 1) := by decide +kernel
theorem dX9_isWithin_6 : decode cX9_isWithin 6 = .ok (.if_icmp .gt 7, 3) := by decide +kernel
theorem dX9_isWithin_9 : decode cX9_isWithin 9 = .ok (.iconst 1, 1) := by decide +kernel
theorem dX9_isWithin_10 : decode cX9_isWithin 10 = .ok (.goto 4, 3) := by decide +kernel
theorem dX9_isWithin_13 : decode cX9_isWithin 13 = .ok (.iconst 0, 1) := by decide +kernel
theorem dX9_isWithin_14 : decode cX9_isWithin 14 = .ok (.ireturn, 1) := by decide +kernel
theorem dX9_isOne_0 : decode cX9_isOne 0 = .ok (.iload_n 0, 1) := by decide +kernel
theorem dX9_isOne_1 : decode cX9_isOne 1 = .ok (.iconst 5, 1) := by decide +kernel
theorem dX9_isOne_2 : decode cX9_isOne 2 = .ok (.invokestatic 90, 3) := by decide +kernel
theorem dX9_isOne_5 : decode cX9_isOne 5 = .ok (.ireturn, 1) := by decide +kernel
theorem dX9_isShelf_0 : decode cX9_isShelf 0 = .ok (.iload_n 0, 1) := by decide +kernel
theorem dX9_isShelf_1 : decode cX9_isShelf 1 = .ok (.iconst 5, 1) := by decide +kernel
theorem dX9_isShelf_2 : decode cX9_isShelf 2 = .ok (.invokestatic 90, 3) := by decide +kernel
theorem dX9_isShelf_5 : decode cX9_isShelf 5 = .ok (.ireturn, 1) := by decide +kernel
theorem dX9_isLooking_0 : decode cX9_isLooking 0 = .ok (.iload_n 0, 1) := by decide +kernel
theorem dX9_isLooking_1 : decode cX9_isLooking 1 = .ok (.bipush 65, 2) := by decide +kernel
theorem dX9_isLooking_3 : decode cX9_isLooking 3 = .ok (.invokestatic 90, 3) := by decide +kernel
theorem dX9_isLooking_6 : decode cX9_isLooking 6 = .ok (.ireturn, 1) := by decide +kernel
theorem dX9_isMendable_0 : decode cX9_isMendable 0 = .ok (.iload_n 2, 1) := by decide +kernel
theorem dX9_isMendable_1 : decode cX9_isMendable 1 = .ok (.tableswitch 60 0 3 #[31, 31, 45, 50], 31) := by decide +kernel
theorem dX9_isMendable_32 : decode cX9_isMendable 32 = .ok (.aload_n 0, 1) := by decide +kernel
theorem dX9_isMendable_33 : decode cX9_isMendable 33 = .ok (.iload_n 1, 1) := by decide +kernel
theorem dX9_isMendable_34 : decode cX9_isMendable 34 = .ok (.invokevirtual 137, 3) := by decide +kernel
theorem dX9_isMendable_37 : decode cX9_isMendable 37 = .ok (.ifnull 7, 3) := by decide +kernel
theorem dX9_isMendable_40 : decode cX9_isMendable 40 = .ok (.iconst 1, 1) := by decide +kernel
theorem dX9_isMendable_41 : decode cX9_isMendable 41 = .ok (.goto 4, 3) := by decide +kernel
theorem dX9_isMendable_44 : decode cX9_isMendable 44 = .ok (.iconst 0, 1) := by decide +kernel
theorem dX9_isMendable_45 : decode cX9_isMendable 45 = .ok (.ireturn, 1) := by decide +kernel
theorem dX9_isMendable_46 : decode cX9_isMendable 46 = .ok (.iload_n 1, 1) := by decide +kernel
theorem dX9_isMendable_47 : decode cX9_isMendable 47 = .ok (.invokestatic 210, 3) := by decide +kernel
theorem dX9_isMendable_50 : decode cX9_isMendable 50 = .ok (.ireturn, 1) := by decide +kernel
theorem dX9_isMendable_51 : decode cX9_isMendable 51 = .ok (.iload_n 1, 1) := by decide +kernel
theorem dX9_isMendable_52 : decode cX9_isMendable 52 = .ok (.ifCond .ne 7, 3) := by decide +kernel
theorem dX9_isMendable_55 : decode cX9_isMendable 55 = .ok (.iconst 1, 1) := by decide +kernel
theorem dX9_isMendable_56 : decode cX9_isMendable 56 = .ok (.goto 4, 3) := by decide +kernel
theorem dX9_isMendable_59 : decode cX9_isMendable 59 = .ok (.iconst 0, 1) := by decide +kernel
theorem dX9_isMendable_60 : decode cX9_isMendable 60 = .ok (.ireturn, 1) := by decide +kernel
theorem dX9_isMendable_61 : decode cX9_isMendable 61 = .ok (.iconst 0, 1) := by decide +kernel
theorem dX9_isMendable_62 : decode cX9_isMendable 62 = .ok (.ireturn, 1) := by decide +kernel
theorem dX9_sillAt_0 : decode cX9_sillAt 0 = .ok (.iload_n 1, 1) := by decide +kernel
theorem dX9_sillAt_1 : decode cX9_sillAt 1 = .ok (.ifCond .lt 25, 3) := by decide +kernel
theorem dX9_sillAt_4 : decode cX9_sillAt 4 = .ok (.iload_n 1, 1) := by decide +kernel
theorem dX9_sillAt_5 : decode cX9_sillAt 5 = .ok (.aload_n 0, 1) := by decide +kernel
theorem dX9_sillAt_6 : decode cX9_sillAt 6 = .ok (.getfield 94, 3) := by decide +kernel
theorem dX9_sillAt_9 : decode cX9_sillAt 9 = .ok (.if_icmp .ge 17, 3) := by decide +kernel
theorem dX9_sillAt_12 : decode cX9_sillAt 12 = .ok (.iload_n 1, 1) := by decide +kernel
theorem dX9_sillAt_13 : decode cX9_sillAt 13 = .ok (.iconst 5, 1) := by decide +kernel
theorem dX9_sillAt_14 : decode cX9_sillAt 14 = .ok (.if_icmp .ge 12, 3) := by decide +kernel
theorem dX9_sillAt_17 : decode cX9_sillAt 17 = .ok (.aload_n 0, 1) := by decide +kernel
theorem dX9_sillAt_18 : decode cX9_sillAt 18 = .ok (.getfield 11, 3) := by decide +kernel
theorem dX9_sillAt_21 : decode cX9_sillAt 21 = .ok (.iload_n 1, 1) := by decide +kernel
theorem dX9_sillAt_22 : decode cX9_sillAt 22 = .ok (.aaload, 1) := by decide +kernel
theorem dX9_sillAt_23 : decode cX9_sillAt 23 = .ok (.goto 4, 3) := by decide +kernel
theorem dX9_sillAt_26 : decode cX9_sillAt 26 = .ok (.aconst_null, 1) := by decide +kernel
theorem dX9_sillAt_27 : decode cX9_sillAt 27 = .ok (.areturn, 1) := by decide +kernel
theorem dX9_refusalOfBytes_0 : decode cX9_refusalOfBytes 0 = .ok (.aload_n 0, 1) := by decide +kernel
theorem dX9_refusalOfBytes_1 : decode cX9_refusalOfBytes 1 = .ok (.getfield 79, 3) := by decide +kernel
theorem dX9_refusalOfBytes_4 : decode cX9_refusalOfBytes 4 = .ok (.iload_n 1, 1) := by decide +kernel
theorem dX9_refusalOfBytes_5 : decode cX9_refusalOfBytes 5 = .ok (.aaload, 1) := by decide +kernel
theorem dX9_refusalOfBytes_6 : decode cX9_refusalOfBytes 6 = .ok (.getfield 105, 3) := by decide +kernel
theorem dX9_refusalOfBytes_9 : decode cX9_refusalOfBytes 9 = .ok (.ifCond .ne 6, 3) := by decide +kernel
theorem dX9_refusalOfBytes_12 : decode cX9_refusalOfBytes 12 = .ok (.bipush (-11), 2) := by decide +kernel
theorem dX9_refusalOfBytes_14 : decode cX9_refusalOfBytes 14 = .ok (.ireturn, 1) := by decide +kernel
theorem dX9_refusalOfBytes_15 : decode cX9_refusalOfBytes 15 = .ok (.aload_n 0, 1) := by decide +kernel
theorem dX9_refusalOfBytes_16 : decode cX9_refusalOfBytes 16 = .ok (.getfield 79, 3) := by decide +kernel
theorem dX9_refusalOfBytes_19 : decode cX9_refusalOfBytes 19 = .ok (.iload_n 1, 1) := by decide +kernel
theorem dX9_refusalOfBytes_20 : decode cX9_refusalOfBytes 20 = .ok (.aaload, 1) := by decide +kernel
theorem dX9_refusalOfBytes_21 : decode cX9_refusalOfBytes 21 = .ok (.invokevirtual 108, 3) := by decide +kernel
theorem dX9_refusalOfBytes_24 : decode cX9_refusalOfBytes 24 = .ok (.ifCond .eq 7, 3) := by decide +kernel
theorem dX9_refusalOfBytes_27 : decode cX9_refusalOfBytes 27 = .ok (.iconst 0, 1) := by decide +kernel
theorem dX9_refusalOfBytes_28 : decode cX9_refusalOfBytes 28 = .ok (.goto 5, 3) := by decide +kernel
theorem dX9_refusalOfBytes_31 : decode cX9_refusalOfBytes 31 = .ok (.bipush (-12), 2) := by decide +kernel
theorem dX9_refusalOfBytes_33 : decode cX9_refusalOfBytes 33 = .ok (.ireturn, 1) := by decide +kernel
theorem dX9_refusalOfPlace_0 : decode cX9_refusalOfPlace 0 = .ok (.iload_n 1, 1) := by decide +kernel
theorem dX9_refusalOfPlace_1 : decode cX9_refusalOfPlace 1 = .ok (.invokestatic 101, 3) := by decide +kernel
theorem dX9_refusalOfPlace_4 : decode cX9_refusalOfPlace 4 = .ok (.ifCond .ne 5, 3) := by decide +kernel
theorem dX9_refusalOfPlace_7 : decode cX9_refusalOfPlace 7 = .ok (.iconst (-1), 1) := by decide +kernel
theorem dX9_refusalOfPlace_8 : decode cX9_refusalOfPlace 8 = .ok (.ireturn, 1) := by decide +kernel
theorem dX9_refusalOfPlace_9 : decode cX9_refusalOfPlace 9 = .ok (.aload_n 0, 1) := by decide +kernel
theorem dX9_refusalOfPlace_10 : decode cX9_refusalOfPlace 10 = .ok (.getfield 79, 3) := by decide +kernel
theorem dX9_refusalOfPlace_13 : decode cX9_refusalOfPlace 13 = .ok (.iload_n 1, 1) := by decide +kernel
theorem dX9_refusalOfPlace_14 : decode cX9_refusalOfPlace 14 = .ok (.aaload, 1) := by decide +kernel
theorem dX9_refusalOfPlace_15 : decode cX9_refusalOfPlace 15 = .ok (.getfield 105, 3) := by decide +kernel
theorem dX9_refusalOfPlace_18 : decode cX9_refusalOfPlace 18 = .ok (.ifCond .ne 6, 3) := by decide +kernel
theorem dX9_refusalOfPlace_21 : decode cX9_refusalOfPlace 21 = .ok (.bipush (-11), 2) := by decide +kernel
theorem dX9_refusalOfPlace_23 : decode cX9_refusalOfPlace 23 = .ok (.ireturn, 1) := by decide +kernel
theorem dX9_refusalOfPlace_24 : decode cX9_refusalOfPlace 24 = .ok (.aload_n 0, 1) := by decide +kernel
theorem dX9_refusalOfPlace_25 : decode cX9_refusalOfPlace 25 = .ok (.getfield 79, 3) := by decide +kernel
theorem dX9_refusalOfPlace_28 : decode cX9_refusalOfPlace 28 = .ok (.iload_n 1, 1) := by decide +kernel
theorem dX9_refusalOfPlace_29 : decode cX9_refusalOfPlace 29 = .ok (.aaload, 1) := by decide +kernel
theorem dX9_refusalOfPlace_30 : decode cX9_refusalOfPlace 30 = .ok (.invokevirtual 343, 3) := by decide +kernel
theorem dX9_refusalOfPlace_33 : decode cX9_refusalOfPlace 33 = .ok (.ifCond .ne 6, 3) := by decide +kernel
theorem dX9_refusalOfPlace_36 : decode cX9_refusalOfPlace 36 = .ok (.bipush (-12), 2) := by decide +kernel
theorem dX9_refusalOfPlace_38 : decode cX9_refusalOfPlace 38 = .ok (.ireturn, 1) := by decide +kernel
theorem dX9_refusalOfPlace_39 : decode cX9_refusalOfPlace 39 = .ok (.aload_n 0, 1) := by decide +kernel
theorem dX9_refusalOfPlace_40 : decode cX9_refusalOfPlace 40 = .ok (.getfield 79, 3) := by decide +kernel
theorem dX9_refusalOfPlace_43 : decode cX9_refusalOfPlace 43 = .ok (.iload_n 1, 1) := by decide +kernel
theorem dX9_refusalOfPlace_44 : decode cX9_refusalOfPlace 44 = .ok (.aaload, 1) := by decide +kernel
theorem dX9_refusalOfPlace_45 : decode cX9_refusalOfPlace 45 = .ok (.iload_n 2, 1) := by decide +kernel
theorem dX9_refusalOfPlace_46 : decode cX9_refusalOfPlace 46 = .ok (.iconst 1, 1) := by decide +kernel
theorem dX9_refusalOfPlace_47 : decode cX9_refusalOfPlace 47 = .ok (.invokevirtual 346, 3) := by decide +kernel
theorem dX9_refusalOfPlace_50 : decode cX9_refusalOfPlace 50 = .ok (.ifCond .eq 7, 3) := by decide +kernel
theorem dX9_refusalOfPlace_53 : decode cX9_refusalOfPlace 53 = .ok (.iconst 0, 1) := by decide +kernel
theorem dX9_refusalOfPlace_54 : decode cX9_refusalOfPlace 54 = .ok (.goto 5, 3) := by decide +kernel
theorem dX9_refusalOfPlace_57 : decode cX9_refusalOfPlace 57 = .ok (.bipush (-13), 2) := by decide +kernel
theorem dX9_refusalOfPlace_59 : decode cX9_refusalOfPlace 59 = .ok (.ireturn, 1) := by decide +kernel
theorem dX9_numberOf_0 : decode cX9_numberOf 0 = .ok (.aload_n 0, 1) := by decide +kernel
theorem dX9_numberOf_1 : decode cX9_numberOf 1 = .ok (.iload_n 1, 1) := by decide +kernel
theorem dX9_numberOf_2 : decode cX9_numberOf 2 = .ok (.invokevirtual 137, 3) := by decide +kernel
theorem dX9_numberOf_5 : decode cX9_numberOf 5 = .ok (.astore_n 3, 1) := by decide +kernel
theorem dX9_numberOf_6 : decode cX9_numberOf 6 = .ok (.iload_n 2, 1) := by decide +kernel
theorem dX9_numberOf_7 : decode cX9_numberOf 7 = .ok (.tableswitch 69 0 2 #[25, 38, 51], 25) := by decide +kernel
theorem dX9_numberOf_32 : decode cX9_numberOf 32 = .ok (.aload_n 3, 1) := by decide +kernel
theorem dX9_numberOf_33 : decode cX9_numberOf 33 = .ok (.ifnonnull 7, 3) := by decide +kernel
theorem dX9_numberOf_36 : decode cX9_numberOf 36 = .ok (.iconst (-1), 1) := by decide +kernel
theorem dX9_numberOf_37 : decode cX9_numberOf 37 = .ok (.goto 7, 3) := by decide +kernel
theorem dX9_numberOf_40 : decode cX9_numberOf 40 = .ok (.aload_n 3, 1) := by decide +kernel
theorem dX9_numberOf_41 : decode cX9_numberOf 41 = .ok (.getfield 355, 3) := by decide +kernel
theorem dX9_numberOf_44 : decode cX9_numberOf 44 = .ok (.ireturn, 1) := by decide +kernel
theorem dX9_numberOf_45 : decode cX9_numberOf 45 = .ok (.aload_n 3, 1) := by decide +kernel
theorem dX9_numberOf_46 : decode cX9_numberOf 46 = .ok (.ifnonnull 7, 3) := by decide +kernel
theorem dX9_numberOf_49 : decode cX9_numberOf 49 = .ok (.iconst (-1), 1) := by decide +kernel
theorem dX9_numberOf_50 : decode cX9_numberOf 50 = .ok (.goto 7, 3) := by decide +kernel
theorem dX9_numberOf_53 : decode cX9_numberOf 53 = .ok (.aload_n 3, 1) := by decide +kernel
theorem dX9_numberOf_54 : decode cX9_numberOf 54 = .ok (.getfield 358, 3) := by decide +kernel
theorem dX9_numberOf_57 : decode cX9_numberOf 57 = .ok (.ireturn, 1) := by decide +kernel
theorem dX9_numberOf_58 : decode cX9_numberOf 58 = .ok (.iload_n 1, 1) := by decide +kernel
theorem dX9_numberOf_59 : decode cX9_numberOf 59 = .ok (.invokestatic 210, 3) := by decide +kernel
theorem dX9_numberOf_62 : decode cX9_numberOf 62 = .ok (.ifCond .eq 12, 3) := by decide +kernel
theorem dX9_numberOf_65 : decode cX9_numberOf 65 = .ok (.aload_n 0, 1) := by decide +kernel
theorem dX9_numberOf_66 : decode cX9_numberOf 66 = .ok (.getfield 15, 3) := by decide +kernel
theorem dX9_numberOf_69 : decode cX9_numberOf 69 = .ok (.iload_n 1, 1) := by decide +kernel
theorem dX9_numberOf_70 : decode cX9_numberOf 70 = .ok (.iaload, 1) := by decide +kernel
theorem dX9_numberOf_71 : decode cX9_numberOf 71 = .ok (.goto 4, 3) := by decide +kernel
theorem dX9_numberOf_74 : decode cX9_numberOf 74 = .ok (.iconst (-1), 1) := by decide +kernel
theorem dX9_numberOf_75 : decode cX9_numberOf 75 = .ok (.ireturn, 1) := by decide +kernel
theorem dX9_numberOf_76 : decode cX9_numberOf 76 = .ok (.aload_n 0, 1) := by decide +kernel
theorem dX9_numberOf_77 : decode cX9_numberOf 77 = .ok (.getfield 29, 3) := by decide +kernel
theorem dX9_numberOf_80 : decode cX9_numberOf 80 = .ok (.getfield 361, 3) := by decide +kernel
theorem dX9_numberOf_83 : decode cX9_numberOf 83 = .ok (.ireturn, 1) := by decide +kernel
theorem dX9_setNumber_0 : decode cX9_setNumber 0 = .ok (.iload_n 2, 1) := by decide +kernel
theorem dX9_setNumber_1 : decode cX9_setNumber 1 = .ok (.iconst 3, 1) := by decide +kernel
theorem dX9_setNumber_2 : decode cX9_setNumber 2 = .ok (.if_icmp .ne 18, 3) := by decide +kernel
theorem dX9_setNumber_5 : decode cX9_setNumber 5 = .ok (.aload_n 0, 1) := by decide +kernel
theorem dX9_setNumber_6 : decode cX9_setNumber 6 = .ok (.getfield 29, 3) := by decide +kernel
theorem dX9_setNumber_9 : decode cX9_setNumber 9 = .ok (.iload_n 3, 1) := by decide +kernel
theorem dX9_setNumber_10 : decode cX9_setNumber 10 = .ok (.putfield 361, 3) := by decide +kernel
theorem dX9_setNumber_13 : decode cX9_setNumber 13 = .ok (.aload_n 0, 1) := by decide +kernel
theorem dX9_setNumber_14 : decode cX9_setNumber 14 = .ok (.invokevirtual 168, 3) := by decide +kernel
theorem dX9_setNumber_17 : decode cX9_setNumber 17 = .ok (.goto 35, 3) := by decide +kernel
theorem dX9_setNumber_20 : decode cX9_setNumber 20 = .ok (.iload_n 2, 1) := by decide +kernel
theorem dX9_setNumber_21 : decode cX9_setNumber 21 = .ok (.iconst 2, 1) := by decide +kernel
theorem dX9_setNumber_22 : decode cX9_setNumber 22 = .ok (.if_icmp .ne 20, 3) := by decide +kernel
theorem dX9_setNumber_25 : decode cX9_setNumber 25 = .ok (.iload_n 1, 1) := by decide +kernel
theorem dX9_setNumber_26 : decode cX9_setNumber 26 = .ok (.invokestatic 210, 3) := by decide +kernel
theorem dX9_setNumber_29 : decode cX9_setNumber 29 = .ok (.ifCond .eq 13, 3) := by decide +kernel
theorem dX9_setNumber_32 : decode cX9_setNumber 32 = .ok (.aload_n 0, 1) := by decide +kernel
theorem dX9_setNumber_33 : decode cX9_setNumber 33 = .ok (.getfield 15, 3) := by decide +kernel
theorem dX9_setNumber_36 : decode cX9_setNumber 36 = .ok (.iload_n 1, 1) := by decide +kernel
theorem dX9_setNumber_37 : decode cX9_setNumber 37 = .ok (.iload_n 3, 1) := by decide +kernel
theorem dX9_setNumber_38 : decode cX9_setNumber 38 = .ok (.iastore, 1) := by decide +kernel
theorem dX9_setNumber_39 : decode cX9_setNumber 39 = .ok (.goto 13, 3) := by decide +kernel
theorem dX9_setNumber_42 : decode cX9_setNumber 42 = .ok (.aload_n 0, 1) := by decide +kernel
theorem dX9_setNumber_43 : decode cX9_setNumber 43 = .ok (.iload_n 1, 1) := by decide +kernel
theorem dX9_setNumber_44 : decode cX9_setNumber 44 = .ok (.invokevirtual 137, 3) := by decide +kernel
theorem dX9_setNumber_47 : decode cX9_setNumber 47 = .ok (.iload_n 2, 1) := by decide +kernel
theorem dX9_setNumber_48 : decode cX9_setNumber 48 = .ok (.iload_n 3, 1) := by decide +kernel
theorem dX9_setNumber_49 : decode cX9_setNumber 49 = .ok (.invokestatic 364, 3) := by decide +kernel
theorem dX9_setNumber_52 : decode cX9_setNumber 52 = .ok (.return_, 1) := by decide +kernel
theorem dX9_setSill_0 : decode cX9_setSill 0 = .ok (.aload_n 0, 1) := by decide +kernel
theorem dX9_setSill_1 : decode cX9_setSill 1 = .ok (.ifnonnull 4, 3) := by decide +kernel
theorem dX9_setSill_4 : decode cX9_setSill 4 = .ok (.return_, 1) := by decide +kernel
theorem dX9_setSill_5 : decode cX9_setSill 5 = .ok (.iload_n 1, 1) := by decide +kernel
theorem dX9_setSill_6 : decode cX9_setSill 6 = .ok (.ifCond .ne 11, 3) := by decide +kernel
theorem dX9_setSill_9 : decode cX9_setSill 9 = .ok (.aload_n 0, 1) := by decide +kernel
theorem dX9_setSill_10 : decode cX9_setSill 10 = .ok (.iload_n 2, 1) := by decide +kernel
theorem dX9_setSill_11 : decode cX9_setSill 11 = .ok (.putfield 355, 3) := by decide +kernel
theorem dX9_setSill_14 : decode cX9_setSill 14 = .ok (.goto 13, 3) := by decide +kernel
theorem dX9_setSill_17 : decode cX9_setSill 17 = .ok (.iload_n 1, 1) := by decide +kernel
theorem dX9_setSill_18 : decode cX9_setSill 18 = .ok (.iconst 1, 1) := by decide +kernel
theorem dX9_setSill_19 : decode cX9_setSill 19 = .ok (.if_icmp .ne 8, 3) := by decide +kernel
theorem dX9_setSill_22 : decode cX9_setSill 22 = .ok (.aload_n 0, 1) := by decide +kernel
theorem dX9_setSill_23 : decode cX9_setSill 23 = .ok (.iload_n 2, 1) := by decide +kernel
theorem dX9_setSill_24 : decode cX9_setSill 24 = .ok (.putfield 358, 3) := by decide +kernel
theorem dX9_setSill_27 : decode cX9_setSill 27 = .ok (.aload_n 0, 1) := by decide +kernel
theorem dX9_setSill_28 : decode cX9_setSill 28 = .ok (.invokevirtual 367, 3) := by decide +kernel
theorem dX9_setSill_31 : decode cX9_setSill 31 = .ok (.return_, 1) := by decide +kernel
theorem dX9_forgetAll_0 : decode cX9_forgetAll 0 = .ok (.iconst 0, 1) := by decide +kernel
theorem dX9_forgetAll_1 : decode cX9_forgetAll 1 = .ok (.istore_n 1, 1) := by decide +kernel
theorem dX9_forgetAll_2 : decode cX9_forgetAll 2 = .ok (.iload_n 1, 1) := by decide +kernel
theorem dX9_forgetAll_3 : decode cX9_forgetAll 3 = .ok (.aload_n 0, 1) := by decide +kernel
theorem dX9_forgetAll_4 : decode cX9_forgetAll 4 = .ok (.getfield 94, 3) := by decide +kernel
theorem dX9_forgetAll_7 : decode cX9_forgetAll 7 = .ok (.if_icmp .ge 18, 3) := by decide +kernel
theorem dX9_forgetAll_10 : decode cX9_forgetAll 10 = .ok (.aload_n 0, 1) := by decide +kernel
theorem dX9_forgetAll_11 : decode cX9_forgetAll 11 = .ok (.getfield 11, 3) := by decide +kernel
theorem dX9_forgetAll_14 : decode cX9_forgetAll 14 = .ok (.iload_n 1, 1) := by decide +kernel
theorem dX9_forgetAll_15 : decode cX9_forgetAll 15 = .ok (.aaload, 1) := by decide +kernel
theorem dX9_forgetAll_16 : decode cX9_forgetAll 16 = .ok (.invokevirtual 367, 3) := by decide +kernel
theorem dX9_forgetAll_19 : decode cX9_forgetAll 19 = .ok (.iinc 1 1, 3) := by decide +kernel
theorem dX9_forgetAll_22 : decode cX9_forgetAll 22 = .ok (.goto (-20), 3) := by decide +kernel
theorem dX9_forgetAll_25 : decode cX9_forgetAll 25 = .ok (.return_, 1) := by decide +kernel
theorem dX9_whomOf_0 : decode cX9_whomOf 0 = .ok (.iload_n 0, 1) := by decide +kernel
theorem dX9_whomOf_1 : decode cX9_whomOf 1 = .ok (.bipush 60, 2) := by decide +kernel
theorem dX9_whomOf_3 : decode cX9_whomOf 3 = .ok (.if_icmp .ge 10, 3) := by decide +kernel
theorem dX9_whomOf_6 : decode cX9_whomOf 6 = .ok (.iload_n 0, 1) := by decide +kernel
theorem dX9_whomOf_7 : decode cX9_whomOf 7 = .ok (.bipush 10, 2) := by decide +kernel
theorem dX9_whomOf_9 : decode cX9_whomOf 9 = .ok (.idiv, 1) := by decide +kernel
theorem dX9_whomOf_10 : decode cX9_whomOf 10 = .ok (.goto 7, 3) := by decide +kernel
theorem dX9_whomOf_13 : decode cX9_whomOf 13 = .ok (.iload_n 0, 1) := by decide +kernel
theorem dX9_whomOf_14 : decode cX9_whomOf 14 = .ok (.bipush 60, 2) := by decide +kernel
theorem dX9_whomOf_16 : decode cX9_whomOf 16 = .ok (.isub, 1) := by decide +kernel
theorem dX9_whomOf_17 : decode cX9_whomOf 17 = .ok (.ireturn, 1) := by decide +kernel
theorem dX9_muchOf_0 : decode cX9_muchOf 0 = .ok (.iload_n 1, 1) := by decide +kernel
theorem dX9_muchOf_1 : decode cX9_muchOf 1 = .ok (.bipush 60, 2) := by decide +kernel
theorem dX9_muchOf_3 : decode cX9_muchOf 3 = .ok (.if_icmp .ge 10, 3) := by decide +kernel
theorem dX9_muchOf_6 : decode cX9_muchOf 6 = .ok (.iload_n 1, 1) := by decide +kernel
theorem dX9_muchOf_7 : decode cX9_muchOf 7 = .ok (.bipush 10, 2) := by decide +kernel
theorem dX9_muchOf_9 : decode cX9_muchOf 9 = .ok (.irem, 1) := by decide +kernel
theorem dX9_muchOf_10 : decode cX9_muchOf 10 = .ok (.goto 12, 3) := by decide +kernel
theorem dX9_muchOf_13 : decode cX9_muchOf 13 = .ok (.aload_n 0, 1) := by decide +kernel
theorem dX9_muchOf_14 : decode cX9_muchOf 14 = .ok (.getfield 15, 3) := by decide +kernel
theorem dX9_muchOf_17 : decode cX9_muchOf 17 = .ok (.iload_n 1, 1) := by decide +kernel
theorem dX9_muchOf_18 : decode cX9_muchOf 18 = .ok (.bipush 60, 2) := by decide +kernel
theorem dX9_muchOf_20 : decode cX9_muchOf 20 = .ok (.isub, 1) := by decide +kernel
theorem dX9_muchOf_21 : decode cX9_muchOf 21 = .ok (.iaload, 1) := by decide +kernel
theorem dX9_muchOf_22 : decode cX9_muchOf 22 = .ok (.ireturn, 1) := by decide +kernel
theorem dX9_thinkBook_0 : decode cX9_thinkBook 0 = .ok (.aload_n 0, 1) := by decide +kernel
theorem dX9_thinkBook_1 : decode cX9_thinkBook 1 = .ok (.getfield 39, 3) := by decide +kernel
theorem dX9_thinkBook_4 : decode cX9_thinkBook 4 = .ok (.aload_n 1, 1) := by decide +kernel
theorem dX9_thinkBook_5 : decode cX9_thinkBook 5 = .ok (.getfield 141, 3) := by decide +kernel
theorem dX9_thinkBook_8 : decode cX9_thinkBook 8 = .ok (.invokevirtual 201, 3) := by decide +kernel
theorem dX9_thinkBook_11 : decode cX9_thinkBook 11 = .ok (.iconst 0, 1) := by decide +kernel
theorem dX9_thinkBook_12 : decode cX9_thinkBook 12 = .ok (.istore 4, 2) := by decide +kernel
theorem dX9_thinkBook_14 : decode cX9_thinkBook 14 = .ok (.iconst 0, 1) := by decide +kernel
theorem dX9_thinkBook_15 : decode cX9_thinkBook 15 = .ok (.istore 5, 2) := by decide +kernel
theorem dX9_thinkBook_17 : decode cX9_thinkBook 17 = .ok (.iload 5, 2) := by decide +kernel
theorem dX9_thinkBook_19 : decode cX9_thinkBook 19 = .ok (.iload_n 3, 1) := by decide +kernel
theorem dX9_thinkBook_20 : decode cX9_thinkBook 20 = .ok (.if_icmp .ge 95, 3) := by decide +kernel
theorem dX9_thinkBook_23 : decode cX9_thinkBook 23 = .ok (.iload 5, 2) := by decide +kernel
theorem dX9_thinkBook_25 : decode cX9_thinkBook 25 = .ok (.bipush 40, 2) := by decide +kernel
theorem dX9_thinkBook_27 : decode cX9_thinkBook 27 = .ok (.if_icmp .ge 88, 3) := by decide +kernel
theorem dX9_thinkBook_30 : decode cX9_thinkBook 30 = .ok (.iload 5, 2) := by decide +kernel
theorem dX9_thinkBook_32 : decode cX9_thinkBook 32 = .ok (.aload_n 2, 1) := by decide +kernel
theorem dX9_thinkBook_33 : decode cX9_thinkBook 33 = .ok (.getfield 112, 3) := by decide +kernel
theorem dX9_thinkBook_36 : decode cX9_thinkBook 36 = .ok (.if_icmp .ge 79, 3) := by decide +kernel
theorem dX9_thinkBook_39 : decode cX9_thinkBook 39 = .ok (.aload_n 2, 1) := by decide +kernel
theorem dX9_thinkBook_40 : decode cX9_thinkBook 40 = .ok (.getfield 115, 3) := by decide +kernel
theorem dX9_thinkBook_43 : decode cX9_thinkBook 43 = .ok (.iload 5, 2) := by decide +kernel
theorem dX9_thinkBook_45 : decode cX9_thinkBook 45 = .ok (.laload, 1) := by decide +kernel
theorem dX9_thinkBook_46 : decode cX9_thinkBook 46 = .ok (.l2i, 1) := by decide +kernel
theorem dX9_thinkBook_47 : decode cX9_thinkBook 47 = .ok (.istore 6, 2) := by decide +kernel
theorem dX9_thinkBook_49 : decode cX9_thinkBook 49 = .ok (.iload 6, 2) := by decide +kernel
theorem dX9_thinkBook_51 : decode cX9_thinkBook 51 = .ok (.invokestatic 171, 3) := by decide +kernel
theorem dX9_thinkBook_54 : decode cX9_thinkBook 54 = .ok (.ifCond .ne 6, 3) := by decide +kernel
theorem dX9_thinkBook_57 : decode cX9_thinkBook 57 = .ok (.goto 58, 3) := by decide +kernel
theorem dX9_thinkBook_60 : decode cX9_thinkBook 60 = .ok (.iload 6, 2) := by decide +kernel
theorem dX9_thinkBook_62 : decode cX9_thinkBook 62 = .ok (.invokestatic 174, 3) := by decide +kernel
theorem dX9_thinkBook_65 : decode cX9_thinkBook 65 = .ok (.istore 7, 2) := by decide +kernel
theorem dX9_thinkBook_67 : decode cX9_thinkBook 67 = .ok (.aload_n 0, 1) := by decide +kernel
theorem dX9_thinkBook_68 : decode cX9_thinkBook 68 = .ok (.iload 6, 2) := by decide +kernel
theorem dX9_thinkBook_70 : decode cX9_thinkBook 70 = .ok (.invokevirtual 178, 3) := by decide +kernel
theorem dX9_thinkBook_73 : decode cX9_thinkBook 73 = .ok (.istore 8, 2) := by decide +kernel
theorem dX9_thinkBook_75 : decode cX9_thinkBook 75 = .ok (.aload_n 1, 1) := by decide +kernel
theorem dX9_thinkBook_76 : decode cX9_thinkBook 76 = .ok (.aload_n 0, 1) := by decide +kernel
theorem dX9_thinkBook_77 : decode cX9_thinkBook 77 = .ok (.getfield 39, 3) := by decide +kernel
theorem dX9_thinkBook_80 : decode cX9_thinkBook 80 = .ok (.getfield 144, 3) := by decide +kernel
theorem dX9_thinkBook_83 : decode cX9_thinkBook 83 = .ok (.iload 7, 2) := by decide +kernel
theorem dX9_thinkBook_85 : decode cX9_thinkBook 85 = .ok (.iload 8, 2) := by decide +kernel
theorem dX9_thinkBook_87 : decode cX9_thinkBook 87 = .ok (.invokevirtual 181, 3) := by decide +kernel
theorem dX9_thinkBook_90 : decode cX9_thinkBook 90 = .ok (.ifCond .ne 6, 3) := by decide +kernel
theorem dX9_thinkBook_93 : decode cX9_thinkBook 93 = .ok (.iinc 4 1, 3) := by decide +kernel
theorem dX9_thinkBook_96 : decode cX9_thinkBook 96 = .ok (.aload_n 1, 1) := by decide +kernel
theorem dX9_thinkBook_97 : decode cX9_thinkBook 97 = .ok (.aload_n 0, 1) := by decide +kernel
theorem dX9_thinkBook_98 : decode cX9_thinkBook 98 = .ok (.getfield 39, 3) := by decide +kernel
theorem dX9_thinkBook_101 : decode cX9_thinkBook 101 = .ok (.iload 7, 2) := by decide +kernel
theorem dX9_thinkBook_103 : decode cX9_thinkBook 103 = .ok (.iload 8, 2) := by decide +kernel
theorem dX9_thinkBook_105 : decode cX9_thinkBook 105 = .ok (.invokevirtual 219, 3) := by decide +kernel
theorem dX9_thinkBook_108 : decode cX9_thinkBook 108 = .ok (.pop, 1) := by decide +kernel
theorem dX9_thinkBook_109 : decode cX9_thinkBook 109 = .ok (.iinc 5 1, 3) := by decide +kernel
theorem dX9_thinkBook_112 : decode cX9_thinkBook 112 = .ok (.goto (-95), 3) := by decide +kernel
theorem dX9_thinkBook_115 : decode cX9_thinkBook 115 = .ok (.iload 4, 2) := by decide +kernel
theorem dX9_thinkBook_117 : decode cX9_thinkBook 117 = .ok (.ireturn, 1) := by decide +kernel
theorem dX9_sillsThatRead_0 : decode cX9_sillsThatRead 0 = .ok (.iconst 0, 1) := by decide +kernel
theorem dX9_sillsThatRead_1 : decode cX9_sillsThatRead 1 = .ok (.istore_n 2, 1) := by decide +kernel
theorem dX9_sillsThatRead_2 : decode cX9_sillsThatRead 2 = .ok (.iconst 0, 1) := by decide +kernel
theorem dX9_sillsThatRead_3 : decode cX9_sillsThatRead 3 = .ok (.istore_n 3, 1) := by decide +kernel
theorem dX9_sillsThatRead_4 : decode cX9_sillsThatRead 4 = .ok (.iload_n 3, 1) := by decide +kernel
theorem dX9_sillsThatRead_5 : decode cX9_sillsThatRead 5 = .ok (.aload_n 0, 1) := by decide +kernel
theorem dX9_sillsThatRead_6 : decode cX9_sillsThatRead 6 = .ok (.getfield 94, 3) := by decide +kernel
theorem dX9_sillsThatRead_9 : decode cX9_sillsThatRead 9 = .ok (.if_icmp .ge 32, 3) := by decide +kernel
theorem dX9_sillsThatRead_12 : decode cX9_sillsThatRead 12 = .ok (.aload_n 0, 1) := by decide +kernel
theorem dX9_sillsThatRead_13 : decode cX9_sillsThatRead 13 = .ok (.getfield 11, 3) := by decide +kernel
theorem dX9_sillsThatRead_16 : decode cX9_sillsThatRead 16 = .ok (.iload_n 3, 1) := by decide +kernel
theorem dX9_sillsThatRead_17 : decode cX9_sillsThatRead 17 = .ok (.aaload, 1) := by decide +kernel
theorem dX9_sillsThatRead_18 : decode cX9_sillsThatRead 18 = .ok (.getfield 141, 3) := by decide +kernel
theorem dX9_sillsThatRead_21 : decode cX9_sillsThatRead 21 = .ok (.invokevirtual 192, 3) := by decide +kernel
theorem dX9_sillsThatRead_24 : decode cX9_sillsThatRead 24 = .ok (.iload_n 1, 1) := by decide +kernel
theorem dX9_sillsThatRead_25 : decode cX9_sillsThatRead 25 = .ok (.iand, 1) := by decide +kernel
theorem dX9_sillsThatRead_26 : decode cX9_sillsThatRead 26 = .ok (.ifCond .eq 9, 3) := by decide +kernel
theorem dX9_sillsThatRead_29 : decode cX9_sillsThatRead 29 = .ok (.iload_n 2, 1) := by decide +kernel
theorem dX9_sillsThatRead_30 : decode cX9_sillsThatRead 30 = .ok (.iconst 1, 1) := by decide +kernel
theorem dX9_sillsThatRead_31 : decode cX9_sillsThatRead 31 = .ok (.iload_n 3, 1) := by decide +kernel
theorem dX9_sillsThatRead_32 : decode cX9_sillsThatRead 32 = .ok (.ishl, 1) := by decide +kernel
theorem dX9_sillsThatRead_33 : decode cX9_sillsThatRead 33 = .ok (.ior, 1) := by decide +kernel
theorem dX9_sillsThatRead_34 : decode cX9_sillsThatRead 34 = .ok (.istore_n 2, 1) := by decide +kernel
theorem dX9_sillsThatRead_35 : decode cX9_sillsThatRead 35 = .ok (.iinc 3 1, 3) := by decide +kernel
theorem dX9_sillsThatRead_38 : decode cX9_sillsThatRead 38 = .ok (.goto (-34), 3) := by decide +kernel
theorem dX9_sillsThatRead_41 : decode cX9_sillsThatRead 41 = .ok (.iload_n 2, 1) := by decide +kernel
theorem dX9_sillsThatRead_42 : decode cX9_sillsThatRead 42 = .ok (.ireturn, 1) := by decide +kernel
theorem dX9_fewestThatTell_0 : decode cX9_fewestThatTell 0 = .ok (.bipush (-2), 2) := by decide +kernel
theorem dX9_fewestThatTell_2 : decode cX9_fewestThatTell 2 = .ok (.istore_n 2, 1) := by decide +kernel
theorem dX9_fewestThatTell_3 : decode cX9_fewestThatTell 3 = .ok (.iconst 0, 1) := by decide +kernel
theorem dX9_fewestThatTell_4 : decode cX9_fewestThatTell 4 = .ok (.istore_n 3, 1) := by decide +kernel
theorem dX9_fewestThatTell_5 : decode cX9_fewestThatTell 5 = .ok (.iload_n 3, 1) := by decide +kernel
theorem dX9_fewestThatTell_6 : decode cX9_fewestThatTell 6 = .ok (.iconst 1, 1) := by decide +kernel
theorem dX9_fewestThatTell_7 : decode cX9_fewestThatTell 7 = .ok (.aload_n 0, 1) := by decide +kernel
theorem dX9_fewestThatTell_8 : decode cX9_fewestThatTell 8 = .ok (.getfield 94, 3) := by decide +kernel
theorem dX9_fewestThatTell_11 : decode cX9_fewestThatTell 11 = .ok (.ishl, 1) := by decide +kernel
theorem dX9_fewestThatTell_12 : decode cX9_fewestThatTell 12 = .ok (.if_icmp .ge 50, 3) := by decide +kernel
theorem dX9_fewestThatTell_15 : decode cX9_fewestThatTell 15 = .ok (.iload_n 2, 1) := by decide +kernel
theorem dX9_fewestThatTell_16 : decode cX9_fewestThatTell 16 = .ok (.ifCond .lt 14, 3) := by decide +kernel
theorem dX9_fewestThatTell_19 : decode cX9_fewestThatTell 19 = .ok (.iload_n 3, 1) := by decide +kernel
theorem dX9_fewestThatTell_20 : decode cX9_fewestThatTell 20 = .ok (.invokestatic 229, 3) := by decide +kernel
theorem dX9_fewestThatTell_23 : decode cX9_fewestThatTell 23 = .ok (.iload_n 2, 1) := by decide +kernel
theorem dX9_fewestThatTell_24 : decode cX9_fewestThatTell 24 = .ok (.invokestatic 229, 3) := by decide +kernel
theorem dX9_fewestThatTell_27 : decode cX9_fewestThatTell 27 = .ok (.if_icmp .ge 7, 3) := by decide +kernel
theorem dX9_fewestThatTell_30 : decode cX9_fewestThatTell 30 = .ok (.iconst 1, 1) := by decide +kernel
theorem dX9_fewestThatTell_31 : decode cX9_fewestThatTell 31 = .ok (.goto 4, 3) := by decide +kernel
theorem dX9_fewestThatTell_34 : decode cX9_fewestThatTell 34 = .ok (.iconst 0, 1) := by decide +kernel
theorem dX9_fewestThatTell_35 : decode cX9_fewestThatTell 35 = .ok (.istore 4, 2) := by decide +kernel
theorem dX9_fewestThatTell_37 : decode cX9_fewestThatTell 37 = .ok (.iload 4, 2) := by decide +kernel
theorem dX9_fewestThatTell_39 : decode cX9_fewestThatTell 39 = .ok (.ifCond .eq 17, 3) := by decide +kernel
theorem dX9_fewestThatTell_42 : decode cX9_fewestThatTell 42 = .ok (.iload_n 1, 1) := by decide +kernel
theorem dX9_fewestThatTell_43 : decode cX9_fewestThatTell 43 = .ok (.aload_n 0, 1) := by decide +kernel
theorem dX9_fewestThatTell_44 : decode cX9_fewestThatTell 44 = .ok (.iload_n 3, 1) := by decide +kernel
theorem dX9_fewestThatTell_45 : decode cX9_fewestThatTell 45 = .ok (.invokevirtual 370, 3) := by decide +kernel
theorem dX9_fewestThatTell_48 : decode cX9_fewestThatTell 48 = .ok (.iconst (-1), 1) := by decide +kernel
theorem dX9_fewestThatTell_49 : decode cX9_fewestThatTell 49 = .ok (.ixor, 1) := by decide +kernel
theorem dX9_fewestThatTell_50 : decode cX9_fewestThatTell 50 = .ok (.iand, 1) := by decide +kernel
theorem dX9_fewestThatTell_51 : decode cX9_fewestThatTell 51 = .ok (.ifCond .ne 5, 3) := by decide +kernel
theorem dX9_fewestThatTell_54 : decode cX9_fewestThatTell 54 = .ok (.iload_n 3, 1) := by decide +kernel
theorem dX9_fewestThatTell_55 : decode cX9_fewestThatTell 55 = .ok (.istore_n 2, 1) := by decide +kernel
theorem dX9_fewestThatTell_56 : decode cX9_fewestThatTell 56 = .ok (.iinc 3 1, 3) := by decide +kernel
theorem dX9_fewestThatTell_59 : decode cX9_fewestThatTell 59 = .ok (.goto (-54), 3) := by decide +kernel
theorem dX9_fewestThatTell_62 : decode cX9_fewestThatTell 62 = .ok (.iload_n 2, 1) := by decide +kernel
theorem dX9_fewestThatTell_63 : decode cX9_fewestThatTell 63 = .ok (.ireturn, 1) := by decide +kernel
theorem dX9_readOf_0 : decode cX9_readOf 0 = .ok (.iconst 0, 1) := by decide +kernel
theorem dX9_readOf_1 : decode cX9_readOf 1 = .ok (.istore_n 2, 1) := by decide +kernel
theorem dX9_readOf_2 : decode cX9_readOf 2 = .ok (.iconst 0, 1) := by decide +kernel
theorem dX9_readOf_3 : decode cX9_readOf 3 = .ok (.istore_n 3, 1) := by decide +kernel
theorem dX9_readOf_4 : decode cX9_readOf 4 = .ok (.iload_n 3, 1) := by decide +kernel
theorem dX9_readOf_5 : decode cX9_readOf 5 = .ok (.aload_n 0, 1) := by decide +kernel
theorem dX9_readOf_6 : decode cX9_readOf 6 = .ok (.getfield 94, 3) := by decide +kernel
theorem dX9_readOf_9 : decode cX9_readOf 9 = .ok (.if_icmp .ge 32, 3) := by decide +kernel
theorem dX9_readOf_12 : decode cX9_readOf 12 = .ok (.iload_n 1, 1) := by decide +kernel
theorem dX9_readOf_13 : decode cX9_readOf 13 = .ok (.iload_n 3, 1) := by decide +kernel
theorem dX9_readOf_14 : decode cX9_readOf 14 = .ok (.ishr, 1) := by decide +kernel
theorem dX9_readOf_15 : decode cX9_readOf 15 = .ok (.iconst 1, 1) := by decide +kernel
theorem dX9_readOf_16 : decode cX9_readOf 16 = .ok (.iand, 1) := by decide +kernel
theorem dX9_readOf_17 : decode cX9_readOf 17 = .ok (.ifCond .eq 18, 3) := by decide +kernel
theorem dX9_readOf_20 : decode cX9_readOf 20 = .ok (.iload_n 2, 1) := by decide +kernel
theorem dX9_readOf_21 : decode cX9_readOf 21 = .ok (.aload_n 0, 1) := by decide +kernel
theorem dX9_readOf_22 : decode cX9_readOf 22 = .ok (.getfield 11, 3) := by decide +kernel
theorem dX9_readOf_25 : decode cX9_readOf 25 = .ok (.iload_n 3, 1) := by decide +kernel
theorem dX9_readOf_26 : decode cX9_readOf 26 = .ok (.aaload, 1) := by decide +kernel
theorem dX9_readOf_27 : decode cX9_readOf 27 = .ok (.getfield 141, 3) := by decide +kernel
theorem dX9_readOf_30 : decode cX9_readOf 30 = .ok (.invokevirtual 192, 3) := by decide +kernel
theorem dX9_readOf_33 : decode cX9_readOf 33 = .ok (.ior, 1) := by decide +kernel
theorem dX9_readOf_34 : decode cX9_readOf 34 = .ok (.istore_n 2, 1) := by decide +kernel
theorem dX9_readOf_35 : decode cX9_readOf 35 = .ok (.iinc 3 1, 3) := by decide +kernel
theorem dX9_readOf_38 : decode cX9_readOf 38 = .ok (.goto (-34), 3) := by decide +kernel
theorem dX9_readOf_41 : decode cX9_readOf 41 = .ok (.iload_n 2, 1) := by decide +kernel
theorem dX9_readOf_42 : decode cX9_readOf 42 = .ok (.ireturn, 1) := by decide +kernel
theorem dX9_weightOf_0 : decode cX9_weightOf 0 = .ok (.iconst 0, 1) := by decide +kernel
theorem dX9_weightOf_1 : decode cX9_weightOf 1 = .ok (.istore_n 2, 1) := by decide +kernel
theorem dX9_weightOf_2 : decode cX9_weightOf 2 = .ok (.iconst 0, 1) := by decide +kernel
theorem dX9_weightOf_3 : decode cX9_weightOf 3 = .ok (.istore_n 3, 1) := by decide +kernel
theorem dX9_weightOf_4 : decode cX9_weightOf 4 = .ok (.iload_n 3, 1) := by decide +kernel
theorem dX9_weightOf_5 : decode cX9_weightOf 5 = .ok (.aload_n 0, 1) := by decide +kernel
theorem dX9_weightOf_6 : decode cX9_weightOf 6 = .ok (.getfield 94, 3) := by decide +kernel
theorem dX9_weightOf_9 : decode cX9_weightOf 9 = .ok (.if_icmp .ge 76, 3) := by decide +kernel
theorem dX9_weightOf_12 : decode cX9_weightOf 12 = .ok (.aload_n 0, 1) := by decide +kernel
theorem dX9_weightOf_13 : decode cX9_weightOf 13 = .ok (.getfield 11, 3) := by decide +kernel
theorem dX9_weightOf_16 : decode cX9_weightOf 16 = .ok (.iload_n 3, 1) := by decide +kernel
theorem dX9_weightOf_17 : decode cX9_weightOf 17 = .ok (.aaload, 1) := by decide +kernel
theorem dX9_weightOf_18 : decode cX9_weightOf 18 = .ok (.getfield 141, 3) := by decide +kernel
theorem dX9_weightOf_21 : decode cX9_weightOf 21 = .ok (.astore 4, 2) := by decide +kernel
theorem dX9_weightOf_23 : decode cX9_weightOf 23 = .ok (.iconst 0, 1) := by decide +kernel
theorem dX9_weightOf_24 : decode cX9_weightOf 24 = .ok (.istore 5, 2) := by decide +kernel
theorem dX9_weightOf_26 : decode cX9_weightOf 26 = .ok (.iload 5, 2) := by decide +kernel
theorem dX9_weightOf_28 : decode cX9_weightOf 28 = .ok (.aload 4, 2) := by decide +kernel
theorem dX9_weightOf_30 : decode cX9_weightOf 30 = .ok (.getfield 144, 3) := by decide +kernel
theorem dX9_weightOf_33 : decode cX9_weightOf 33 = .ok (.if_icmp .ge 46, 3) := by decide +kernel
theorem dX9_weightOf_36 : decode cX9_weightOf 36 = .ok (.aload 4, 2) := by decide +kernel
theorem dX9_weightOf_38 : decode cX9_weightOf 38 = .ok (.getfield 262, 3) := by decide +kernel
theorem dX9_weightOf_41 : decode cX9_weightOf 41 = .ok (.iload 5, 2) := by decide +kernel
theorem dX9_weightOf_43 : decode cX9_weightOf 43 = .ok (.iaload, 1) := by decide +kernel
theorem dX9_weightOf_44 : decode cX9_weightOf 44 = .ok (.iload_n 1, 1) := by decide +kernel
theorem dX9_weightOf_45 : decode cX9_weightOf 45 = .ok (.if_icmp .ne 28, 3) := by decide +kernel
theorem dX9_weightOf_48 : decode cX9_weightOf 48 = .ok (.iload_n 2, 1) := by decide +kernel
theorem dX9_weightOf_49 : decode cX9_weightOf 49 = .ok (.aload 4, 2) := by decide +kernel
theorem dX9_weightOf_51 : decode cX9_weightOf 51 = .ok (.getfield 373, 3) := by decide +kernel
theorem dX9_weightOf_54 : decode cX9_weightOf 54 = .ok (.iload 5, 2) := by decide +kernel
theorem dX9_weightOf_56 : decode cX9_weightOf 56 = .ok (.iaload, 1) := by decide +kernel
theorem dX9_weightOf_57 : decode cX9_weightOf 57 = .ok (.bipush 13, 2) := by decide +kernel
theorem dX9_weightOf_59 : decode cX9_weightOf 59 = .ok (.aload 4, 2) := by decide +kernel
theorem dX9_weightOf_61 : decode cX9_weightOf 61 = .ok (.getfield 144, 3) := by decide +kernel
theorem dX9_weightOf_64 : decode cX9_weightOf 64 = .ok (.iconst 1, 1) := by decide +kernel
theorem dX9_weightOf_65 : decode cX9_weightOf 65 = .ok (.isub, 1) := by decide +kernel
theorem dX9_weightOf_66 : decode cX9_weightOf 66 = .ok (.iload 5, 2) := by decide +kernel
theorem dX9_weightOf_68 : decode cX9_weightOf 68 = .ok (.isub, 1) := by decide +kernel
theorem dX9_weightOf_69 : decode cX9_weightOf 69 = .ok (.isub, 1) := by decide +kernel
theorem dX9_weightOf_70 : decode cX9_weightOf 70 = .ok (.imul, 1) := by decide +kernel
theorem dX9_weightOf_71 : decode cX9_weightOf 71 = .ok (.iadd, 1) := by decide +kernel
theorem dX9_weightOf_72 : decode cX9_weightOf 72 = .ok (.istore_n 2, 1) := by decide +kernel
theorem dX9_weightOf_73 : decode cX9_weightOf 73 = .ok (.iinc 5 1, 3) := by decide +kernel
theorem dX9_weightOf_76 : decode cX9_weightOf 76 = .ok (.goto (-50), 3) := by decide +kernel
theorem dX9_weightOf_79 : decode cX9_weightOf 79 = .ok (.iinc 3 1, 3) := by decide +kernel
theorem dX9_weightOf_82 : decode cX9_weightOf 82 = .ok (.goto (-78), 3) := by decide +kernel
theorem dX9_weightOf_85 : decode cX9_weightOf 85 = .ok (.iload_n 2, 1) := by decide +kernel
theorem dX9_weightOf_86 : decode cX9_weightOf 86 = .ok (.ireturn, 1) := by decide +kernel
theorem dX9_greatestCommon_0 : decode cX9_greatestCommon 0 = .ok (.iload_n 0, 1) := by decide +kernel
theorem dX9_greatestCommon_1 : decode cX9_greatestCommon 1 = .ok (.istore_n 2, 1) := by decide +kernel
theorem dX9_greatestCommon_2 : decode cX9_greatestCommon 2 = .ok (.iload_n 1, 1) := by decide +kernel
theorem dX9_greatestCommon_3 : decode cX9_greatestCommon 3 = .ok (.istore_n 3, 1) := by decide +kernel
theorem dX9_greatestCommon_4 : decode cX9_greatestCommon 4 = .ok (.iconst 0, 1) := by decide +kernel
theorem dX9_greatestCommon_5 : decode cX9_greatestCommon 5 = .ok (.istore 4, 2) := by decide +kernel
theorem dX9_greatestCommon_7 : decode cX9_greatestCommon 7 = .ok (.iload 4, 2) := by decide +kernel
theorem dX9_greatestCommon_9 : decode cX9_greatestCommon 9 = .ok (.bipush 64, 2) := by decide +kernel
theorem dX9_greatestCommon_11 : decode cX9_greatestCommon 11 = .ok (.if_icmp .ge 23, 3) := by decide +kernel
theorem dX9_greatestCommon_14 : decode cX9_greatestCommon 14 = .ok (.iload_n 3, 1) := by decide +kernel
theorem dX9_greatestCommon_15 : decode cX9_greatestCommon 15 = .ok (.ifCond .le 19, 3) := by decide +kernel
theorem dX9_greatestCommon_18 : decode cX9_greatestCommon 18 = .ok (.iload_n 2, 1) := by decide +kernel
theorem dX9_greatestCommon_19 : decode cX9_greatestCommon 19 = .ok (.iload_n 3, 1) := by decide +kernel
theorem dX9_greatestCommon_20 : decode cX9_greatestCommon 20 = .ok (.irem, 1) := by decide +kernel
theorem dX9_greatestCommon_21 : decode cX9_greatestCommon 21 = .ok (.istore 5, 2) := by decide +kernel
theorem dX9_greatestCommon_23 : decode cX9_greatestCommon 23 = .ok (.iload_n 3, 1) := by decide +kernel
theorem dX9_greatestCommon_24 : decode cX9_greatestCommon 24 = .ok (.istore_n 2, 1) := by decide +kernel
theorem dX9_greatestCommon_25 : decode cX9_greatestCommon 25 = .ok (.iload 5, 2) := by decide +kernel
theorem dX9_greatestCommon_27 : decode cX9_greatestCommon 27 = .ok (.istore_n 3, 1) := by decide +kernel
theorem dX9_greatestCommon_28 : decode cX9_greatestCommon 28 = .ok (.iinc 4 1, 3) := by decide +kernel
theorem dX9_greatestCommon_31 : decode cX9_greatestCommon 31 = .ok (.goto (-24), 3) := by decide +kernel
theorem dX9_greatestCommon_34 : decode cX9_greatestCommon 34 = .ok (.iload_n 2, 1) := by decide +kernel
theorem dX9_greatestCommon_35 : decode cX9_greatestCommon 35 = .ok (.iconst 1, 1) := by decide +kernel
theorem dX9_greatestCommon_36 : decode cX9_greatestCommon 36 = .ok (.invokestatic 376, 3) := by decide +kernel
theorem dX9_greatestCommon_39 : decode cX9_greatestCommon 39 = .ok (.ireturn, 1) := by decide +kernel
theorem dX9_measureAlike_0 : decode cX9_measureAlike 0 = .ok (.aload_n 0, 1) := by decide +kernel
theorem dX9_measureAlike_1 : decode cX9_measureAlike 1 = .ok (.getfield 50, 3) := by decide +kernel
theorem dX9_measureAlike_4 : decode cX9_measureAlike 4 = .ok (.iconst 0, 1) := by decide +kernel
theorem dX9_measureAlike_5 : decode cX9_measureAlike 5 = .ok (.invokestatic 83, 3) := by decide +kernel
theorem dX9_measureAlike_8 : decode cX9_measureAlike 8 = .ok (.aload_n 1, 1) := by decide +kernel
theorem dX9_measureAlike_9 : decode cX9_measureAlike 9 = .ok (.getfield 144, 3) := by decide +kernel
theorem dX9_measureAlike_12 : decode cX9_measureAlike 12 = .ok (.iconst 1, 1) := by decide +kernel
theorem dX9_measureAlike_13 : decode cX9_measureAlike 13 = .ok (.isub, 1) := by decide +kernel
theorem dX9_measureAlike_14 : decode cX9_measureAlike 14 = .ok (.istore_n 3, 1) := by decide +kernel
theorem dX9_measureAlike_15 : decode cX9_measureAlike 15 = .ok (.iload_n 3, 1) := by decide +kernel
theorem dX9_measureAlike_16 : decode cX9_measureAlike 16 = .ok (.ifCond .lt 96, 3) := by decide +kernel
theorem dX9_measureAlike_19 : decode cX9_measureAlike 19 = .ok (.aload_n 2, 1) := by decide +kernel
theorem dX9_measureAlike_20 : decode cX9_measureAlike 20 = .ok (.getfield 144, 3) := by decide +kernel
theorem dX9_measureAlike_23 : decode cX9_measureAlike 23 = .ok (.iconst 1, 1) := by decide +kernel
theorem dX9_measureAlike_24 : decode cX9_measureAlike 24 = .ok (.isub, 1) := by decide +kernel
theorem dX9_measureAlike_25 : decode cX9_measureAlike 25 = .ok (.istore 4, 2) := by decide +kernel
theorem dX9_measureAlike_27 : decode cX9_measureAlike 27 = .ok (.iload 4, 2) := by decide +kernel
theorem dX9_measureAlike_29 : decode cX9_measureAlike 29 = .ok (.ifCond .lt 77, 3) := by decide +kernel
theorem dX9_measureAlike_32 : decode cX9_measureAlike 32 = .ok (.aload_n 0, 1) := by decide +kernel
theorem dX9_measureAlike_33 : decode cX9_measureAlike 33 = .ok (.iload_n 3, 1) := by decide +kernel
theorem dX9_measureAlike_34 : decode cX9_measureAlike 34 = .ok (.iconst 1, 1) := by decide +kernel
theorem dX9_measureAlike_35 : decode cX9_measureAlike 35 = .ok (.iadd, 1) := by decide +kernel
theorem dX9_measureAlike_36 : decode cX9_measureAlike 36 = .ok (.iload 4, 2) := by decide +kernel
theorem dX9_measureAlike_38 : decode cX9_measureAlike 38 = .ok (.invokevirtual 255, 3) := by decide +kernel
theorem dX9_measureAlike_41 : decode cX9_measureAlike 41 = .ok (.aload_n 0, 1) := by decide +kernel
theorem dX9_measureAlike_42 : decode cX9_measureAlike 42 = .ok (.iload_n 3, 1) := by decide +kernel
theorem dX9_measureAlike_43 : decode cX9_measureAlike 43 = .ok (.iload 4, 2) := by decide +kernel
theorem dX9_measureAlike_45 : decode cX9_measureAlike 45 = .ok (.iconst 1, 1) := by decide +kernel
theorem dX9_measureAlike_46 : decode cX9_measureAlike 46 = .ok (.iadd, 1) := by decide +kernel
theorem dX9_measureAlike_47 : decode cX9_measureAlike 47 = .ok (.invokevirtual 255, 3) := by decide +kernel
theorem dX9_measureAlike_50 : decode cX9_measureAlike 50 = .ok (.invokestatic 376, 3) := by decide +kernel
theorem dX9_measureAlike_53 : decode cX9_measureAlike 53 = .ok (.istore 5, 2) := by decide +kernel
theorem dX9_measureAlike_55 : decode cX9_measureAlike 55 = .ok (.aload_n 1, 1) := by decide +kernel
theorem dX9_measureAlike_56 : decode cX9_measureAlike 56 = .ok (.getfield 262, 3) := by decide +kernel
theorem dX9_measureAlike_59 : decode cX9_measureAlike 59 = .ok (.iload_n 3, 1) := by decide +kernel
theorem dX9_measureAlike_60 : decode cX9_measureAlike 60 = .ok (.iaload, 1) := by decide +kernel
theorem dX9_measureAlike_61 : decode cX9_measureAlike 61 = .ok (.aload_n 2, 1) := by decide +kernel
theorem dX9_measureAlike_62 : decode cX9_measureAlike 62 = .ok (.getfield 262, 3) := by decide +kernel
theorem dX9_measureAlike_65 : decode cX9_measureAlike 65 = .ok (.iload 4, 2) := by decide +kernel
theorem dX9_measureAlike_67 : decode cX9_measureAlike 67 = .ok (.iaload, 1) := by decide +kernel
theorem dX9_measureAlike_68 : decode cX9_measureAlike 68 = .ok (.if_icmp .ne 18, 3) := by decide +kernel
theorem dX9_measureAlike_71 : decode cX9_measureAlike 71 = .ok (.iconst 1, 1) := by decide +kernel
theorem dX9_measureAlike_72 : decode cX9_measureAlike 72 = .ok (.aload_n 0, 1) := by decide +kernel
theorem dX9_measureAlike_73 : decode cX9_measureAlike 73 = .ok (.iload_n 3, 1) := by decide +kernel
theorem dX9_measureAlike_74 : decode cX9_measureAlike 74 = .ok (.iconst 1, 1) := by decide +kernel
theorem dX9_measureAlike_75 : decode cX9_measureAlike 75 = .ok (.iadd, 1) := by decide +kernel
theorem dX9_measureAlike_76 : decode cX9_measureAlike 76 = .ok (.iload 4, 2) := by decide +kernel
theorem dX9_measureAlike_78 : decode cX9_measureAlike 78 = .ok (.iconst 1, 1) := by decide +kernel
theorem dX9_measureAlike_79 : decode cX9_measureAlike 79 = .ok (.iadd, 1) := by decide +kernel
theorem dX9_measureAlike_80 : decode cX9_measureAlike 80 = .ok (.invokevirtual 255, 3) := by decide +kernel
theorem dX9_measureAlike_83 : decode cX9_measureAlike 83 = .ok (.iadd, 1) := by decide +kernel
theorem dX9_measureAlike_84 : decode cX9_measureAlike 84 = .ok (.istore 5, 2) := by decide +kernel
theorem dX9_measureAlike_86 : decode cX9_measureAlike 86 = .ok (.aload_n 0, 1) := by decide +kernel
theorem dX9_measureAlike_87 : decode cX9_measureAlike 87 = .ok (.getfield 50, 3) := by decide +kernel
theorem dX9_measureAlike_90 : decode cX9_measureAlike 90 = .ok (.iload_n 3, 1) := by decide +kernel
theorem dX9_measureAlike_91 : decode cX9_measureAlike 91 = .ok (.bipush 13, 2) := by decide +kernel
theorem dX9_measureAlike_93 : decode cX9_measureAlike 93 = .ok (.imul, 1) := by decide +kernel
theorem dX9_measureAlike_94 : decode cX9_measureAlike 94 = .ok (.iload 4, 2) := by decide +kernel
theorem dX9_measureAlike_96 : decode cX9_measureAlike 96 = .ok (.iadd, 1) := by decide +kernel
theorem dX9_measureAlike_97 : decode cX9_measureAlike 97 = .ok (.iload 5, 2) := by decide +kernel
theorem dX9_measureAlike_99 : decode cX9_measureAlike 99 = .ok (.iastore, 1) := by decide +kernel
theorem dX9_measureAlike_100 : decode cX9_measureAlike 100 = .ok (.iinc 4 (-1), 3) := by decide +kernel
theorem dX9_measureAlike_103 : decode cX9_measureAlike 103 = .ok (.goto (-76), 3) := by decide +kernel
theorem dX9_measureAlike_106 : decode cX9_measureAlike 106 = .ok (.iinc 3 (-1), 3) := by decide +kernel
theorem dX9_measureAlike_109 : decode cX9_measureAlike 109 = .ok (.goto (-94), 3) := by decide +kernel
theorem dX9_measureAlike_112 : decode cX9_measureAlike 112 = .ok (.return_, 1) := by decide +kernel
theorem dX9_longestFrom_0 : decode cX9_longestFrom 0 = .ok (.iload_n 1, 1) := by decide +kernel
theorem dX9_longestFrom_1 : decode cX9_longestFrom 1 = .ok (.bipush 12, 2) := by decide +kernel
theorem dX9_longestFrom_3 : decode cX9_longestFrom 3 = .ok (.invokestatic 90, 3) := by decide +kernel
theorem dX9_longestFrom_6 : decode cX9_longestFrom 6 = .ok (.ifCond .eq 16, 3) := by decide +kernel
theorem dX9_longestFrom_9 : decode cX9_longestFrom 9 = .ok (.iload_n 2, 1) := by decide +kernel
theorem dX9_longestFrom_10 : decode cX9_longestFrom 10 = .ok (.bipush 12, 2) := by decide +kernel
theorem dX9_longestFrom_12 : decode cX9_longestFrom 12 = .ok (.invokestatic 90, 3) := by decide +kernel
theorem dX9_longestFrom_15 : decode cX9_longestFrom 15 = .ok (.ifCond .eq 7, 3) := by decide +kernel
theorem dX9_longestFrom_18 : decode cX9_longestFrom 18 = .ok (.iconst 1, 1) := by decide +kernel
theorem dX9_longestFrom_19 : decode cX9_longestFrom 19 = .ok (.goto 4, 3) := by decide +kernel
theorem dX9_longestFrom_22 : decode cX9_longestFrom 22 = .ok (.iconst 0, 1) := by decide +kernel
theorem dX9_longestFrom_23 : decode cX9_longestFrom 23 = .ok (.istore_n 3, 1) := by decide +kernel
theorem dX9_longestFrom_24 : decode cX9_longestFrom 24 = .ok (.iload_n 3, 1) := by decide +kernel
theorem dX9_longestFrom_25 : decode cX9_longestFrom 25 = .ok (.ifCond .eq 17, 3) := by decide +kernel
theorem dX9_longestFrom_28 : decode cX9_longestFrom 28 = .ok (.aload_n 0, 1) := by decide +kernel
theorem dX9_longestFrom_29 : decode cX9_longestFrom 29 = .ok (.getfield 50, 3) := by decide +kernel
theorem dX9_longestFrom_32 : decode cX9_longestFrom 32 = .ok (.iload_n 1, 1) := by decide +kernel
theorem dX9_longestFrom_33 : decode cX9_longestFrom 33 = .ok (.bipush 13, 2) := by decide +kernel
theorem dX9_longestFrom_35 : decode cX9_longestFrom 35 = .ok (.imul, 1) := by decide +kernel
theorem dX9_longestFrom_36 : decode cX9_longestFrom 36 = .ok (.iload_n 2, 1) := by decide +kernel
theorem dX9_longestFrom_37 : decode cX9_longestFrom 37 = .ok (.iadd, 1) := by decide +kernel
theorem dX9_longestFrom_38 : decode cX9_longestFrom 38 = .ok (.iaload, 1) := by decide +kernel
theorem dX9_longestFrom_39 : decode cX9_longestFrom 39 = .ok (.goto 4, 3) := by decide +kernel
theorem dX9_longestFrom_42 : decode cX9_longestFrom 42 = .ok (.iconst 0, 1) := by decide +kernel
theorem dX9_longestFrom_43 : decode cX9_longestFrom 43 = .ok (.ireturn, 1) := by decide +kernel
theorem dX9_kthAlike_0 : decode cX9_kthAlike 0 = .ok (.iconst 0, 1) := by decide +kernel
theorem dX9_kthAlike_1 : decode cX9_kthAlike 1 = .ok (.istore 4, 2) := by decide +kernel
theorem dX9_kthAlike_3 : decode cX9_kthAlike 3 = .ok (.iconst 0, 1) := by decide +kernel
theorem dX9_kthAlike_4 : decode cX9_kthAlike 4 = .ok (.istore 5, 2) := by decide +kernel
theorem dX9_kthAlike_6 : decode cX9_kthAlike 6 = .ok (.bipush (-2), 2) := by decide +kernel
theorem dX9_kthAlike_8 : decode cX9_kthAlike 8 = .ok (.istore 6, 2) := by decide +kernel
theorem dX9_kthAlike_10 : decode cX9_kthAlike 10 = .ok (.iconst 0, 1) := by decide +kernel
theorem dX9_kthAlike_11 : decode cX9_kthAlike 11 = .ok (.istore 7, 2) := by decide +kernel
theorem dX9_kthAlike_13 : decode cX9_kthAlike 13 = .ok (.iload 7, 2) := by decide +kernel
theorem dX9_kthAlike_15 : decode cX9_kthAlike 15 = .ok (.iload_n 3, 1) := by decide +kernel
theorem dX9_kthAlike_16 : decode cX9_kthAlike 16 = .ok (.if_icmp .gt 60, 3) := by decide +kernel
theorem dX9_kthAlike_19 : decode cX9_kthAlike 19 = .ok (.iload 7, 2) := by decide +kernel
theorem dX9_kthAlike_21 : decode cX9_kthAlike 21 = .ok (.bipush 12, 2) := by decide +kernel
theorem dX9_kthAlike_23 : decode cX9_kthAlike 23 = .ok (.if_icmp .ge 53, 3) := by decide +kernel
theorem dX9_kthAlike_26 : decode cX9_kthAlike 26 = .ok (.aload_n 0, 1) := by decide +kernel
theorem dX9_kthAlike_27 : decode cX9_kthAlike 27 = .ok (.aload_n 1, 1) := by decide +kernel
theorem dX9_kthAlike_28 : decode cX9_kthAlike 28 = .ok (.aload_n 2, 1) := by decide +kernel
theorem dX9_kthAlike_29 : decode cX9_kthAlike 29 = .ok (.iload 4, 2) := by decide +kernel
theorem dX9_kthAlike_31 : decode cX9_kthAlike 31 = .ok (.iload 5, 2) := by decide +kernel
theorem dX9_kthAlike_33 : decode cX9_kthAlike 33 = .ok (.invokevirtual 379, 3) := by decide +kernel
theorem dX9_kthAlike_36 : decode cX9_kthAlike 36 = .ok (.istore 6, 2) := by decide +kernel
theorem dX9_kthAlike_38 : decode cX9_kthAlike 38 = .ok (.iload 6, 2) := by decide +kernel
theorem dX9_kthAlike_40 : decode cX9_kthAlike 40 = .ok (.ifCond .ge 6, 3) := by decide +kernel
theorem dX9_kthAlike_43 : decode cX9_kthAlike 43 = .ok (.bipush (-2), 2) := by decide +kernel
theorem dX9_kthAlike_45 : decode cX9_kthAlike 45 = .ok (.ireturn, 1) := by decide +kernel
theorem dX9_kthAlike_46 : decode cX9_kthAlike 46 = .ok (.aload_n 1, 1) := by decide +kernel
theorem dX9_kthAlike_47 : decode cX9_kthAlike 47 = .ok (.iload 6, 2) := by decide +kernel
theorem dX9_kthAlike_49 : decode cX9_kthAlike 49 = .ok (.iload 4, 2) := by decide +kernel
theorem dX9_kthAlike_51 : decode cX9_kthAlike 51 = .ok (.invokevirtual 213, 3) := by decide +kernel
theorem dX9_kthAlike_54 : decode cX9_kthAlike 54 = .ok (.iconst 1, 1) := by decide +kernel
theorem dX9_kthAlike_55 : decode cX9_kthAlike 55 = .ok (.iadd, 1) := by decide +kernel
theorem dX9_kthAlike_56 : decode cX9_kthAlike 56 = .ok (.istore 4, 2) := by decide +kernel
theorem dX9_kthAlike_58 : decode cX9_kthAlike 58 = .ok (.aload_n 2, 1) := by decide +kernel
theorem dX9_kthAlike_59 : decode cX9_kthAlike 59 = .ok (.iload 6, 2) := by decide +kernel
theorem dX9_kthAlike_61 : decode cX9_kthAlike 61 = .ok (.iload 5, 2) := by decide +kernel
theorem dX9_kthAlike_63 : decode cX9_kthAlike 63 = .ok (.invokevirtual 213, 3) := by decide +kernel
theorem dX9_kthAlike_66 : decode cX9_kthAlike 66 = .ok (.iconst 1, 1) := by decide +kernel
theorem dX9_kthAlike_67 : decode cX9_kthAlike 67 = .ok (.iadd, 1) := by decide +kernel
theorem dX9_kthAlike_68 : decode cX9_kthAlike 68 = .ok (.istore 5, 2) := by decide +kernel
theorem dX9_kthAlike_70 : decode cX9_kthAlike 70 = .ok (.iinc 7 1, 3) := by decide +kernel
theorem dX9_kthAlike_73 : decode cX9_kthAlike 73 = .ok (.goto (-60), 3) := by decide +kernel
theorem dX9_kthAlike_76 : decode cX9_kthAlike 76 = .ok (.iload 6, 2) := by decide +kernel
theorem dX9_kthAlike_78 : decode cX9_kthAlike 78 = .ok (.ireturn, 1) := by decide +kernel
theorem dX9_nextAlike_0 : decode cX9_nextAlike 0 = .ok (.iconst 0, 1) := by decide +kernel
theorem dX9_nextAlike_1 : decode cX9_nextAlike 1 = .ok (.istore 5, 2) := by decide +kernel
theorem dX9_nextAlike_3 : decode cX9_nextAlike 3 = .ok (.iload 5, 2) := by decide +kernel
theorem dX9_nextAlike_5 : decode cX9_nextAlike 5 = .ok (.bipush 6, 2) := by decide +kernel
theorem dX9_nextAlike_7 : decode cX9_nextAlike 7 = .ok (.if_icmp .ge 65, 3) := by decide +kernel
theorem dX9_nextAlike_10 : decode cX9_nextAlike 10 = .ok (.aload_n 1, 1) := by decide +kernel
theorem dX9_nextAlike_11 : decode cX9_nextAlike 11 = .ok (.iload 5, 2) := by decide +kernel
theorem dX9_nextAlike_13 : decode cX9_nextAlike 13 = .ok (.iload_n 3, 1) := by decide +kernel
theorem dX9_nextAlike_14 : decode cX9_nextAlike 14 = .ok (.invokevirtual 213, 3) := by decide +kernel
theorem dX9_nextAlike_17 : decode cX9_nextAlike 17 = .ok (.istore 6, 2) := by decide +kernel
theorem dX9_nextAlike_19 : decode cX9_nextAlike 19 = .ok (.aload_n 2, 1) := by decide +kernel
theorem dX9_nextAlike_20 : decode cX9_nextAlike 20 = .ok (.iload 5, 2) := by decide +kernel
theorem dX9_nextAlike_22 : decode cX9_nextAlike 22 = .ok (.iload 4, 2) := by decide +kernel
theorem dX9_nextAlike_24 : decode cX9_nextAlike 24 = .ok (.invokevirtual 213, 3) := by decide +kernel
theorem dX9_nextAlike_27 : decode cX9_nextAlike 27 = .ok (.istore 7, 2) := by decide +kernel
theorem dX9_nextAlike_29 : decode cX9_nextAlike 29 = .ok (.iload 6, 2) := by decide +kernel
theorem dX9_nextAlike_31 : decode cX9_nextAlike 31 = .ok (.ifCond .lt 35, 3) := by decide +kernel
theorem dX9_nextAlike_34 : decode cX9_nextAlike 34 = .ok (.iload 7, 2) := by decide +kernel
theorem dX9_nextAlike_36 : decode cX9_nextAlike 36 = .ok (.ifCond .lt 30, 3) := by decide +kernel
theorem dX9_nextAlike_39 : decode cX9_nextAlike 39 = .ok (.iconst 1, 1) := by decide +kernel
theorem dX9_nextAlike_40 : decode cX9_nextAlike 40 = .ok (.aload_n 0, 1) := by decide +kernel
theorem dX9_nextAlike_41 : decode cX9_nextAlike 41 = .ok (.iload 6, 2) := by decide +kernel
theorem dX9_nextAlike_43 : decode cX9_nextAlike 43 = .ok (.iconst 1, 1) := by decide +kernel
theorem dX9_nextAlike_44 : decode cX9_nextAlike 44 = .ok (.iadd, 1) := by decide +kernel
theorem dX9_nextAlike_45 : decode cX9_nextAlike 45 = .ok (.iload 7, 2) := by decide +kernel
theorem dX9_nextAlike_47 : decode cX9_nextAlike 47 = .ok (.iconst 1, 1) := by decide +kernel
theorem dX9_nextAlike_48 : decode cX9_nextAlike 48 = .ok (.iadd, 1) := by decide +kernel
theorem dX9_nextAlike_49 : decode cX9_nextAlike 49 = .ok (.invokevirtual 255, 3) := by decide +kernel
theorem dX9_nextAlike_52 : decode cX9_nextAlike 52 = .ok (.iadd, 1) := by decide +kernel
theorem dX9_nextAlike_53 : decode cX9_nextAlike 53 = .ok (.aload_n 0, 1) := by decide +kernel
theorem dX9_nextAlike_54 : decode cX9_nextAlike 54 = .ok (.iload_n 3, 1) := by decide +kernel
theorem dX9_nextAlike_55 : decode cX9_nextAlike 55 = .ok (.iload 4, 2) := by decide +kernel
theorem dX9_nextAlike_57 : decode cX9_nextAlike 57 = .ok (.invokevirtual 255, 3) := by decide +kernel
theorem dX9_nextAlike_60 : decode cX9_nextAlike 60 = .ok (.if_icmp .ne 6, 3) := by decide +kernel
theorem dX9_nextAlike_63 : decode cX9_nextAlike 63 = .ok (.iload 5, 2) := by decide +kernel
theorem dX9_nextAlike_65 : decode cX9_nextAlike 65 = .ok (.ireturn, 1) := by decide +kernel
theorem dX9_nextAlike_66 : decode cX9_nextAlike 66 = .ok (.iinc 5 1, 3) := by decide +kernel
theorem dX9_nextAlike_69 : decode cX9_nextAlike 69 = .ok (.goto (-66), 3) := by decide +kernel
theorem dX9_nextAlike_72 : decode cX9_nextAlike 72 = .ok (.bipush (-2), 2) := by decide +kernel
theorem dX9_nextAlike_74 : decode cX9_nextAlike 74 = .ok (.ireturn, 1) := by decide +kernel
