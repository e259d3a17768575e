theorem dX10_touch_53 : decode cX10_touch 53 = .ok (.aload_n 0, 1) := by decide +kernel
theorem dX10_touch_54 : decode cX10_touch 54 = .ok (.iload_n 2, 1) := by decide +kernel
theorem dX10_touch_55 : decode cX10_touch 55 = .ok (.iload_n 3, 1) := by decide +kernel
theorem dX10_touch_56 : decode cX10_touch 56 = .ok (.invokevirtual 272, 3) := by decide +kernel
theorem dX10_touch_59 : decode cX10_touch 59 = .ok (.pop, 1) := by decide +kernel
theorem dX10_touch_60 : decode cX10_touch 60 = .ok (.iinc 4 1, 3) := by decide +kernel
theorem dX10_touch_63 : decode cX10_touch 63 = .ok (.goto (-28), 3) := by decide +kernel
theorem dX10_touch_66 : decode cX10_touch 66 = .ok (.bipush (-2), 2) := by decide +kernel
theorem dX10_touch_68 : decode cX10_touch 68 = .ok (.ireturn, 1) := by decide +kernel
theorem dX10_readOf_0 : decode cX10_readOf 0 = .ok (.aload_n 0, 1) := by decide +kernel
theorem dX10_readOf_1 : decode cX10_readOf 1 = .ok (.iload_n 1, 1) := by decide +kernel
theorem dX10_readOf_2 : decode cX10_readOf 2 = .ok (.invokevirtual 169, 3) := by decide +kernel
theorem dX10_readOf_5 : decode cX10_readOf 5 = .ok (.aload_n 0, 1) := by decide +kernel
theorem dX10_readOf_6 : decode cX10_readOf 6 = .ok (.invokevirtual 293, 3) := by decide +kernel
theorem dX10_readOf_9 : decode cX10_readOf 9 = .ok (.ireturn, 1) := by decide +kernel
theorem dX10_tellsOf_0 : decode cX10_tellsOf 0 = .ok (.iload_n 1, 1) := by decide +kernel
theorem dX10_tellsOf_1 : decode cX10_tellsOf 1 = .ok (.invokestatic 155, 3) := by decide +kernel
theorem dX10_tellsOf_4 : decode cX10_tellsOf 4 = .ok (.ifCond .ne 5, 3) := by decide +kernel
theorem dX10_tellsOf_7 : decode cX10_tellsOf 7 = .ok (.iconst (-1), 1) := by decide +kernel
theorem dX10_tellsOf_8 : decode cX10_tellsOf 8 = .ok (.ireturn, 1) := by decide +kernel
theorem dX10_tellsOf_9 : decode cX10_tellsOf 9 = .ok (.iconst 0, 1) := by decide +kernel
theorem dX10_tellsOf_10 : decode cX10_tellsOf 10 = .ok (.istore_n 2, 1) := by decide +kernel
theorem dX10_tellsOf_11 : decode cX10_tellsOf 11 = .ok (.iconst 0, 1) := by decide +kernel
theorem dX10_tellsOf_12 : decode cX10_tellsOf 12 = .ok (.istore_n 3, 1) := by decide +kernel
theorem dX10_tellsOf_13 : decode cX10_tellsOf 13 = .ok (.iload_n 3, 1) := by decide +kernel
theorem dX10_tellsOf_14 : decode cX10_tellsOf 14 = .ok (.aload_n 0, 1) := by decide +kernel
theorem dX10_tellsOf_15 : decode cX10_tellsOf 15 = .ok (.getfield 121, 3) := by decide +kernel
theorem dX10_tellsOf_18 : decode cX10_tellsOf 18 = .ok (.if_icmp .ge 28, 3) := by decide +kernel
theorem dX10_tellsOf_21 : decode cX10_tellsOf 21 = .ok (.aload_n 0, 1) := by decide +kernel
theorem dX10_tellsOf_22 : decode cX10_tellsOf 22 = .ok (.iload_n 3, 1) := by decide +kernel
theorem dX10_tellsOf_23 : decode cX10_tellsOf 23 = .ok (.invokevirtual 308, 3) := by decide +kernel
theorem dX10_tellsOf_26 : decode cX10_tellsOf 26 = .ok (.iload_n 1, 1) := by decide +kernel
theorem dX10_tellsOf_27 : decode cX10_tellsOf 27 = .ok (.ishr, 1) := by decide +kernel
theorem dX10_tellsOf_28 : decode cX10_tellsOf 28 = .ok (.iconst 1, 1) := by decide +kernel
theorem dX10_tellsOf_29 : decode cX10_tellsOf 29 = .ok (.iand, 1) := by decide +kernel
theorem dX10_tellsOf_30 : decode cX10_tellsOf 30 = .ok (.iconst 1, 1) := by decide +kernel
theorem dX10_tellsOf_31 : decode cX10_tellsOf 31 = .ok (.if_icmp .ne 9, 3) := by decide +kernel
theorem dX10_tellsOf_34 : decode cX10_tellsOf 34 = .ok (.iload_n 2, 1) := by decide +kernel
theorem dX10_tellsOf_35 : decode cX10_tellsOf 35 = .ok (.iconst 1, 1) := by decide +kernel
theorem dX10_tellsOf_36 : decode cX10_tellsOf 36 = .ok (.iload_n 3, 1) := by decide +kernel
theorem dX10_tellsOf_37 : decode cX10_tellsOf 37 = .ok (.ishl, 1) := by decide +kernel
theorem dX10_tellsOf_38 : decode cX10_tellsOf 38 = .ok (.ior, 1) := by decide +kernel
theorem dX10_tellsOf_39 : decode cX10_tellsOf 39 = .ok (.istore_n 2, 1) := by decide +kernel
theorem dX10_tellsOf_40 : decode cX10_tellsOf 40 = .ok (.iinc 3 1, 3) := by decide +kernel
theorem dX10_tellsOf_43 : decode cX10_tellsOf 43 = .ok (.goto (-30), 3) := by decide +kernel
theorem dX10_tellsOf_46 : decode cX10_tellsOf 46 = .ok (.iload_n 2, 1) := by decide +kernel
theorem dX10_tellsOf_47 : decode cX10_tellsOf 47 = .ok (.ireturn, 1) := by decide +kernel
theorem dX10_readOfAll_0 : decode cX10_readOfAll 0 = .ok (.iconst 0, 1) := by decide +kernel
theorem dX10_readOfAll_1 : decode cX10_readOfAll 1 = .ok (.istore_n 2, 1) := by decide +kernel
theorem dX10_readOfAll_2 : decode cX10_readOfAll 2 = .ok (.iconst 0, 1) := by decide +kernel
theorem dX10_readOfAll_3 : decode cX10_readOfAll 3 = .ok (.istore_n 3, 1) := by decide +kernel
theorem dX10_readOfAll_4 : decode cX10_readOfAll 4 = .ok (.iload_n 3, 1) := by decide +kernel
theorem dX10_readOfAll_5 : decode cX10_readOfAll 5 = .ok (.aload_n 0, 1) := by decide +kernel
theorem dX10_readOfAll_6 : decode cX10_readOfAll 6 = .ok (.getfield 121, 3) := by decide +kernel
theorem dX10_readOfAll_9 : decode cX10_readOfAll 9 = .ok (.if_icmp .ge 26, 3) := by decide +kernel
theorem dX10_readOfAll_12 : decode cX10_readOfAll 12 = .ok (.iload_n 1, 1) := by decide +kernel
theorem dX10_readOfAll_13 : decode cX10_readOfAll 13 = .ok (.iload_n 3, 1) := by decide +kernel
theorem dX10_readOfAll_14 : decode cX10_readOfAll 14 = .ok (.ishr, 1) := by decide +kernel
theorem dX10_readOfAll_15 : decode cX10_readOfAll 15 = .ok (.iconst 1, 1) := by decide +kernel
theorem dX10_readOfAll_16 : decode cX10_readOfAll 16 = .ok (.iand, 1) := by decide +kernel
theorem dX10_readOfAll_17 : decode cX10_readOfAll 17 = .ok (.iconst 1, 1) := by decide +kernel
theorem dX10_readOfAll_18 : decode cX10_readOfAll 18 = .ok (.if_icmp .ne 11, 3) := by decide +kernel
theorem dX10_readOfAll_21 : decode cX10_readOfAll 21 = .ok (.iload_n 2, 1) := by decide +kernel
theorem dX10_readOfAll_22 : decode cX10_readOfAll 22 = .ok (.aload_n 0, 1) := by decide +kernel
theorem dX10_readOfAll_23 : decode cX10_readOfAll 23 = .ok (.iload_n 3, 1) := by decide +kernel
theorem dX10_readOfAll_24 : decode cX10_readOfAll 24 = .ok (.invokevirtual 308, 3) := by decide +kernel
theorem dX10_readOfAll_27 : decode cX10_readOfAll 27 = .ok (.ior, 1) := by decide +kernel
theorem dX10_readOfAll_28 : decode cX10_readOfAll 28 = .ok (.istore_n 2, 1) := by decide +kernel
theorem dX10_readOfAll_29 : decode cX10_readOfAll 29 = .ok (.iinc 3 1, 3) := by decide +kernel
theorem dX10_readOfAll_32 : decode cX10_readOfAll 32 = .ok (.goto (-28), 3) := by decide +kernel
theorem dX10_readOfAll_35 : decode cX10_readOfAll 35 = .ok (.iload_n 2, 1) := by decide +kernel
theorem dX10_readOfAll_36 : decode cX10_readOfAll 36 = .ok (.ireturn, 1) := by decide +kernel
theorem dX10_hides_0 : decode cX10_hides 0 = .ok (.iconst 0, 1) := by decide +kernel
theorem dX10_hides_1 : decode cX10_hides 1 = .ok (.istore_n 2, 1) := by decide +kernel
theorem dX10_hides_2 : decode cX10_hides 2 = .ok (.iconst 0, 1) := by decide +kernel
theorem dX10_hides_3 : decode cX10_hides 3 = .ok (.istore_n 3, 1) := by decide +kernel
theorem dX10_hides_4 : decode cX10_hides 4 = .ok (.iload_n 3, 1) := by decide +kernel
theorem dX10_hides_5 : decode cX10_hides 5 = .ok (.aload_n 0, 1) := by decide +kernel
theorem dX10_hides_6 : decode cX10_hides 6 = .ok (.getfield 121, 3) := by decide +kernel
theorem dX10_hides_9 : decode cX10_hides 9 = .ok (.if_icmp .ge 25, 3) := by decide +kernel
theorem dX10_hides_12 : decode cX10_hides 12 = .ok (.aload_n 0, 1) := by decide +kernel
theorem dX10_hides_13 : decode cX10_hides 13 = .ok (.iload_n 3, 1) := by decide +kernel
theorem dX10_hides_14 : decode cX10_hides 14 = .ok (.invokevirtual 308, 3) := by decide +kernel
theorem dX10_hides_17 : decode cX10_hides 17 = .ok (.iload_n 1, 1) := by decide +kernel
theorem dX10_hides_18 : decode cX10_hides 18 = .ok (.iand, 1) := by decide +kernel
theorem dX10_hides_19 : decode cX10_hides 19 = .ok (.ifCond .eq 9, 3) := by decide +kernel
theorem dX10_hides_22 : decode cX10_hides 22 = .ok (.iload_n 2, 1) := by decide +kernel
theorem dX10_hides_23 : decode cX10_hides 23 = .ok (.iconst 1, 1) := by decide +kernel
theorem dX10_hides_24 : decode cX10_hides 24 = .ok (.iload_n 3, 1) := by decide +kernel
theorem dX10_hides_25 : decode cX10_hides 25 = .ok (.ishl, 1) := by decide +kernel
theorem dX10_hides_26 : decode cX10_hides 26 = .ok (.ior, 1) := by decide +kernel
theorem dX10_hides_27 : decode cX10_hides 27 = .ok (.istore_n 2, 1) := by decide +kernel
theorem dX10_hides_28 : decode cX10_hides 28 = .ok (.iinc 3 1, 3) := by decide +kernel
theorem dX10_hides_31 : decode cX10_hides 31 = .ok (.goto (-27), 3) := by decide +kernel
theorem dX10_hides_34 : decode cX10_hides 34 = .ok (.iload_n 2, 1) := by decide +kernel
theorem dX10_hides_35 : decode cX10_hides 35 = .ok (.ireturn, 1) := by decide +kernel
theorem dX10_fewest_0 : decode cX10_fewest 0 = .ok (.iload_n 1, 1) := by decide +kernel
theorem dX10_fewest_1 : decode cX10_fewest 1 = .ok (.iconst 0, 1) := by decide +kernel
theorem dX10_fewest_2 : decode cX10_fewest 2 = .ok (.bipush 63, 2) := by decide +kernel
theorem dX10_fewest_4 : decode cX10_fewest 4 = .ok (.invokestatic 124, 3) := by decide +kernel
theorem dX10_fewest_7 : decode cX10_fewest 7 = .ok (.ifCond .eq 12, 3) := by decide +kernel
theorem dX10_fewest_10 : decode cX10_fewest 10 = .ok (.iload_n 2, 1) := by decide +kernel
theorem dX10_fewest_11 : decode cX10_fewest 11 = .ok (.iconst 0, 1) := by decide +kernel
theorem dX10_fewest_12 : decode cX10_fewest 12 = .ok (.iconst 2, 1) := by decide +kernel
theorem dX10_fewest_13 : decode cX10_fewest 13 = .ok (.invokestatic 124, 3) := by decide +kernel
theorem dX10_fewest_16 : decode cX10_fewest 16 = .ok (.ifCond .ne 5, 3) := by decide +kernel
theorem dX10_fewest_19 : decode cX10_fewest 19 = .ok (.iconst (-1), 1) := by decide +kernel
theorem dX10_fewest_20 : decode cX10_fewest 20 = .ok (.ireturn, 1) := by decide +kernel
theorem dX10_fewest_21 : decode cX10_fewest 21 = .ok (.iload_n 2, 1) := by decide +kernel
theorem dX10_fewest_22 : decode cX10_fewest 22 = .ok (.iconst 2, 1) := by decide +kernel
theorem dX10_fewest_23 : decode cX10_fewest 23 = .ok (.if_icmp .ne 9, 3) := by decide +kernel
theorem dX10_fewest_26 : decode cX10_fewest 26 = .ok (.aload_n 0, 1) := by decide +kernel
theorem dX10_fewest_27 : decode cX10_fewest 27 = .ok (.iload_n 1, 1) := by decide +kernel
theorem dX10_fewest_28 : decode cX10_fewest 28 = .ok (.invokevirtual 311, 3) := by decide +kernel
theorem dX10_fewest_31 : decode cX10_fewest 31 = .ok (.ireturn, 1) := by decide +kernel
theorem dX10_fewest_32 : decode cX10_fewest 32 = .ok (.bipush (-2), 2) := by decide +kernel
theorem dX10_fewest_34 : decode cX10_fewest 34 = .ok (.istore_n 3, 1) := by decide +kernel
theorem dX10_fewest_35 : decode cX10_fewest 35 = .ok (.iconst 0, 1) := by decide +kernel
theorem dX10_fewest_36 : decode cX10_fewest 36 = .ok (.istore 4, 2) := by decide +kernel
theorem dX10_fewest_38 : decode cX10_fewest 38 = .ok (.iload 4, 2) := by decide +kernel
theorem dX10_fewest_40 : decode cX10_fewest 40 = .ok (.iconst 1, 1) := by decide +kernel
theorem dX10_fewest_41 : decode cX10_fewest 41 = .ok (.aload_n 0, 1) := by decide +kernel
theorem dX10_fewest_42 : decode cX10_fewest 42 = .ok (.getfield 121, 3) := by decide +kernel
theorem dX10_fewest_45 : decode cX10_fewest 45 = .ok (.ishl, 1) := by decide +kernel
theorem dX10_fewest_46 : decode cX10_fewest 46 = .ok (.if_icmp .ge 41, 3) := by decide +kernel
theorem dX10_fewest_49 : decode cX10_fewest 49 = .ok (.iload_n 1, 1) := by decide +kernel
theorem dX10_fewest_50 : decode cX10_fewest 50 = .ok (.aload_n 0, 1) := by decide +kernel
theorem dX10_fewest_51 : decode cX10_fewest 51 = .ok (.iload 4, 2) := by decide +kernel
theorem dX10_fewest_53 : decode cX10_fewest 53 = .ok (.invokevirtual 314, 3) := by decide +kernel
theorem dX10_fewest_56 : decode cX10_fewest 56 = .ok (.iconst (-1), 1) := by decide +kernel
theorem dX10_fewest_57 : decode cX10_fewest 57 = .ok (.ixor, 1) := by decide +kernel
theorem dX10_fewest_58 : decode cX10_fewest 58 = .ok (.iand, 1) := by decide +kernel
theorem dX10_fewest_59 : decode cX10_fewest 59 = .ok (.ifCond .ne 22, 3) := by decide +kernel
theorem dX10_fewest_62 : decode cX10_fewest 62 = .ok (.iload_n 3, 1) := by decide +kernel
theorem dX10_fewest_63 : decode cX10_fewest 63 = .ok (.ifCond .lt 15, 3) := by decide +kernel
theorem dX10_fewest_66 : decode cX10_fewest 66 = .ok (.iload 4, 2) := by decide +kernel
theorem dX10_fewest_68 : decode cX10_fewest 68 = .ok (.invokestatic 299, 3) := by decide +kernel
theorem dX10_fewest_71 : decode cX10_fewest 71 = .ok (.iload_n 3, 1) := by decide +kernel
theorem dX10_fewest_72 : decode cX10_fewest 72 = .ok (.invokestatic 299, 3) := by decide +kernel
theorem dX10_fewest_75 : decode cX10_fewest 75 = .ok (.if_icmp .ge 6, 3) := by decide +kernel
theorem dX10_fewest_78 : decode cX10_fewest 78 = .ok (.iload 4, 2) := by decide +kernel
theorem dX10_fewest_80 : decode cX10_fewest 80 = .ok (.istore_n 3, 1) := by decide +kernel
theorem dX10_fewest_81 : decode cX10_fewest 81 = .ok (.iinc 4 1, 3) := by decide +kernel
theorem dX10_fewest_84 : decode cX10_fewest 84 = .ok (.goto (-46), 3) := by decide +kernel
theorem dX10_fewest_87 : decode cX10_fewest 87 = .ok (.iload_n 3, 1) := by decide +kernel
theorem dX10_fewest_88 : decode cX10_fewest 88 = .ok (.ifCond .lt 8, 3) := by decide +kernel
theorem dX10_fewest_91 : decode cX10_fewest 91 = .ok (.iload_n 2, 1) := by decide +kernel
theorem dX10_fewest_92 : decode cX10_fewest 92 = .ok (.iconst 1, 1) := by decide +kernel
theorem dX10_fewest_93 : decode cX10_fewest 93 = .ok (.if_icmp .ne 7, 3) := by decide +kernel
theorem dX10_fewest_96 : decode cX10_fewest 96 = .ok (.iload_n 3, 1) := by decide +kernel
theorem dX10_fewest_97 : decode cX10_fewest 97 = .ok (.goto 7, 3) := by decide +kernel
theorem dX10_fewest_100 : decode cX10_fewest 100 = .ok (.iload_n 3, 1) := by decide +kernel
theorem dX10_fewest_101 : decode cX10_fewest 101 = .ok (.invokestatic 299, 3) := by decide +kernel
theorem dX10_fewest_104 : decode cX10_fewest 104 = .ok (.ireturn, 1) := by decide +kernel
theorem dX10_corner_0 : decode cX10_corner 0 = .ok (.bipush (-2), 2) := by decide +kernel
theorem dX10_corner_2 : decode cX10_corner 2 = .ok (.istore_n 1, 1) := by decide +kernel
theorem dX10_corner_3 : decode cX10_corner 3 = .ok (.iconst 0, 1) := by decide +kernel
theorem dX10_corner_4 : decode cX10_corner 4 = .ok (.istore_n 2, 1) := by decide +kernel
theorem dX10_corner_5 : decode cX10_corner 5 = .ok (.iload_n 2, 1) := by decide +kernel
theorem dX10_corner_6 : decode cX10_corner 6 = .ok (.aload_n 0, 1) := by decide +kernel
theorem dX10_corner_7 : decode cX10_corner 7 = .ok (.getfield 121, 3) := by decide +kernel
theorem dX10_corner_10 : decode cX10_corner 10 = .ok (.if_icmp .ge 34, 3) := by decide +kernel
theorem dX10_corner_13 : decode cX10_corner 13 = .ok (.iload_n 1, 1) := by decide +kernel
theorem dX10_corner_14 : decode cX10_corner 14 = .ok (.ifCond .lt 22, 3) := by decide +kernel
theorem dX10_corner_17 : decode cX10_corner 17 = .ok (.aload_n 0, 1) := by decide +kernel
theorem dX10_corner_18 : decode cX10_corner 18 = .ok (.iload_n 2, 1) := by decide +kernel
theorem dX10_corner_19 : decode cX10_corner 19 = .ok (.invokevirtual 308, 3) := by decide +kernel
theorem dX10_corner_22 : decode cX10_corner 22 = .ok (.invokestatic 299, 3) := by decide +kernel
theorem dX10_corner_25 : decode cX10_corner 25 = .ok (.aload_n 0, 1) := by decide +kernel
theorem dX10_corner_26 : decode cX10_corner 26 = .ok (.iload_n 1, 1) := by decide +kernel
theorem dX10_corner_27 : decode cX10_corner 27 = .ok (.invokevirtual 308, 3) := by decide +kernel
theorem dX10_corner_30 : decode cX10_corner 30 = .ok (.invokestatic 299, 3) := by decide +kernel
theorem dX10_corner_33 : decode cX10_corner 33 = .ok (.if_icmp .le 5, 3) := by decide +kernel
theorem dX10_corner_36 : decode cX10_corner 36 = .ok (.iload_n 2, 1) := by decide +kernel
theorem dX10_corner_37 : decode cX10_corner 37 = .ok (.istore_n 1, 1) := by decide +kernel
theorem dX10_corner_38 : decode cX10_corner 38 = .ok (.iinc 2 1, 3) := by decide +kernel
theorem dX10_corner_41 : decode cX10_corner 41 = .ok (.goto (-36), 3) := by decide +kernel
theorem dX10_corner_44 : decode cX10_corner 44 = .ok (.iload_n 1, 1) := by decide +kernel
theorem dX10_corner_45 : decode cX10_corner 45 = .ok (.ireturn, 1) := by decide +kernel
theorem dX10_wayAt_0 : decode cX10_wayAt 0 = .ok (.iload_n 0, 1) := by decide +kernel
theorem dX10_wayAt_1 : decode cX10_wayAt 1 = .ok (.bipush 10, 2) := by decide +kernel
theorem dX10_wayAt_3 : decode cX10_wayAt 3 = .ok (.imul, 1) := by decide +kernel
theorem dX10_wayAt_4 : decode cX10_wayAt 4 = .ok (.iload_n 1, 1) := by decide +kernel
theorem dX10_wayAt_5 : decode cX10_wayAt 5 = .ok (.iadd, 1) := by decide +kernel
theorem dX10_wayAt_6 : decode cX10_wayAt 6 = .ok (.bipush 100, 2) := by decide +kernel
theorem dX10_wayAt_8 : decode cX10_wayAt 8 = .ok (.imul, 1) := by decide +kernel
theorem dX10_wayAt_9 : decode cX10_wayAt 9 = .ok (.iload_n 2, 1) := by decide +kernel
theorem dX10_wayAt_10 : decode cX10_wayAt 10 = .ok (.iadd, 1) := by decide +kernel
theorem dX10_wayAt_11 : decode cX10_wayAt 11 = .ok (.ireturn, 1) := by decide +kernel
theorem dX10_layAmounts_0 : decode cX10_layAmounts 0 = .ok (.aload_n 0, 1) := by decide +kernel
theorem dX10_layAmounts_1 : decode cX10_layAmounts 1 = .ok (.iload_n 1, 1) := by decide +kernel
theorem dX10_layAmounts_2 : decode cX10_layAmounts 2 = .ok (.invokevirtual 169, 3) := by decide +kernel
theorem dX10_layAmounts_5 : decode cX10_layAmounts 5 = .ok (.iconst 0, 1) := by decide +kernel
theorem dX10_layAmounts_6 : decode cX10_layAmounts 6 = .ok (.istore_n 2, 1) := by decide +kernel
theorem dX10_layAmounts_7 : decode cX10_layAmounts 7 = .ok (.iload_n 2, 1) := by decide +kernel
theorem dX10_layAmounts_8 : decode cX10_layAmounts 8 = .ok (.bipush 10, 2) := by decide +kernel
theorem dX10_layAmounts_10 : decode cX10_layAmounts 10 = .ok (.if_icmp .ge 48, 3) := by decide +kernel
theorem dX10_layAmounts_13 : decode cX10_layAmounts 13 = .ok (.iconst 0, 1) := by decide +kernel
theorem dX10_layAmounts_14 : decode cX10_layAmounts 14 = .ok (.istore_n 3, 1) := by decide +kernel
theorem dX10_layAmounts_15 : decode cX10_layAmounts 15 = .ok (.iload_n 3, 1) := by decide +kernel
theorem dX10_layAmounts_16 : decode cX10_layAmounts 16 = .ok (.bipush 60, 2) := by decide +kernel
theorem dX10_layAmounts_18 : decode cX10_layAmounts 18 = .ok (.if_icmp .ge 34, 3) := by decide +kernel
theorem dX10_layAmounts_21 : decode cX10_layAmounts 21 = .ok (.aload_n 0, 1) := by decide +kernel
theorem dX10_layAmounts_22 : decode cX10_layAmounts 22 = .ok (.getfield 78, 3) := by decide +kernel
theorem dX10_layAmounts_25 : decode cX10_layAmounts 25 = .ok (.bipush 60, 2) := by decide +kernel
theorem dX10_layAmounts_27 : decode cX10_layAmounts 27 = .ok (.iload_n 2, 1) := by decide +kernel
theorem dX10_layAmounts_28 : decode cX10_layAmounts 28 = .ok (.imul, 1) := by decide +kernel
theorem dX10_layAmounts_29 : decode cX10_layAmounts 29 = .ok (.iload_n 3, 1) := by decide +kernel
theorem dX10_layAmounts_30 : decode cX10_layAmounts 30 = .ok (.iadd, 1) := by decide +kernel
theorem dX10_layAmounts_31 : decode cX10_layAmounts 31 = .ok (.aload_n 0, 1) := by decide +kernel
theorem dX10_layAmounts_32 : decode cX10_layAmounts 32 = .ok (.iload_n 1, 1) := by decide +kernel
theorem dX10_layAmounts_33 : decode cX10_layAmounts 33 = .ok (.iload_n 3, 1) := by decide +kernel
theorem dX10_layAmounts_34 : decode cX10_layAmounts 34 = .ok (.bipush 10, 2) := by decide +kernel
theorem dX10_layAmounts_36 : decode cX10_layAmounts 36 = .ok (.idiv, 1) := by decide +kernel
theorem dX10_layAmounts_37 : decode cX10_layAmounts 37 = .ok (.iload_n 3, 1) := by decide +kernel
theorem dX10_layAmounts_38 : decode cX10_layAmounts 38 = .ok (.bipush 10, 2) := by decide +kernel
theorem dX10_layAmounts_40 : decode cX10_layAmounts 40 = .ok (.irem, 1) := by decide +kernel
theorem dX10_layAmounts_41 : decode cX10_layAmounts 41 = .ok (.iload_n 2, 1) := by decide +kernel
theorem dX10_layAmounts_42 : decode cX10_layAmounts 42 = .ok (.invokevirtual 259, 3) := by decide +kernel
theorem dX10_layAmounts_45 : decode cX10_layAmounts 45 = .ok (.iastore, 1) := by decide +kernel
theorem dX10_layAmounts_46 : decode cX10_layAmounts 46 = .ok (.iinc 3 1, 3) := by decide +kernel
theorem dX10_layAmounts_49 : decode cX10_layAmounts 49 = .ok (.goto (-34), 3) := by decide +kernel
theorem dX10_layAmounts_52 : decode cX10_layAmounts 52 = .ok (.iinc 2 1, 3) := by decide +kernel
theorem dX10_layAmounts_55 : decode cX10_layAmounts 55 = .ok (.goto (-48), 3) := by decide +kernel
theorem dX10_layAmounts_58 : decode cX10_layAmounts 58 = .ok (.return_, 1) := by decide +kernel
theorem dX10_waysBy_0 : decode cX10_waysBy 0 = .ok (.aload_n 0, 1) := by decide +kernel
theorem dX10_waysBy_1 : decode cX10_waysBy 1 = .ok (.getfield 78, 3) := by decide +kernel
theorem dX10_waysBy_4 : decode cX10_waysBy 4 = .ok (.bipush 60, 2) := by decide +kernel
theorem dX10_waysBy_6 : decode cX10_waysBy 6 = .ok (.iload_n 2, 1) := by decide +kernel
theorem dX10_waysBy_7 : decode cX10_waysBy 7 = .ok (.imul, 1) := by decide +kernel
theorem dX10_waysBy_8 : decode cX10_waysBy 8 = .ok (.iload 4, 2) := by decide +kernel
theorem dX10_waysBy_10 : decode cX10_waysBy 10 = .ok (.iadd, 1) := by decide +kernel
theorem dX10_waysBy_11 : decode cX10_waysBy 11 = .ok (.iaload, 1) := by decide +kernel
theorem dX10_waysBy_12 : decode cX10_waysBy 12 = .ok (.istore 5, 2) := by decide +kernel
theorem dX10_waysBy_14 : decode cX10_waysBy 14 = .ok (.iload 5, 2) := by decide +kernel
theorem dX10_waysBy_16 : decode cX10_waysBy 16 = .ok (.ifCond .ne 17, 3) := by decide +kernel
theorem dX10_waysBy_19 : decode cX10_waysBy 19 = .ok (.aload_n 0, 1) := by decide +kernel
theorem dX10_waysBy_20 : decode cX10_waysBy 20 = .ok (.getfield 74, 3) := by decide +kernel
theorem dX10_waysBy_23 : decode cX10_waysBy 23 = .ok (.iload_n 1, 1) := by decide +kernel
theorem dX10_waysBy_24 : decode cX10_waysBy 24 = .ok (.iconst 1, 1) := by decide +kernel
theorem dX10_waysBy_25 : decode cX10_waysBy 25 = .ok (.isub, 1) := by decide +kernel
theorem dX10_waysBy_26 : decode cX10_waysBy 26 = .ok (.iload_n 2, 1) := by decide +kernel
theorem dX10_waysBy_27 : decode cX10_waysBy 27 = .ok (.iload_n 3, 1) := by decide +kernel
theorem dX10_waysBy_28 : decode cX10_waysBy 28 = .ok (.invokestatic 317, 3) := by decide +kernel
theorem dX10_waysBy_31 : decode cX10_waysBy 31 = .ok (.laload, 1) := by decide +kernel
theorem dX10_waysBy_32 : decode cX10_waysBy 32 = .ok (.lreturn, 1) := by decide +kernel
theorem dX10_waysBy_33 : decode cX10_waysBy 33 = .ok (.iload_n 2, 1) := by decide +kernel
theorem dX10_waysBy_34 : decode cX10_waysBy 34 = .ok (.ifCond .le 55, 3) := by decide +kernel
theorem dX10_waysBy_37 : decode cX10_waysBy 37 = .ok (.aload_n 0, 1) := by decide +kernel
theorem dX10_waysBy_38 : decode cX10_waysBy 38 = .ok (.getfield 68, 3) := by decide +kernel
theorem dX10_waysBy_41 : decode cX10_waysBy 41 = .ok (.iload_n 2, 1) := by decide +kernel
theorem dX10_waysBy_42 : decode cX10_waysBy 42 = .ok (.iconst 1, 1) := by decide +kernel
theorem dX10_waysBy_43 : decode cX10_waysBy 43 = .ok (.isub, 1) := by decide +kernel
theorem dX10_waysBy_44 : decode cX10_waysBy 44 = .ok (.iaload, 1) := by decide +kernel
theorem dX10_waysBy_45 : decode cX10_waysBy 45 = .ok (.iload 4, 2) := by decide +kernel
theorem dX10_waysBy_47 : decode cX10_waysBy 47 = .ok (.bipush 10, 2) := by decide +kernel
theorem dX10_waysBy_49 : decode cX10_waysBy 49 = .ok (.idiv, 1) := by decide +kernel
theorem dX10_waysBy_50 : decode cX10_waysBy 50 = .ok (.if_icmp .ne 39, 3) := by decide +kernel
theorem dX10_waysBy_53 : decode cX10_waysBy 53 = .ok (.iload_n 3, 1) := by decide +kernel
theorem dX10_waysBy_54 : decode cX10_waysBy 54 = .ok (.iload 5, 2) := by decide +kernel
theorem dX10_waysBy_56 : decode cX10_waysBy 56 = .ok (.iadd, 1) := by decide +kernel
theorem dX10_waysBy_57 : decode cX10_waysBy 57 = .ok (.aload_n 0, 1) := by decide +kernel
theorem dX10_waysBy_58 : decode cX10_waysBy 58 = .ok (.getfield 71, 3) := by decide +kernel
theorem dX10_waysBy_61 : decode cX10_waysBy 61 = .ok (.iload_n 2, 1) := by decide +kernel
theorem dX10_waysBy_62 : decode cX10_waysBy 62 = .ok (.iconst 1, 1) := by decide +kernel
theorem dX10_waysBy_63 : decode cX10_waysBy 63 = .ok (.isub, 1) := by decide +kernel
theorem dX10_waysBy_64 : decode cX10_waysBy 64 = .ok (.iaload, 1) := by decide +kernel
theorem dX10_waysBy_65 : decode cX10_waysBy 65 = .ok (.if_icmp .gt 22, 3) := by decide +kernel
theorem dX10_waysBy_68 : decode cX10_waysBy 68 = .ok (.aload_n 0, 1) := by decide +kernel
theorem dX10_waysBy_69 : decode cX10_waysBy 69 = .ok (.getfield 74, 3) := by decide +kernel
theorem dX10_waysBy_72 : decode cX10_waysBy 72 = .ok (.iload_n 1, 1) := by decide +kernel
theorem dX10_waysBy_73 : decode cX10_waysBy 73 = .ok (.iconst 1, 1) := by decide +kernel
theorem dX10_waysBy_74 : decode cX10_waysBy 74 = .ok (.isub, 1) := by decide +kernel
theorem dX10_waysBy_75 : decode cX10_waysBy 75 = .ok (.iload_n 2, 1) := by decide +kernel
theorem dX10_waysBy_76 : decode cX10_waysBy 76 = .ok (.iload_n 3, 1) := by decide +kernel
theorem dX10_waysBy_77 : decode cX10_waysBy 77 = .ok (.iload 5, 2) := by decide +kernel
theorem dX10_waysBy_79 : decode cX10_waysBy 79 = .ok (.iadd, 1) := by decide +kernel
theorem dX10_waysBy_80 : decode cX10_waysBy 80 = .ok (.invokestatic 317, 3) := by decide +kernel
theorem dX10_waysBy_83 : decode cX10_waysBy 83 = .ok (.laload, 1) := by decide +kernel
theorem dX10_waysBy_84 : decode cX10_waysBy 84 = .ok (.goto 4, 3) := by decide +kernel
theorem dX10_waysBy_87 : decode cX10_waysBy 87 = .ok (.lconst 0, 1) := by decide +kernel
theorem dX10_waysBy_88 : decode cX10_waysBy 88 = .ok (.lreturn, 1) := by decide +kernel
theorem dX10_waysBy_89 : decode cX10_waysBy 89 = .ok (.iload_n 2, 1) := by decide +kernel
theorem dX10_waysBy_90 : decode cX10_waysBy 90 = .ok (.ifCond .le 15, 3) := by decide +kernel
theorem dX10_waysBy_93 : decode cX10_waysBy 93 = .ok (.iload_n 3, 1) := by decide +kernel
theorem dX10_waysBy_94 : decode cX10_waysBy 94 = .ok (.aload_n 0, 1) := by decide +kernel
theorem dX10_waysBy_95 : decode cX10_waysBy 95 = .ok (.getfield 71, 3) := by decide +kernel
theorem dX10_waysBy_98 : decode cX10_waysBy 98 = .ok (.iload_n 2, 1) := by decide +kernel
theorem dX10_waysBy_99 : decode cX10_waysBy 99 = .ok (.iconst 1, 1) := by decide +kernel
theorem dX10_waysBy_100 : decode cX10_waysBy 100 = .ok (.isub, 1) := by decide +kernel
theorem dX10_waysBy_101 : decode cX10_waysBy 101 = .ok (.iaload, 1) := by decide +kernel
theorem dX10_waysBy_102 : decode cX10_waysBy 102 = .ok (.if_icmp .ne 42, 3) := by decide +kernel
theorem dX10_waysBy_105 : decode cX10_waysBy 105 = .ok (.iload_n 2, 1) := by decide +kernel
theorem dX10_waysBy_106 : decode cX10_waysBy 106 = .ok (.aload_n 0, 1) := by decide +kernel
theorem dX10_waysBy_107 : decode cX10_waysBy 107 = .ok (.getfield 173, 3) := by decide +kernel
theorem dX10_waysBy_110 : decode cX10_waysBy 110 = .ok (.if_icmp .eq 34, 3) := by decide +kernel
theorem dX10_waysBy_113 : decode cX10_waysBy 113 = .ok (.iload_n 2, 1) := by decide +kernel
theorem dX10_waysBy_114 : decode cX10_waysBy 114 = .ok (.bipush 9, 2) := by decide +kernel
theorem dX10_waysBy_116 : decode cX10_waysBy 116 = .ok (.if_icmp .ge 28, 3) := by decide +kernel
theorem dX10_waysBy_119 : decode cX10_waysBy 119 = .ok (.aload_n 0, 1) := by decide +kernel
theorem dX10_waysBy_120 : decode cX10_waysBy 120 = .ok (.getfield 68, 3) := by decide +kernel
theorem dX10_waysBy_123 : decode cX10_waysBy 123 = .ok (.iload_n 2, 1) := by decide +kernel
theorem dX10_waysBy_124 : decode cX10_waysBy 124 = .ok (.iaload, 1) := by decide +kernel
theorem dX10_waysBy_125 : decode cX10_waysBy 125 = .ok (.iload 4, 2) := by decide +kernel
theorem dX10_waysBy_127 : decode cX10_waysBy 127 = .ok (.bipush 10, 2) := by decide +kernel
theorem dX10_waysBy_129 : decode cX10_waysBy 129 = .ok (.idiv, 1) := by decide +kernel
theorem dX10_waysBy_130 : decode cX10_waysBy 130 = .ok (.if_icmp .ne 14, 3) := by decide +kernel
theorem dX10_waysBy_133 : decode cX10_waysBy 133 = .ok (.iload 5, 2) := by decide +kernel
theorem dX10_waysBy_135 : decode cX10_waysBy 135 = .ok (.aload_n 0, 1) := by decide +kernel
theorem dX10_waysBy_136 : decode cX10_waysBy 136 = .ok (.getfield 71, 3) := by decide +kernel
theorem dX10_waysBy_139 : decode cX10_waysBy 139 = .ok (.iload_n 2, 1) := by decide +kernel
theorem dX10_waysBy_140 : decode cX10_waysBy 140 = .ok (.iaload, 1) := by decide +kernel
theorem dX10_waysBy_141 : decode cX10_waysBy 141 = .ok (.if_icmp .le 5, 3) := by decide +kernel
theorem dX10_waysBy_144 : decode cX10_waysBy 144 = .ok (.lconst 0, 1) := by decide +kernel
theorem dX10_waysBy_145 : decode cX10_waysBy 145 = .ok (.lreturn, 1) := by decide +kernel
theorem dX10_waysBy_146 : decode cX10_waysBy 146 = .ok (.aload_n 0, 1) := by decide +kernel
theorem dX10_waysBy_147 : decode cX10_waysBy 147 = .ok (.getfield 74, 3) := by decide +kernel
theorem dX10_waysBy_150 : decode cX10_waysBy 150 = .ok (.iload_n 1, 1) := by decide +kernel
theorem dX10_waysBy_151 : decode cX10_waysBy 151 = .ok (.iconst 1, 1) := by decide +kernel
theorem dX10_waysBy_152 : decode cX10_waysBy 152 = .ok (.isub, 1) := by decide +kernel
theorem dX10_waysBy_153 : decode cX10_waysBy 153 = .ok (.iload_n 2, 1) := by decide +kernel
theorem dX10_waysBy_154 : decode cX10_waysBy 154 = .ok (.iconst 1, 1) := by decide +kernel
theorem dX10_waysBy_155 : decode cX10_waysBy 155 = .ok (.iadd, 1) := by decide +kernel
theorem dX10_waysBy_156 : decode cX10_waysBy 156 = .ok (.iload 5, 2) := by decide +kernel
theorem dX10_waysBy_158 : decode cX10_waysBy 158 = .ok (.invokestatic 317, 3) := by decide +kernel
theorem dX10_waysBy_161 : decode cX10_waysBy 161 = .ok (.laload, 1) := by decide +kernel
theorem dX10_waysBy_162 : decode cX10_waysBy 162 = .ok (.lreturn, 1) := by decide +kernel
theorem dX10_isWithout_0 : decode cX10_isWithout 0 = .ok (.iload_n 1, 1) := by decide +kernel
theorem dX10_isWithout_1 : decode cX10_isWithout 1 = .ok (.bipush 10, 2) := by decide +kernel
theorem dX10_isWithout_3 : decode cX10_isWithout 3 = .ok (.idiv, 1) := by decide +kernel
theorem dX10_isWithout_4 : decode cX10_isWithout 4 = .ok (.aload_n 0, 1) := by decide +kernel
theorem dX10_isWithout_5 : decode cX10_isWithout 5 = .ok (.getfield 320, 3) := by decide +kernel
theorem dX10_isWithout_8 : decode cX10_isWithout 8 = .ok (.if_icmp .ne 7, 3) := by decide +kernel
theorem dX10_isWithout_11 : decode cX10_isWithout 11 = .ok (.iconst 1, 1) := by decide +kernel
theorem dX10_isWithout_12 : decode cX10_isWithout 12 = .ok (.goto 4, 3) := by decide +kernel
theorem dX10_isWithout_15 : decode cX10_isWithout 15 = .ok (.iconst 0, 1) := by decide +kernel
theorem dX10_isWithout_16 : decode cX10_isWithout 16 = .ok (.ireturn, 1) := by decide +kernel
theorem dX10_findWays_0 : decode cX10_findWays 0 = .ok (.aload_n 0, 1) := by decide +kernel
theorem dX10_findWays_1 : decode cX10_findWays 1 = .ok (.iload_n 1, 1) := by decide +kernel
theorem dX10_findWays_2 : decode cX10_findWays 2 = .ok (.invokevirtual 323, 3) := by decide +kernel
theorem dX10_findWays_5 : decode cX10_findWays 5 = .ok (.aload_n 0, 1) := by decide +kernel
theorem dX10_findWays_6 : decode cX10_findWays 6 = .ok (.iload_n 3, 1) := by decide +kernel
theorem dX10_findWays_7 : decode cX10_findWays 7 = .ok (.putfield 320, 3) := by decide +kernel
theorem dX10_findWays_10 : decode cX10_findWays 10 = .ok (.iconst 0, 1) := by decide +kernel
theorem dX10_findWays_11 : decode cX10_findWays 11 = .ok (.istore 4, 2) := by decide +kernel
theorem dX10_findWays_13 : decode cX10_findWays 13 = .ok (.iload 4, 2) := by decide +kernel
theorem dX10_findWays_15 : decode cX10_findWays 15 = .ok (.iload_n 2, 1) := by decide +kernel
theorem dX10_findWays_16 : decode cX10_findWays 16 = .ok (.if_icmp .gt 81, 3) := by decide +kernel
theorem dX10_findWays_19 : decode cX10_findWays 19 = .ok (.iconst 0, 1) := by decide +kernel
theorem dX10_findWays_20 : decode cX10_findWays 20 = .ok (.istore 5, 2) := by decide +kernel
theorem dX10_findWays_22 : decode cX10_findWays 22 = .ok (.iload 5, 2) := by decide +kernel
theorem dX10_findWays_24 : decode cX10_findWays 24 = .ok (.bipush 10, 2) := by decide +kernel
theorem dX10_findWays_26 : decode cX10_findWays 26 = .ok (.if_icmp .ge 65, 3) := by decide +kernel
theorem dX10_findWays_29 : decode cX10_findWays 29 = .ok (.iconst 0, 1) := by decide +kernel
theorem dX10_findWays_30 : decode cX10_findWays 30 = .ok (.istore 6, 2) := by decide +kernel
theorem dX10_findWays_32 : decode cX10_findWays 32 = .ok (.iload 6, 2) := by decide +kernel
theorem dX10_findWays_34 : decode cX10_findWays 34 = .ok (.bipush 100, 2) := by decide +kernel
theorem dX10_findWays_36 : decode cX10_findWays 36 = .ok (.if_icmp .ge 49, 3) := by decide +kernel
theorem dX10_findWays_39 : decode cX10_findWays 39 = .ok (.aload_n 0, 1) := by decide +kernel
theorem dX10_findWays_40 : decode cX10_findWays 40 = .ok (.getfield 74, 3) := by decide +kernel
theorem dX10_findWays_43 : decode cX10_findWays 43 = .ok (.iload 4, 2) := by decide +kernel
theorem dX10_findWays_45 : decode cX10_findWays 45 = .ok (.iload 5, 2) := by decide +kernel
theorem dX10_findWays_47 : decode cX10_findWays 47 = .ok (.iload 6, 2) := by decide +kernel
theorem dX10_findWays_49 : decode cX10_findWays 49 = .ok (.invokestatic 317, 3) := by decide +kernel
theorem dX10_findWays_52 : decode cX10_findWays 52 = .ok (.iload 4, 2) := by decide +kernel
theorem dX10_findWays_54 : decode cX10_findWays 54 = .ok (.ifCond .ne 14, 3) := by decide +kernel
theorem dX10_findWays_57 : decode cX10_findWays 57 = .ok (.aload_n 0, 1) := by decide +kernel
theorem dX10_findWays_58 : decode cX10_findWays 58 = .ok (.iload 5, 2) := by decide +kernel
theorem dX10_findWays_60 : decode cX10_findWays 60 = .ok (.iload 6, 2) := by decide +kernel
theorem dX10_findWays_62 : decode cX10_findWays 62 = .ok (.invokevirtual 326, 3) := by decide +kernel
theorem dX10_findWays_65 : decode cX10_findWays 65 = .ok (.goto 13, 3) := by decide +kernel
theorem dX10_findWays_68 : decode cX10_findWays 68 = .ok (.aload_n 0, 1) := by decide +kernel
theorem dX10_findWays_69 : decode cX10_findWays 69 = .ok (.iload 4, 2) := by decide +kernel
theorem dX10_findWays_71 : decode cX10_findWays 71 = .ok (.iload 5, 2) := by decide +kernel
theorem dX10_findWays_73 : decode cX10_findWays 73 = .ok (.iload 6, 2) := by decide +kernel
theorem dX10_findWays_75 : decode cX10_findWays 75 = .ok (.invokevirtual 330, 3) := by decide +kernel
theorem dX10_findWays_78 : decode cX10_findWays 78 = .ok (.lastore, 1) := by decide +kernel
theorem dX10_findWays_79 : decode cX10_findWays 79 = .ok (.iinc 6 1, 3) := by decide +kernel
theorem dX10_findWays_82 : decode cX10_findWays 82 = .ok (.goto (-50), 3) := by decide +kernel
theorem dX10_findWays_85 : decode cX10_findWays 85 = .ok (.iinc 5 1, 3) := by decide +kernel
theorem dX10_findWays_88 : decode cX10_findWays 88 = .ok (.goto (-66), 3) := by decide +kernel
theorem dX10_findWays_91 : decode cX10_findWays 91 = .ok (.iinc 4 1, 3) := by decide +kernel
theorem dX10_findWays_94 : decode cX10_findWays 94 = .ok (.goto (-81), 3) := by decide +kernel
theorem dX10_findWays_97 : decode cX10_findWays 97 = .ok (.return_, 1) := by decide +kernel
theorem dX10_isThere_0 : decode cX10_isThere 0 = .ok (.iload_n 1, 1) := by decide +kernel
theorem dX10_isThere_1 : decode cX10_isThere 1 = .ok (.aload_n 0, 1) := by decide +kernel
theorem dX10_isThere_2 : decode cX10_isThere 2 = .ok (.getfield 173, 3) := by decide +kernel
theorem dX10_isThere_5 : decode cX10_isThere 5 = .ok (.if_icmp .ne 30, 3) := by decide +kernel
theorem dX10_isThere_8 : decode cX10_isThere 8 = .ok (.iload_n 1, 1) := by decide +kernel
theorem dX10_isThere_9 : decode cX10_isThere 9 = .ok (.ifCond .ne 10, 3) := by decide +kernel
theorem dX10_isThere_12 : decode cX10_isThere 12 = .ok (.iload_n 2, 1) := by decide +kernel
theorem dX10_isThere_13 : decode cX10_isThere 13 = .ok (.ifCond .ne 22, 3) := by decide +kernel
theorem dX10_isThere_16 : decode cX10_isThere 16 = .ok (.goto 15, 3) := by decide +kernel
theorem dX10_isThere_19 : decode cX10_isThere 19 = .ok (.iload_n 2, 1) := by decide +kernel
theorem dX10_isThere_20 : decode cX10_isThere 20 = .ok (.aload_n 0, 1) := by decide +kernel
theorem dX10_isThere_21 : decode cX10_isThere 21 = .ok (.getfield 71, 3) := by decide +kernel
theorem dX10_isThere_24 : decode cX10_isThere 24 = .ok (.iload_n 1, 1) := by decide +kernel
theorem dX10_isThere_25 : decode cX10_isThere 25 = .ok (.iconst 1, 1) := by decide +kernel
theorem dX10_isThere_26 : decode cX10_isThere 26 = .ok (.isub, 1) := by decide +kernel
theorem dX10_isThere_27 : decode cX10_isThere 27 = .ok (.iaload, 1) := by decide +kernel
theorem dX10_isThere_28 : decode cX10_isThere 28 = .ok (.if_icmp .ne 7, 3) := by decide +kernel
theorem dX10_isThere_31 : decode cX10_isThere 31 = .ok (.lconst 1, 1) := by decide +kernel
theorem dX10_isThere_32 : decode cX10_isThere 32 = .ok (.goto 4, 3) := by decide +kernel
theorem dX10_isThere_35 : decode cX10_isThere 35 = .ok (.lconst 0, 1) := by decide +kernel
theorem dX10_isThere_36 : decode cX10_isThere 36 = .ok (.lreturn, 1) := by decide +kernel
theorem dX10_sumWays_0 : decode cX10_sumWays 0 = .ok (.iload_n 2, 1) := by decide +kernel
theorem dX10_sumWays_1 : decode cX10_sumWays 1 = .ok (.aload_n 0, 1) := by decide +kernel
theorem dX10_sumWays_2 : decode cX10_sumWays 2 = .ok (.getfield 173, 3) := by decide +kernel
theorem dX10_sumWays_5 : decode cX10_sumWays 5 = .ok (.if_icmp .gt 27, 3) := by decide +kernel
theorem dX10_sumWays_8 : decode cX10_sumWays 8 = .ok (.iload_n 2, 1) := by decide +kernel
theorem dX10_sumWays_9 : decode cX10_sumWays 9 = .ok (.ifCond .ne 7, 3) := by decide +kernel
theorem dX10_sumWays_12 : decode cX10_sumWays 12 = .ok (.iload_n 3, 1) := by decide +kernel
theorem dX10_sumWays_13 : decode cX10_sumWays 13 = .ok (.ifCond .gt 19, 3) := by decide +kernel
theorem dX10_sumWays_16 : decode cX10_sumWays 16 = .ok (.iload_n 2, 1) := by decide +kernel
theorem dX10_sumWays_17 : decode cX10_sumWays 17 = .ok (.ifCond .le 17, 3) := by decide +kernel
theorem dX10_sumWays_20 : decode cX10_sumWays 20 = .ok (.iload_n 3, 1) := by decide +kernel
theorem dX10_sumWays_21 : decode cX10_sumWays 21 = .ok (.aload_n 0, 1) := by decide +kernel
theorem dX10_sumWays_22 : decode cX10_sumWays 22 = .ok (.getfield 71, 3) := by decide +kernel
theorem dX10_sumWays_25 : decode cX10_sumWays 25 = .ok (.iload_n 2, 1) := by decide +kernel
theorem dX10_sumWays_26 : decode cX10_sumWays 26 = .ok (.iconst 1, 1) := by decide +kernel
theorem dX10_sumWays_27 : decode cX10_sumWays 27 = .ok (.isub, 1) := by decide +kernel
theorem dX10_sumWays_28 : decode cX10_sumWays 28 = .ok (.iaload, 1) := by decide +kernel
theorem dX10_sumWays_29 : decode cX10_sumWays 29 = .ok (.if_icmp .le 5, 3) := by decide +kernel
theorem dX10_sumWays_32 : decode cX10_sumWays 32 = .ok (.lconst 0, 1) := by decide +kernel
theorem dX10_sumWays_33 : decode cX10_sumWays 33 = .ok (.lreturn, 1) := by decide +kernel
theorem dX10_sumWays_34 : decode cX10_sumWays 34 = .ok (.lconst 0, 1) := by decide +kernel
theorem dX10_sumWays_35 : decode cX10_sumWays 35 = .ok (.lstore 4, 2) := by decide +kernel
theorem dX10_sumWays_37 : decode cX10_sumWays 37 = .ok (.iconst 0, 1) := by decide +kernel
theorem dX10_sumWays_38 : decode cX10_sumWays 38 = .ok (.istore 6, 2) := by decide +kernel
theorem dX10_sumWays_40 : decode cX10_sumWays 40 = .ok (.iload 6, 2) := by decide +kernel
theorem dX10_sumWays_42 : decode cX10_sumWays 42 = .ok (.bipush 60, 2) := by decide +kernel
theorem dX10_sumWays_44 : decode cX10_sumWays 44 = .ok (.if_icmp .ge 32, 3) := by decide +kernel
theorem dX10_sumWays_47 : decode cX10_sumWays 47 = .ok (.aload_n 0, 1) := by decide +kernel
theorem dX10_sumWays_48 : decode cX10_sumWays 48 = .ok (.iload 6, 2) := by decide +kernel
theorem dX10_sumWays_50 : decode cX10_sumWays 50 = .ok (.invokevirtual 334, 3) := by decide +kernel
theorem dX10_sumWays_53 : decode cX10_sumWays 53 = .ok (.ifCond .ne 17, 3) := by decide +kernel
theorem dX10_sumWays_56 : decode cX10_sumWays 56 = .ok (.lload 4, 2) := by decide +kernel
theorem dX10_sumWays_58 : decode cX10_sumWays 58 = .ok (.aload_n 0, 1) := by decide +kernel
theorem dX10_sumWays_59 : decode cX10_sumWays 59 = .ok (.iload_n 1, 1) := by decide +kernel
theorem dX10_sumWays_60 : decode cX10_sumWays 60 = .ok (.iload_n 2, 1) := by decide +kernel
theorem dX10_sumWays_61 : decode cX10_sumWays 61 = .ok (.iload_n 3, 1) := by decide +kernel
theorem dX10_sumWays_62 : decode cX10_sumWays 62 = .ok (.iload 6, 2) := by decide +kernel
theorem dX10_sumWays_64 : decode cX10_sumWays 64 = .ok (.invokevirtual 337, 3) := by decide +kernel
theorem dX10_sumWays_67 : decode cX10_sumWays 67 = .ok (.ladd, 1) := by decide +kernel
theorem dX10_sumWays_68 : decode cX10_sumWays 68 = .ok (.lstore 4, 2) := by decide +kernel
theorem dX10_sumWays_70 : decode cX10_sumWays 70 = .ok (.iinc 6 1, 3) := by decide +kernel
theorem dX10_sumWays_73 : decode cX10_sumWays 73 = .ok (.goto (-33), 3) := by decide +kernel
theorem dX10_sumWays_76 : decode cX10_sumWays 76 = .ok (.lload 4, 2) := by decide +kernel
theorem dX10_sumWays_78 : decode cX10_sumWays 78 = .ok (.lreturn, 1) := by decide +kernel
theorem dX10_areDays_0 : decode cX10_areDays 0 = .ok (.iload_n 0, 1) := by decide +kernel
theorem dX10_areDays_1 : decode cX10_areDays 1 = .ok (.iconst 0, 1) := by decide +kernel
theorem dX10_areDays_2 : decode cX10_areDays 2 = .ok (.bipush 9, 2) := by decide +kernel
theorem dX10_areDays_4 : decode cX10_areDays 4 = .ok (.invokestatic 124, 3) := by decide +kernel
theorem dX10_areDays_7 : decode cX10_areDays 7 = .ok (.ireturn, 1) := by decide +kernel
theorem dX10_allWays_0 : decode cX10_allWays 0 = .ok (.aload_n 0, 1) := by decide +kernel
theorem dX10_allWays_1 : decode cX10_allWays 1 = .ok (.iload_n 1, 1) := by decide +kernel
theorem dX10_allWays_2 : decode cX10_allWays 2 = .ok (.iload_n 2, 1) := by decide +kernel
theorem dX10_allWays_3 : decode cX10_allWays 3 = .ok (.iload_n 3, 1) := by decide +kernel
theorem dX10_allWays_4 : decode cX10_allWays 4 = .ok (.invokevirtual 341, 3) := by decide +kernel
theorem dX10_allWays_7 : decode cX10_allWays 7 = .ok (.aload_n 0, 1) := by decide +kernel
theorem dX10_allWays_8 : decode cX10_allWays 8 = .ok (.getfield 74, 3) := by decide +kernel
theorem dX10_allWays_11 : decode cX10_allWays 11 = .ok (.iload_n 2, 1) := by decide +kernel
theorem dX10_allWays_12 : decode cX10_allWays 12 = .ok (.iconst 0, 1) := by decide +kernel
theorem dX10_allWays_13 : decode cX10_allWays 13 = .ok (.iconst 0, 1) := by decide +kernel
theorem dX10_allWays_14 : decode cX10_allWays 14 = .ok (.invokestatic 317, 3) := by decide +kernel
theorem dX10_allWays_17 : decode cX10_allWays 17 = .ok (.laload, 1) := by decide +kernel
theorem dX10_allWays_18 : decode cX10_allWays 18 = .ok (.lreturn, 1) := by decide +kernel
theorem dX10_ways_0 : decode cX10_ways 0 = .ok (.aload_n 0, 1) := by decide +kernel
theorem dX10_ways_1 : decode cX10_ways 1 = .ok (.iload_n 1, 1) := by decide +kernel
theorem dX10_ways_2 : decode cX10_ways 2 = .ok (.invokevirtual 152, 3) := by decide +kernel
theorem dX10_ways_5 : decode cX10_ways 5 = .ok (.ifCond .eq 20, 3) := by decide +kernel
theorem dX10_ways_8 : decode cX10_ways 8 = .ok (.iload_n 2, 1) := by decide +kernel
theorem dX10_ways_9 : decode cX10_ways 9 = .ok (.invokestatic 344, 3) := by decide +kernel
theorem dX10_ways_12 : decode cX10_ways 12 = .ok (.ifCond .eq 13, 3) := by decide +kernel
theorem dX10_ways_15 : decode cX10_ways 15 = .ok (.aload_n 0, 1) := by decide +kernel
theorem dX10_ways_16 : decode cX10_ways 16 = .ok (.iload_n 1, 1) := by decide +kernel
theorem dX10_ways_17 : decode cX10_ways 17 = .ok (.iload_n 2, 1) := by decide +kernel
theorem dX10_ways_18 : decode cX10_ways 18 = .ok (.iconst (-1), 1) := by decide +kernel
theorem dX10_ways_19 : decode cX10_ways 19 = .ok (.invokevirtual 347, 3) := by decide +kernel
theorem dX10_ways_22 : decode cX10_ways 22 = .ok (.goto 6, 3) := by decide +kernel
theorem dX10_ways_25 : decode cX10_ways 25 = .ok (.ldc2_w 350, 3) := by decide +kernel
theorem dX10_ways_28 : decode cX10_ways 28 = .ok (.lreturn, 1) := by decide +kernel
theorem dX10_first_0 : decode cX10_first 0 = .ok (.aload_n 0, 1) := by decide +kernel
theorem dX10_first_1 : decode cX10_first 1 = .ok (.iload_n 1, 1) := by decide +kernel
theorem dX10_first_2 : decode cX10_first 2 = .ok (.invokevirtual 152, 3) := by decide +kernel
theorem dX10_first_5 : decode cX10_first 5 = .ok (.ifCond .eq 14, 3) := by decide +kernel
theorem dX10_first_8 : decode cX10_first 8 = .ok (.iload_n 2, 1) := by decide +kernel
theorem dX10_first_9 : decode cX10_first 9 = .ok (.invokestatic 344, 3) := by decide +kernel
theorem dX10_first_12 : decode cX10_first 12 = .ok (.ifCond .eq 7, 3) := by decide +kernel
theorem dX10_first_15 : decode cX10_first 15 = .ok (.iload_n 3, 1) := by decide +kernel
theorem dX10_first_16 : decode cX10_first 16 = .ok (.ifCond .ge 5, 3) := by decide +kernel
theorem dX10_first_19 : decode cX10_first 19 = .ok (.iconst (-1), 1) := by decide +kernel
theorem dX10_first_20 : decode cX10_first 20 = .ok (.ireturn, 1) := by decide +kernel
theorem dX10_first_21 : decode cX10_first 21 = .ok (.aload_n 0, 1) := by decide +kernel
theorem dX10_first_22 : decode cX10_first 22 = .ok (.iload_n 1, 1) := by decide +kernel
theorem dX10_first_23 : decode cX10_first 23 = .ok (.iload_n 2, 1) := by decide +kernel
theorem dX10_first_24 : decode cX10_first 24 = .ok (.iconst (-1), 1) := by decide +kernel
theorem dX10_first_25 : decode cX10_first 25 = .ok (.invokevirtual 347, 3) := by decide +kernel
theorem dX10_first_28 : decode cX10_first 28 = .ok (.lconst 0, 1) := by decide +kernel
theorem dX10_first_29 : decode cX10_first 29 = .ok (.lcmp, 1) := by decide +kernel
theorem dX10_first_30 : decode cX10_first 30 = .ok (.ifCond .eq 8, 3) := by decide +kernel
theorem dX10_first_33 : decode cX10_first 33 = .ok (.iload_n 3, 1) := by decide +kernel
theorem dX10_first_34 : decode cX10_first 34 = .ok (.iload_n 2, 1) := by decide +kernel
theorem dX10_first_35 : decode cX10_first 35 = .ok (.if_icmp .lt 6, 3) := by decide +kernel
theorem dX10_first_38 : decode cX10_first 38 = .ok (.bipush (-2), 2) := by decide +kernel
theorem dX10_first_40 : decode cX10_first 40 = .ok (.ireturn, 1) := by decide +kernel
theorem dX10_first_41 : decode cX10_first 41 = .ok (.iconst 0, 1) := by decide +kernel
theorem dX10_first_42 : decode cX10_first 42 = .ok (.istore 4, 2) := by decide +kernel
theorem dX10_first_44 : decode cX10_first 44 = .ok (.iconst 0, 1) := by decide +kernel
theorem dX10_first_45 : decode cX10_first 45 = .ok (.istore 5, 2) := by decide +kernel
theorem dX10_first_47 : decode cX10_first 47 = .ok (.iconst 0, 1) := by decide +kernel
theorem dX10_first_48 : decode cX10_first 48 = .ok (.istore 6, 2) := by decide +kernel
theorem dX10_first_50 : decode cX10_first 50 = .ok (.iload 6, 2) := by decide +kernel
theorem dX10_first_52 : decode cX10_first 52 = .ok (.iload_n 3, 1) := by decide +kernel
theorem dX10_first_53 : decode cX10_first 53 = .ok (.if_icmp .gt 108, 3) := by decide +kernel
theorem dX10_first_56 : decode cX10_first 56 = .ok (.iconst 0, 1) := by decide +kernel
theorem dX10_first_57 : decode cX10_first 57 = .ok (.istore 7, 2) := by decide +kernel
theorem dX10_first_59 : decode cX10_first 59 = .ok (.aload_n 0, 1) := by decide +kernel
theorem dX10_first_60 : decode cX10_first 60 = .ok (.iload_n 2, 1) := by decide +kernel
theorem dX10_first_61 : decode cX10_first 61 = .ok (.iload 6, 2) := by decide +kernel
theorem dX10_first_63 : decode cX10_first 63 = .ok (.isub, 1) := by decide +kernel
theorem dX10_first_64 : decode cX10_first 64 = .ok (.iload 4, 2) := by decide +kernel
theorem dX10_first_66 : decode cX10_first 66 = .ok (.iload 5, 2) := by decide +kernel
theorem dX10_first_68 : decode cX10_first 68 = .ok (.iload 7, 2) := by decide +kernel
theorem dX10_first_70 : decode cX10_first 70 = .ok (.invokevirtual 337, 3) := by decide +kernel
theorem dX10_first_73 : decode cX10_first 73 = .ok (.lconst 0, 1) := by decide +kernel
theorem dX10_first_74 : decode cX10_first 74 = .ok (.lcmp, 1) := by decide +kernel
theorem dX10_first_75 : decode cX10_first 75 = .ok (.ifCond .ne 9, 3) := by decide +kernel
theorem dX10_first_78 : decode cX10_first 78 = .ok (.iinc 7 1, 3) := by decide +kernel
theorem dX10_first_81 : decode cX10_first 81 = .ok (.goto (-22), 3) := by decide +kernel
theorem dX10_first_84 : decode cX10_first 84 = .ok (.iload 6, 2) := by decide +kernel
theorem dX10_first_86 : decode cX10_first 86 = .ok (.iload_n 3, 1) := by decide +kernel
theorem dX10_first_87 : decode cX10_first 87 = .ok (.if_icmp .ne 6, 3) := by decide +kernel
theorem dX10_first_90 : decode cX10_first 90 = .ok (.iload 7, 2) := by decide +kernel
theorem dX10_first_92 : decode cX10_first 92 = .ok (.ireturn, 1) := by decide +kernel
theorem dX10_first_93 : decode cX10_first 93 = .ok (.aload_n 0, 1) := by decide +kernel
theorem dX10_first_94 : decode cX10_first 94 = .ok (.getfield 78, 3) := by decide +kernel
theorem dX10_first_97 : decode cX10_first 97 = .ok (.bipush 60, 2) := by decide +kernel
theorem dX10_first_99 : decode cX10_first 99 = .ok (.iload 4, 2) := by decide +kernel
theorem dX10_first_101 : decode cX10_first 101 = .ok (.imul, 1) := by decide +kernel
theorem dX10_first_102 : decode cX10_first 102 = .ok (.iload 7, 2) := by decide +kernel
theorem dX10_first_104 : decode cX10_first 104 = .ok (.iadd, 1) := by decide +kernel
theorem dX10_first_105 : decode cX10_first 105 = .ok (.iaload, 1) := by decide +kernel
theorem dX10_first_106 : decode cX10_first 106 = .ok (.istore 8, 2) := by decide +kernel
theorem dX10_first_108 : decode cX10_first 108 = .ok (.iload 8, 2) := by decide +kernel
theorem dX10_first_110 : decode cX10_first 110 = .ok (.ifCond .ne 6, 3) := by decide +kernel
theorem dX10_first_113 : decode cX10_first 113 = .ok (.goto 42, 3) := by decide +kernel
theorem dX10_first_116 : decode cX10_first 116 = .ok (.iload 4, 2) := by decide +kernel
theorem dX10_first_118 : decode cX10_first 118 = .ok (.ifCond .le 30, 3) := by decide +kernel
theorem dX10_first_121 : decode cX10_first 121 = .ok (.aload_n 0, 1) := by decide +kernel
theorem dX10_first_122 : decode cX10_first 122 = .ok (.getfield 68, 3) := by decide +kernel
theorem dX10_first_125 : decode cX10_first 125 = .ok (.iload 4, 2) := by decide +kernel
theorem dX10_first_127 : decode cX10_first 127 = .ok (.iconst 1, 1) := by decide +kernel
theorem dX10_first_128 : decode cX10_first 128 = .ok (.isub, 1) := by decide +kernel
theorem dX10_first_129 : decode cX10_first 129 = .ok (.iaload, 1) := by decide +kernel
theorem dX10_first_130 : decode cX10_first 130 = .ok (.iload 7, 2) := by decide +kernel
theorem dX10_first_132 : decode cX10_first 132 = .ok (.bipush 10, 2) := by decide +kernel
theorem dX10_first_134 : decode cX10_first 134 = .ok (.idiv, 1) := by decide +kernel
theorem dX10_first_135 : decode cX10_first 135 = .ok (.if_icmp .ne 13, 3) := by decide +kernel
theorem dX10_first_138 : decode cX10_first 138 = .ok (.iload 5, 2) := by decide +kernel
theorem dX10_first_140 : decode cX10_first 140 = .ok (.iload 8, 2) := by decide +kernel
theorem dX10_first_142 : decode cX10_first 142 = .ok (.iadd, 1) := by decide +kernel
theorem dX10_first_143 : decode cX10_first 143 = .ok (.istore 5, 2) := by decide +kernel
theorem dX10_first_145 : decode cX10_first 145 = .ok (.goto 10, 3) := by decide +kernel
theorem dX10_first_148 : decode cX10_first 148 = .ok (.iinc 4 1, 3) := by decide +kernel
theorem dX10_first_151 : decode cX10_first 151 = .ok (.iload 8, 2) := by decide +kernel
theorem dX10_first_153 : decode cX10_first 153 = .ok (.istore 5, 2) := by decide +kernel
theorem dX10_first_155 : decode cX10_first 155 = .ok (.iinc 6 1, 3) := by decide +kernel
theorem dX10_first_158 : decode cX10_first 158 = .ok (.goto (-108), 3) := by decide +kernel
theorem dX10_first_161 : decode cX10_first 161 = .ok (.bipush (-2), 2) := by decide +kernel
theorem dX10_first_163 : decode cX10_first 163 = .ok (.ireturn, 1) := by decide +kernel
theorem dX10_least_0 : decode cX10_least 0 = .ok (.aload_n 0, 1) := by decide +kernel
theorem dX10_least_1 : decode cX10_least 1 = .ok (.iload_n 1, 1) := by decide +kernel
theorem dX10_least_2 : decode cX10_least 2 = .ok (.invokevirtual 152, 3) := by decide +kernel
theorem dX10_least_5 : decode cX10_least 5 = .ok (.ifCond .ne 5, 3) := by decide +kernel
theorem dX10_least_8 : decode cX10_least 8 = .ok (.iconst (-1), 1) := by decide +kernel
theorem dX10_least_9 : decode cX10_least 9 = .ok (.ireturn, 1) := by decide +kernel
theorem dX10_least_10 : decode cX10_least 10 = .ok (.iconst 0, 1) := by decide +kernel
theorem dX10_least_11 : decode cX10_least 11 = .ok (.istore_n 2, 1) := by decide +kernel
theorem dX10_least_12 : decode cX10_least 12 = .ok (.iload_n 2, 1) := by decide +kernel
theorem dX10_least_13 : decode cX10_least 13 = .ok (.bipush 9, 2) := by decide +kernel
theorem dX10_least_15 : decode cX10_least 15 = .ok (.if_icmp .gt 23, 3) := by decide +kernel
theorem dX10_least_18 : decode cX10_least 18 = .ok (.aload_n 0, 1) := by decide +kernel
theorem dX10_least_19 : decode cX10_least 19 = .ok (.iload_n 1, 1) := by decide +kernel
theorem dX10_least_20 : decode cX10_least 20 = .ok (.iload_n 2, 1) := by decide +kernel
theorem dX10_least_21 : decode cX10_least 21 = .ok (.iconst (-1), 1) := by decide +kernel
theorem dX10_least_22 : decode cX10_least 22 = .ok (.invokevirtual 347, 3) := by decide +kernel
theorem dX10_least_25 : decode cX10_least 25 = .ok (.lconst 0, 1) := by decide +kernel
theorem dX10_least_26 : decode cX10_least 26 = .ok (.lcmp, 1) := by decide +kernel
theorem dX10_least_27 : decode cX10_least 27 = .ok (.ifCond .le 5, 3) := by decide +kernel
theorem dX10_least_30 : decode cX10_least 30 = .ok (.iload_n 2, 1) := by decide +kernel
theorem dX10_least_31 : decode cX10_least 31 = .ok (.ireturn, 1) := by decide +kernel
theorem dX10_least_32 : decode cX10_least 32 = .ok (.iinc 2 1, 3) := by decide +kernel
theorem dX10_least_35 : decode cX10_least 35 = .ok (.goto (-23), 3) := by decide +kernel
theorem dX10_least_38 : decode cX10_least 38 = .ok (.bipush (-2), 2) := by decide +kernel
theorem dX10_least_40 : decode cX10_least 40 = .ok (.ireturn, 1) := by decide +kernel
theorem dX10_certain_0 : decode cX10_certain 0 = .ok (.aload_n 0, 1) := by decide +kernel
theorem dX10_certain_1 : decode cX10_certain 1 = .ok (.iload_n 1, 1) := by decide +kernel
theorem dX10_certain_2 : decode cX10_certain 2 = .ok (.invokevirtual 152, 3) := by decide +kernel
theorem dX10_certain_5 : decode cX10_certain 5 = .ok (.ifCond .eq 10, 3) := by decide +kernel
theorem dX10_certain_8 : decode cX10_certain 8 = .ok (.iload_n 2, 1) := by decide +kernel
theorem dX10_certain_9 : decode cX10_certain 9 = .ok (.invokestatic 344, 3) := by decide +kernel
theorem dX10_certain_12 : decode cX10_certain 12 = .ok (.ifCond .ne 5, 3) := by decide +kernel
theorem dX10_certain_15 : decode cX10_certain 15 = .ok (.iconst (-1), 1) := by decide +kernel
theorem dX10_certain_16 : decode cX10_certain 16 = .ok (.ireturn, 1) := by decide +kernel
theorem dX10_certain_17 : decode cX10_certain 17 = .ok (.aload_n 0, 1) := by decide +kernel
theorem dX10_certain_18 : decode cX10_certain 18 = .ok (.iload_n 1, 1) := by decide +kernel
theorem dX10_certain_19 : decode cX10_certain 19 = .ok (.iload_n 2, 1) := by decide +kernel
theorem dX10_certain_20 : decode cX10_certain 20 = .ok (.iconst (-1), 1) := by decide +kernel
theorem dX10_certain_21 : decode cX10_certain 21 = .ok (.invokevirtual 347, 3) := by decide +kernel
theorem dX10_certain_24 : decode cX10_certain 24 = .ok (.lconst 0, 1) := by decide +kernel
theorem dX10_certain_25 : decode cX10_certain 25 = .ok (.lcmp, 1) := by decide +kernel
theorem dX10_certain_26 : decode cX10_certain 26 = .ok (.ifCond .ne 5, 3) := by decide +kernel
theorem dX10_certain_29 : decode cX10_certain 29 = .ok (.iconst 0, 1) := by decide +kernel
theorem dX10_certain_30 : decode cX10_certain 30 = .ok (.ireturn, 1) := by decide +kernel
theorem dX10_certain_31 : decode cX10_certain 31 = .ok (.iconst 0, 1) := by decide +kernel
theorem dX10_certain_32 : decode cX10_certain 32 = .ok (.istore_n 3, 1) := by decide +kernel
theorem dX10_certain_33 : decode cX10_certain 33 = .ok (.iconst 0, 1) := by decide +kernel
theorem dX10_certain_34 : decode cX10_certain 34 = .ok (.istore 4, 2) := by decide +kernel
theorem dX10_certain_36 : decode cX10_certain 36 = .ok (.iload 4, 2) := by decide +kernel
theorem dX10_certain_38 : decode cX10_certain 38 = .ok (.bipush 6, 2) := by decide +kernel
theorem dX10_certain_40 : decode cX10_certain 40 = .ok (.if_icmp .ge 29, 3) := by decide +kernel
theorem dX10_certain_43 : decode cX10_certain 43 = .ok (.aload_n 0, 1) := by decide +kernel
theorem dX10_certain_44 : decode cX10_certain 44 = .ok (.iload_n 1, 1) := by decide +kernel
theorem dX10_certain_45 : decode cX10_certain 45 = .ok (.iload_n 2, 1) := by decide +kernel
theorem dX10_certain_46 : decode cX10_certain 46 = .ok (.iload 4, 2) := by decide +kernel
theorem dX10_certain_48 : decode cX10_certain 48 = .ok (.invokevirtual 347, 3) := by decide +kernel
theorem dX10_certain_51 : decode cX10_certain 51 = .ok (.lconst 0, 1) := by decide +kernel
theorem dX10_certain_52 : decode cX10_certain 52 = .ok (.lcmp, 1) := by decide +kernel
theorem dX10_certain_53 : decode cX10_certain 53 = .ok (.ifCond .ne 10, 3) := by decide +kernel
theorem dX10_certain_56 : decode cX10_certain 56 = .ok (.iload_n 3, 1) := by decide +kernel
theorem dX10_certain_57 : decode cX10_certain 57 = .ok (.iconst 1, 1) := by decide +kernel
theorem dX10_certain_58 : decode cX10_certain 58 = .ok (.iload 4, 2) := by decide +kernel
theorem dX10_certain_60 : decode cX10_certain 60 = .ok (.ishl, 1) := by decide +kernel
theorem dX10_certain_61 : decode cX10_certain 61 = .ok (.ior, 1) := by decide +kernel
theorem dX10_certain_62 : decode cX10_certain 62 = .ok (.istore_n 3, 1) := by decide +kernel
theorem dX10_certain_63 : decode cX10_certain 63 = .ok (.iinc 4 1, 3) := by decide +kernel
theorem dX10_certain_66 : decode cX10_certain 66 = .ok (.goto (-30), 3) := by decide +kernel
theorem dX10_certain_69 : decode cX10_certain 69 = .ok (.iload_n 3, 1) := by decide +kernel
theorem dX10_certain_70 : decode cX10_certain 70 = .ok (.ireturn, 1) := by decide +kernel
theorem dX10_areSills_0 : decode cX10_areSills 0 = .ok (.iload_n 1, 1) := by decide +kernel
theorem dX10_areSills_1 : decode cX10_areSills 1 = .ok (.ifCond .lt 29, 3) := by decide +kernel
theorem dX10_areSills_4 : decode cX10_areSills 4 = .ok (.aload_n 0, 1) := by decide +kernel
theorem dX10_areSills_5 : decode cX10_areSills 5 = .ok (.iload_n 1, 1) := by decide +kernel
theorem dX10_areSills_6 : decode cX10_areSills 6 = .ok (.bipush 10, 2) := by decide +kernel
theorem dX10_areSills_8 : decode cX10_areSills 8 = .ok (.idiv, 1) := by decide +kernel
theorem dX10_areSills_9 : decode cX10_areSills 9 = .ok (.invokevirtual 152, 3) := by decide +kernel
theorem dX10_areSills_12 : decode cX10_areSills 12 = .ok (.ifCond .eq 18, 3) := by decide +kernel
theorem dX10_areSills_15 : decode cX10_areSills 15 = .ok (.aload_n 0, 1) := by decide +kernel
theorem dX10_areSills_16 : decode cX10_areSills 16 = .ok (.iload_n 1, 1) := by decide +kernel
theorem dX10_areSills_17 : decode cX10_areSills 17 = .ok (.bipush 10, 2) := by decide +kernel
theorem dX10_areSills_19 : decode cX10_areSills 19 = .ok (.irem, 1) := by decide +kernel
theorem dX10_areSills_20 : decode cX10_areSills 20 = .ok (.invokevirtual 152, 3) := by decide +kernel
theorem dX10_areSills_23 : decode cX10_areSills 23 = .ok (.ifCond .eq 7, 3) := by decide +kernel
theorem dX10_areSills_26 : decode cX10_areSills 26 = .ok (.iconst 1, 1) := by decide +kernel
theorem dX10_areSills_27 : decode cX10_areSills 27 = .ok (.goto 4, 3) := by decide +kernel
theorem dX10_areSills_30 : decode cX10_areSills 30 = .ok (.iconst 0, 1) := by decide +kernel
theorem dX10_areSills_31 : decode cX10_areSills 31 = .ok (.ireturn, 1) := by decide +kernel
theorem dX10_whomAt_0 : decode cX10_whomAt 0 = .ok (.aload_n 0, 1) := by decide +kernel
theorem dX10_whomAt_1 : decode cX10_whomAt 1 = .ok (.getfield 24, 3) := by decide +kernel
theorem dX10_whomAt_4 : decode cX10_whomAt 4 = .ok (.bipush 12, 2) := by decide +kernel
theorem dX10_whomAt_6 : decode cX10_whomAt 6 = .ok (.iload_n 1, 1) := by decide +kernel
theorem dX10_whomAt_7 : decode cX10_whomAt 7 = .ok (.imul, 1) := by decide +kernel
theorem dX10_whomAt_8 : decode cX10_whomAt 8 = .ok (.iload_n 2, 1) := by decide +kernel
theorem dX10_whomAt_9 : decode cX10_whomAt 9 = .ok (.iadd, 1) := by decide +kernel
theorem dX10_whomAt_10 : decode cX10_whomAt 10 = .ok (.iaload, 1) := by decide +kernel
theorem dX10_whomAt_11 : decode cX10_whomAt 11 = .ok (.ireturn, 1) := by decide +kernel
theorem dX10_findAlike_0 : decode cX10_findAlike 0 = .ok (.aload_n 0, 1) := by decide +kernel
theorem dX10_findAlike_1 : decode cX10_findAlike 1 = .ok (.getfield 21, 3) := by decide +kernel
theorem dX10_findAlike_4 : decode cX10_findAlike 4 = .ok (.iload_n 1, 1) := by decide +kernel
theorem dX10_findAlike_5 : decode cX10_findAlike 5 = .ok (.iaload, 1) := by decide +kernel
theorem dX10_findAlike_6 : decode cX10_findAlike 6 = .ok (.istore_n 3, 1) := by decide +kernel
theorem dX10_findAlike_7 : decode cX10_findAlike 7 = .ok (.iload_n 3, 1) := by decide +kernel
theorem dX10_findAlike_8 : decode cX10_findAlike 8 = .ok (.ifCond .lt 176, 3) := by decide +kernel
theorem dX10_findAlike_11 : decode cX10_findAlike 11 = .ok (.aload_n 0, 1) := by decide +kernel
theorem dX10_findAlike_12 : decode cX10_findAlike 12 = .ok (.getfield 21, 3) := by decide +kernel
theorem dX10_findAlike_15 : decode cX10_findAlike 15 = .ok (.iload_n 2, 1) := by decide +kernel
theorem dX10_findAlike_16 : decode cX10_findAlike 16 = .ok (.iaload, 1) := by decide +kernel
theorem dX10_findAlike_17 : decode cX10_findAlike 17 = .ok (.istore 4, 2) := by decide +kernel
theorem dX10_findAlike_19 : decode cX10_findAlike 19 = .ok (.iload 4, 2) := by decide +kernel
theorem dX10_findAlike_21 : decode cX10_findAlike 21 = .ok (.ifCond .lt 157, 3) := by decide +kernel
theorem dX10_findAlike_24 : decode cX10_findAlike 24 = .ok (.iconst 0, 1) := by decide +kernel
theorem dX10_findAlike_25 : decode cX10_findAlike 25 = .ok (.istore 5, 2) := by decide +kernel
theorem dX10_findAlike_27 : decode cX10_findAlike 27 = .ok (.iload_n 3, 1) := by decide +kernel
theorem dX10_findAlike_28 : decode cX10_findAlike 28 = .ok (.aload_n 0, 1) := by decide +kernel
theorem dX10_findAlike_29 : decode cX10_findAlike 29 = .ok (.getfield 21, 3) := by decide +kernel
theorem dX10_findAlike_32 : decode cX10_findAlike 32 = .ok (.iload_n 1, 1) := by decide +kernel
theorem dX10_findAlike_33 : decode cX10_findAlike 33 = .ok (.iaload, 1) := by decide +kernel
theorem dX10_findAlike_34 : decode cX10_findAlike 34 = .ok (.if_icmp .ge 124, 3) := by decide +kernel
theorem dX10_findAlike_37 : decode cX10_findAlike 37 = .ok (.iload 4, 2) := by decide +kernel
theorem dX10_findAlike_39 : decode cX10_findAlike 39 = .ok (.aload_n 0, 1) := by decide +kernel
theorem dX10_findAlike_40 : decode cX10_findAlike 40 = .ok (.getfield 21, 3) := by decide +kernel
theorem dX10_findAlike_43 : decode cX10_findAlike 43 = .ok (.iload_n 2, 1) := by decide +kernel
theorem dX10_findAlike_44 : decode cX10_findAlike 44 = .ok (.iaload, 1) := by decide +kernel
theorem dX10_findAlike_45 : decode cX10_findAlike 45 = .ok (.if_icmp .ge 113, 3) := by decide +kernel
theorem dX10_findAlike_48 : decode cX10_findAlike 48 = .ok (.aload_n 0, 1) := by decide +kernel
theorem dX10_findAlike_49 : decode cX10_findAlike 49 = .ok (.getfield 81, 3) := by decide +kernel
theorem dX10_findAlike_52 : decode cX10_findAlike 52 = .ok (.bipush 13, 2) := by decide +kernel
theorem dX10_findAlike_54 : decode cX10_findAlike 54 = .ok (.iload_n 3, 1) := by decide +kernel
theorem dX10_findAlike_55 : decode cX10_findAlike 55 = .ok (.iconst 1, 1) := by decide +kernel
theorem dX10_findAlike_56 : decode cX10_findAlike 56 = .ok (.iadd, 1) := by decide +kernel
theorem dX10_findAlike_57 : decode cX10_findAlike 57 = .ok (.imul, 1) := by decide +kernel
theorem dX10_findAlike_58 : decode cX10_findAlike 58 = .ok (.iload 4, 2) := by decide +kernel
theorem dX10_findAlike_60 : decode cX10_findAlike 60 = .ok (.iadd, 1) := by decide +kernel
theorem dX10_findAlike_61 : decode cX10_findAlike 61 = .ok (.iaload, 1) := by decide +kernel
theorem dX10_findAlike_62 : decode cX10_findAlike 62 = .ok (.istore 5, 2) := by decide +kernel
theorem dX10_findAlike_64 : decode cX10_findAlike 64 = .ok (.aload_n 0, 1) := by decide +kernel
theorem dX10_findAlike_65 : decode cX10_findAlike 65 = .ok (.getfield 81, 3) := by decide +kernel
theorem dX10_findAlike_68 : decode cX10_findAlike 68 = .ok (.bipush 13, 2) := by decide +kernel
theorem dX10_findAlike_70 : decode cX10_findAlike 70 = .ok (.iload_n 3, 1) := by decide +kernel
theorem dX10_findAlike_71 : decode cX10_findAlike 71 = .ok (.imul, 1) := by decide +kernel
theorem dX10_findAlike_72 : decode cX10_findAlike 72 = .ok (.iload 4, 2) := by decide +kernel
theorem dX10_findAlike_74 : decode cX10_findAlike 74 = .ok (.iadd, 1) := by decide +kernel
theorem dX10_findAlike_75 : decode cX10_findAlike 75 = .ok (.iconst 1, 1) := by decide +kernel
theorem dX10_findAlike_76 : decode cX10_findAlike 76 = .ok (.iadd, 1) := by decide +kernel
theorem dX10_findAlike_77 : decode cX10_findAlike 77 = .ok (.iaload, 1) := by decide +kernel
theorem dX10_findAlike_78 : decode cX10_findAlike 78 = .ok (.iload 5, 2) := by decide +kernel
theorem dX10_findAlike_80 : decode cX10_findAlike 80 = .ok (.if_icmp .le 19, 3) := by decide +kernel
theorem dX10_findAlike_83 : decode cX10_findAlike 83 = .ok (.aload_n 0, 1) := by decide +kernel
theorem dX10_findAlike_84 : decode cX10_findAlike 84 = .ok (.getfield 81, 3) := by decide +kernel
theorem dX10_findAlike_87 : decode cX10_findAlike 87 = .ok (.bipush 13, 2) := by decide +kernel
theorem dX10_findAlike_89 : decode cX10_findAlike 89 = .ok (.iload_n 3, 1) := by decide +kernel
theorem dX10_findAlike_90 : decode cX10_findAlike 90 = .ok (.imul, 1) := by decide +kernel
theorem dX10_findAlike_91 : decode cX10_findAlike 91 = .ok (.iload 4, 2) := by decide +kernel
theorem dX10_findAlike_93 : decode cX10_findAlike 93 = .ok (.iadd, 1) := by decide +kernel
theorem dX10_findAlike_94 : decode cX10_findAlike 94 = .ok (.iconst 1, 1) := by decide +kernel
theorem dX10_findAlike_95 : decode cX10_findAlike 95 = .ok (.iadd, 1) := by decide +kernel
theorem dX10_findAlike_96 : decode cX10_findAlike 96 = .ok (.iaload, 1) := by decide +kernel
theorem dX10_findAlike_97 : decode cX10_findAlike 97 = .ok (.istore 5, 2) := by decide +kernel
theorem dX10_findAlike_99 : decode cX10_findAlike 99 = .ok (.aload_n 0, 1) := by decide +kernel
theorem dX10_findAlike_100 : decode cX10_findAlike 100 = .ok (.iload_n 1, 1) := by decide +kernel
theorem dX10_findAlike_101 : decode cX10_findAlike 101 = .ok (.iload_n 3, 1) := by decide +kernel
theorem dX10_findAlike_102 : decode cX10_findAlike 102 = .ok (.invokevirtual 352, 3) := by decide +kernel
theorem dX10_findAlike_105 : decode cX10_findAlike 105 = .ok (.aload_n 0, 1) := by decide +kernel
theorem dX10_findAlike_106 : decode cX10_findAlike 106 = .ok (.iload_n 2, 1) := by decide +kernel
theorem dX10_findAlike_107 : decode cX10_findAlike 107 = .ok (.iload 4, 2) := by decide +kernel
theorem dX10_findAlike_109 : decode cX10_findAlike 109 = .ok (.invokevirtual 352, 3) := by decide +kernel
theorem dX10_findAlike_112 : decode cX10_findAlike 112 = .ok (.if_icmp .ne 46, 3) := by decide +kernel
theorem dX10_findAlike_115 : decode cX10_findAlike 115 = .ok (.iconst 1, 1) := by decide +kernel
theorem dX10_findAlike_116 : decode cX10_findAlike 116 = .ok (.aload_n 0, 1) := by decide +kernel
theorem dX10_findAlike_117 : decode cX10_findAlike 117 = .ok (.getfield 81, 3) := by decide +kernel
theorem dX10_findAlike_120 : decode cX10_findAlike 120 = .ok (.bipush 13, 2) := by decide +kernel
theorem dX10_findAlike_122 : decode cX10_findAlike 122 = .ok (.iload_n 3, 1) := by decide +kernel
theorem dX10_findAlike_123 : decode cX10_findAlike 123 = .ok (.iconst 1, 1) := by decide +kernel
theorem dX10_findAlike_124 : decode cX10_findAlike 124 = .ok (.iadd, 1) := by decide +kernel
theorem dX10_findAlike_125 : decode cX10_findAlike 125 = .ok (.imul, 1) := by decide +kernel
theorem dX10_findAlike_126 : decode cX10_findAlike 126 = .ok (.iload 4, 2) := by decide +kernel
theorem dX10_findAlike_128 : decode cX10_findAlike 128 = .ok (.iadd, 1) := by decide +kernel
theorem dX10_findAlike_129 : decode cX10_findAlike 129 = .ok (.iconst 1, 1) := by decide +kernel
theorem dX10_findAlike_130 : decode cX10_findAlike 130 = .ok (.iadd, 1) := by decide +kernel
theorem dX10_findAlike_131 : decode cX10_findAlike 131 = .ok (.iaload, 1) := by decide +kernel
theorem dX10_findAlike_132 : decode cX10_findAlike 132 = .ok (.iadd, 1) := by decide +kernel
theorem dX10_findAlike_133 : decode cX10_findAlike 133 = .ok (.iload 5, 2) := by decide +kernel
theorem dX10_findAlike_135 : decode cX10_findAlike 135 = .ok (.if_icmp .le 23, 3) := by decide +kernel
theorem dX10_findAlike_138 : decode cX10_findAlike 138 = .ok (.iconst 1, 1) := by decide +kernel
theorem dX10_findAlike_139 : decode cX10_findAlike 139 = .ok (.aload_n 0, 1) := by decide +kernel
theorem dX10_findAlike_140 : decode cX10_findAlike 140 = .ok (.getfield 81, 3) := by decide +kernel
theorem dX10_findAlike_143 : decode cX10_findAlike 143 = .ok (.bipush 13, 2) := by decide +kernel
theorem dX10_findAlike_145 : decode cX10_findAlike 145 = .ok (.iload_n 3, 1) := by decide +kernel
theorem dX10_findAlike_146 : decode cX10_findAlike 146 = .ok (.iconst 1, 1) := by decide +kernel
theorem dX10_findAlike_147 : decode cX10_findAlike 147 = .ok (.iadd, 1) := by decide +kernel
theorem dX10_findAlike_148 : decode cX10_findAlike 148 = .ok (.imul, 1) := by decide +kernel
theorem dX10_findAlike_149 : decode cX10_findAlike 149 = .ok (.iload 4, 2) := by decide +kernel
theorem dX10_findAlike_151 : decode cX10_findAlike 151 = .ok (.iadd, 1) := by decide +kernel
theorem dX10_findAlike_152 : decode cX10_findAlike 152 = .ok (.iconst 1, 1) := by decide +kernel
theorem dX10_findAlike_153 : decode cX10_findAlike 153 = .ok (.iadd, 1) := by decide +kernel
theorem dX10_findAlike_154 : decode cX10_findAlike 154 = .ok (.iaload, 1) := by decide +kernel
theorem dX10_findAlike_155 : decode cX10_findAlike 155 = .ok (.iadd, 1) := by decide +kernel
theorem dX10_findAlike_156 : decode cX10_findAlike 156 = .ok (.istore 5, 2) := by decide +kernel
theorem dX10_findAlike_158 : decode cX10_findAlike 158 = .ok (.aload_n 0, 1) := by decide +kernel
theorem dX10_findAlike_159 : decode cX10_findAlike 159 = .ok (.getfield 81, 3) := by decide +kernel
theorem dX10_findAlike_162 : decode cX10_findAlike 162 = .ok (.bipush 13, 2) := by decide +kernel
theorem dX10_findAlike_164 : decode cX10_findAlike 164 = .ok (.iload_n 3, 1) := by decide +kernel
theorem dX10_findAlike_165 : decode cX10_findAlike 165 = .ok (.imul, 1) := by decide +kernel
theorem dX10_findAlike_166 : decode cX10_findAlike 166 = .ok (.iload 4, 2) := by decide +kernel
theorem dX10_findAlike_168 : decode cX10_findAlike 168 = .ok (.iadd, 1) := by decide +kernel
theorem dX10_findAlike_169 : decode cX10_findAlike 169 = .ok (.iload 5, 2) := by decide +kernel
theorem dX10_findAlike_171 : decode cX10_findAlike 171 = .ok (.iastore, 1) := by decide +kernel
theorem dX10_findAlike_172 : decode cX10_findAlike 172 = .ok (.iinc 4 (-1), 3) := by decide +kernel
theorem dX10_findAlike_175 : decode cX10_findAlike 175 = .ok (.goto (-156), 3) := by decide +kernel
theorem dX10_findAlike_178 : decode cX10_findAlike 178 = .ok (.iinc 3 (-1), 3) := by decide +kernel
theorem dX10_findAlike_181 : decode cX10_findAlike 181 = .ok (.goto (-174), 3) := by decide +kernel
theorem dX10_findAlike_184 : decode cX10_findAlike 184 = .ok (.return_, 1) := by decide +kernel
theorem dX10_placeOf_0 : decode cX10_placeOf 0 = .ok (.iload_n 2, 1) := by decide +kernel
theorem dX10_placeOf_1 : decode cX10_placeOf 1 = .ok (.istore 4, 2) := by decide +kernel
theorem dX10_placeOf_3 : decode cX10_placeOf 3 = .ok (.iload 4, 2) := by decide +kernel
theorem dX10_placeOf_5 : decode cX10_placeOf 5 = .ok (.aload_n 0, 1) := by decide +kernel
theorem dX10_placeOf_6 : decode cX10_placeOf 6 = .ok (.getfield 21, 3) := by decide +kernel
theorem dX10_placeOf_9 : decode cX10_placeOf 9 = .ok (.iload_n 1, 1) := by decide +kernel
theorem dX10_placeOf_10 : decode cX10_placeOf 10 = .ok (.iaload, 1) := by decide +kernel
theorem dX10_placeOf_11 : decode cX10_placeOf 11 = .ok (.if_icmp .ge 23, 3) := by decide +kernel
theorem dX10_placeOf_14 : decode cX10_placeOf 14 = .ok (.aload_n 0, 1) := by decide +kernel
theorem dX10_placeOf_15 : decode cX10_placeOf 15 = .ok (.iload_n 1, 1) := by decide +kernel
theorem dX10_placeOf_16 : decode cX10_placeOf 16 = .ok (.iload 4, 2) := by decide +kernel
theorem dX10_placeOf_18 : decode cX10_placeOf 18 = .ok (.invokevirtual 352, 3) := by decide +kernel
theorem dX10_placeOf_21 : decode cX10_placeOf 21 = .ok (.iload_n 3, 1) := by decide +kernel
theorem dX10_placeOf_22 : decode cX10_placeOf 22 = .ok (.if_icmp .ne 6, 3) := by decide +kernel
theorem dX10_placeOf_25 : decode cX10_placeOf 25 = .ok (.iload 4, 2) := by decide +kernel
theorem dX10_placeOf_27 : decode cX10_placeOf 27 = .ok (.ireturn, 1) := by decide +kernel
theorem dX10_placeOf_28 : decode cX10_placeOf 28 = .ok (.iinc 4 1, 3) := by decide +kernel
theorem dX10_placeOf_31 : decode cX10_placeOf 31 = .ok (.goto (-28), 3) := by decide +kernel
theorem dX10_placeOf_34 : decode cX10_placeOf 34 = .ok (.bipush (-2), 2) := by decide +kernel
theorem dX10_placeOf_36 : decode cX10_placeOf 36 = .ok (.ireturn, 1) := by decide +kernel
theorem dX10_alike_0 : decode cX10_alike 0 = .ok (.aload_n 0, 1) := by decide +kernel
theorem dX10_alike_1 : decode cX10_alike 1 = .ok (.iload_n 1, 1) := by decide +kernel
theorem dX10_alike_2 : decode cX10_alike 2 = .ok (.invokevirtual 355, 3) := by decide +kernel
theorem dX10_alike_5 : decode cX10_alike 5 = .ok (.ifCond .eq 8, 3) := by decide +kernel
theorem dX10_alike_8 : decode cX10_alike 8 = .ok (.iload_n 2, 1) := by decide +kernel
theorem dX10_alike_9 : decode cX10_alike 9 = .ok (.iconst (-1), 1) := by decide +kernel
theorem dX10_alike_10 : decode cX10_alike 10 = .ok (.if_icmp .ge 5, 3) := by decide +kernel
theorem dX10_alike_13 : decode cX10_alike 13 = .ok (.iconst (-1), 1) := by decide +kernel
theorem dX10_alike_14 : decode cX10_alike 14 = .ok (.ireturn, 1) := by decide +kernel
theorem dX10_alike_15 : decode cX10_alike 15 = .ok (.iload_n 1, 1) := by decide +kernel
theorem dX10_alike_16 : decode cX10_alike 16 = .ok (.bipush 10, 2) := by decide +kernel
theorem dX10_alike_18 : decode cX10_alike 18 = .ok (.idiv, 1) := by decide +kernel
theorem dX10_alike_19 : decode cX10_alike 19 = .ok (.istore_n 3, 1) := by decide +kernel
theorem dX10_alike_20 : decode cX10_alike 20 = .ok (.iload_n 1, 1) := by decide +kernel
theorem dX10_alike_21 : decode cX10_alike 21 = .ok (.bipush 10, 2) := by decide +kernel
theorem dX10_alike_23 : decode cX10_alike 23 = .ok (.irem, 1) := by decide +kernel
theorem dX10_alike_24 : decode cX10_alike 24 = .ok (.istore 4, 2) := by decide +kernel
theorem dX10_alike_26 : decode cX10_alike 26 = .ok (.aload_n 0, 1) := by decide +kernel
theorem dX10_alike_27 : decode cX10_alike 27 = .ok (.iload_n 3, 1) := by decide +kernel
theorem dX10_alike_28 : decode cX10_alike 28 = .ok (.iload 4, 2) := by decide +kernel
theorem dX10_alike_30 : decode cX10_alike 30 = .ok (.invokevirtual 358, 3) := by decide +kernel
theorem dX10_alike_33 : decode cX10_alike 33 = .ok (.iload_n 2, 1) := by decide +kernel
theorem dX10_alike_34 : decode cX10_alike 34 = .ok (.ifCond .ge 10, 3) := by decide +kernel
theorem dX10_alike_37 : decode cX10_alike 37 = .ok (.aload_n 0, 1) := by decide +kernel
theorem dX10_alike_38 : decode cX10_alike 38 = .ok (.getfield 81, 3) := by decide +kernel
theorem dX10_alike_41 : decode cX10_alike 41 = .ok (.iconst 0, 1) := by decide +kernel
theorem dX10_alike_42 : decode cX10_alike 42 = .ok (.iaload, 1) := by decide +kernel
theorem dX10_alike_43 : decode cX10_alike 43 = .ok (.ireturn, 1) := by decide +kernel
theorem dX10_alike_44 : decode cX10_alike 44 = .ok (.iload_n 2, 1) := by decide +kernel
theorem dX10_alike_45 : decode cX10_alike 45 = .ok (.aload_n 0, 1) := by decide +kernel
theorem dX10_alike_46 : decode cX10_alike 46 = .ok (.getfield 81, 3) := by decide +kernel
theorem dX10_alike_49 : decode cX10_alike 49 = .ok (.iconst 0, 1) := by decide +kernel
theorem dX10_alike_50 : decode cX10_alike 50 = .ok (.iaload, 1) := by decide +kernel
theorem dX10_alike_51 : decode cX10_alike 51 = .ok (.if_icmp .lt 6, 3) := by decide +kernel
theorem dX10_alike_54 : decode cX10_alike 54 = .ok (.bipush (-2), 2) := by decide +kernel
theorem dX10_alike_56 : decode cX10_alike 56 = .ok (.ireturn, 1) := by decide +kernel
theorem dX10_alike_57 : decode cX10_alike 57 = .ok (.iconst 0, 1) := by decide +kernel
theorem dX10_alike_58 : decode cX10_alike 58 = .ok (.istore 5, 2) := by decide +kernel
theorem dX10_alike_60 : decode cX10_alike 60 = .ok (.iconst 0, 1) := by decide +kernel
theorem dX10_alike_61 : decode cX10_alike 61 = .ok (.istore 6, 2) := by decide +kernel
theorem dX10_alike_63 : decode cX10_alike 63 = .ok (.iconst 0, 1) := by decide +kernel
theorem dX10_alike_64 : decode cX10_alike 64 = .ok (.istore 7, 2) := by decide +kernel
theorem dX10_alike_66 : decode cX10_alike 66 = .ok (.iload 7, 2) := by decide +kernel
theorem dX10_alike_68 : decode cX10_alike 68 = .ok (.iload_n 2, 1) := by decide +kernel
theorem dX10_alike_69 : decode cX10_alike 69 = .ok (.if_icmp .gt 133, 3) := by decide +kernel
theorem dX10_alike_72 : decode cX10_alike 72 = .ok (.iconst 0, 1) := by decide +kernel
theorem dX10_alike_73 : decode cX10_alike 73 = .ok (.istore 8, 2) := by decide +kernel
theorem dX10_alike_75 : decode cX10_alike 75 = .ok (.aload_n 0, 1) := by decide +kernel
theorem dX10_alike_76 : decode cX10_alike 76 = .ok (.iload_n 3, 1) := by decide +kernel
theorem dX10_alike_77 : decode cX10_alike 77 = .ok (.iload 5, 2) := by decide +kernel
theorem dX10_alike_79 : decode cX10_alike 79 = .ok (.iload 8, 2) := by decide +kernel
theorem dX10_alike_81 : decode cX10_alike 81 = .ok (.invokevirtual 361, 3) := by decide +kernel
theorem dX10_alike_84 : decode cX10_alike 84 = .ok (.ifCond .lt 66, 3) := by decide +kernel
theorem dX10_alike_87 : decode cX10_alike 87 = .ok (.aload_n 0, 1) := by decide +kernel
theorem dX10_alike_88 : decode cX10_alike 88 = .ok (.iload 4, 2) := by decide +kernel
theorem dX10_alike_90 : decode cX10_alike 90 = .ok (.iload 6, 2) := by decide +kernel
theorem dX10_alike_92 : decode cX10_alike 92 = .ok (.iload 8, 2) := by decide +kernel
theorem dX10_alike_94 : decode cX10_alike 94 = .ok (.invokevirtual 361, 3) := by decide +kernel
theorem dX10_alike_97 : decode cX10_alike 97 = .ok (.ifCond .lt 53, 3) := by decide +kernel
theorem dX10_alike_100 : decode cX10_alike 100 = .ok (.iconst 1, 1) := by decide +kernel
theorem dX10_alike_101 : decode cX10_alike 101 = .ok (.aload_n 0, 1) := by decide +kernel
theorem dX10_alike_102 : decode cX10_alike 102 = .ok (.getfield 81, 3) := by decide +kernel
theorem dX10_alike_105 : decode cX10_alike 105 = .ok (.bipush 13, 2) := by decide +kernel
theorem dX10_alike_107 : decode cX10_alike 107 = .ok (.aload_n 0, 1) := by decide +kernel
theorem dX10_alike_108 : decode cX10_alike 108 = .ok (.iload_n 3, 1) := by decide +kernel
theorem dX10_alike_109 : decode cX10_alike 109 = .ok (.iload 5, 2) := by decide +kernel
theorem dX10_alike_111 : decode cX10_alike 111 = .ok (.iload 8, 2) := by decide +kernel
theorem dX10_alike_113 : decode cX10_alike 113 = .ok (.invokevirtual 361, 3) := by decide +kernel
theorem dX10_alike_116 : decode cX10_alike 116 = .ok (.iconst 1, 1) := by decide +kernel
theorem dX10_alike_117 : decode cX10_alike 117 = .ok (.iadd, 1) := by decide +kernel
theorem dX10_alike_118 : decode cX10_alike 118 = .ok (.imul, 1) := by decide +kernel
theorem dX10_alike_119 : decode cX10_alike 119 = .ok (.aload_n 0, 1) := by decide +kernel
theorem dX10_alike_120 : decode cX10_alike 120 = .ok (.iload 4, 2) := by decide +kernel
theorem dX10_alike_122 : decode cX10_alike 122 = .ok (.iload 6, 2) := by decide +kernel
theorem dX10_alike_124 : decode cX10_alike 124 = .ok (.iload 8, 2) := by decide +kernel
theorem dX10_alike_126 : decode cX10_alike 126 = .ok (.invokevirtual 361, 3) := by decide +kernel
theorem dX10_alike_129 : decode cX10_alike 129 = .ok (.iadd, 1) := by decide +kernel
theorem dX10_alike_130 : decode cX10_alike 130 = .ok (.iconst 1, 1) := by decide +kernel
theorem dX10_alike_131 : decode cX10_alike 131 = .ok (.iadd, 1) := by decide +kernel
theorem dX10_alike_132 : decode cX10_alike 132 = .ok (.iaload, 1) := by decide +kernel
theorem dX10_alike_133 : decode cX10_alike 133 = .ok (.iadd, 1) := by decide +kernel
theorem dX10_alike_134 : decode cX10_alike 134 = .ok (.aload_n 0, 1) := by decide +kernel
theorem dX10_alike_135 : decode cX10_alike 135 = .ok (.getfield 81, 3) := by decide +kernel
theorem dX10_alike_138 : decode cX10_alike 138 = .ok (.bipush 13, 2) := by decide +kernel
theorem dX10_alike_140 : decode cX10_alike 140 = .ok (.iload 5, 2) := by decide +kernel
theorem dX10_alike_142 : decode cX10_alike 142 = .ok (.imul, 1) := by decide +kernel
theorem dX10_alike_143 : decode cX10_alike 143 = .ok (.iload 6, 2) := by decide +kernel
theorem dX10_alike_145 : decode cX10_alike 145 = .ok (.iadd, 1) := by decide +kernel
theorem dX10_alike_146 : decode cX10_alike 146 = .ok (.iaload, 1) := by decide +kernel
theorem dX10_alike_147 : decode cX10_alike 147 = .ok (.if_icmp .eq 9, 3) := by decide +kernel
theorem dX10_alike_150 : decode cX10_alike 150 = .ok (.iinc 8 1, 3) := by decide +kernel
theorem dX10_alike_153 : decode cX10_alike 153 = .ok (.goto (-78), 3) := by decide +kernel
theorem dX10_alike_156 : decode cX10_alike 156 = .ok (.iload 7, 2) := by decide +kernel
theorem dX10_alike_158 : decode cX10_alike 158 = .ok (.iload_n 2, 1) := by decide +kernel
theorem dX10_alike_159 : decode cX10_alike 159 = .ok (.if_icmp .ne 6, 3) := by decide +kernel
theorem dX10_alike_162 : decode cX10_alike 162 = .ok (.iload 8, 2) := by decide +kernel
theorem dX10_alike_164 : decode cX10_alike 164 = .ok (.ireturn, 1) := by decide +kernel
theorem dX10_alike_165 : decode cX10_alike 165 = .ok (.aload_n 0, 1) := by decide +kernel
theorem dX10_alike_166 : decode cX10_alike 166 = .ok (.iload_n 3, 1) := by decide +kernel
theorem dX10_alike_167 : decode cX10_alike 167 = .ok (.iload 5, 2) := by decide +kernel
theorem dX10_alike_169 : decode cX10_alike 169 = .ok (.iload 8, 2) := by decide +kernel
theorem dX10_alike_171 : decode cX10_alike 171 = .ok (.invokevirtual 361, 3) := by decide +kernel
theorem dX10_alike_174 : decode cX10_alike 174 = .ok (.iconst 1, 1) := by decide +kernel
theorem dX10_alike_175 : decode cX10_alike 175 = .ok (.iadd, 1) := by decide +kernel
theorem dX10_alike_176 : decode cX10_alike 176 = .ok (.istore 9, 2) := by decide +kernel
theorem dX10_alike_178 : decode cX10_alike 178 = .ok (.aload_n 0, 1) := by decide +kernel
theorem dX10_alike_179 : decode cX10_alike 179 = .ok (.iload 4, 2) := by decide +kernel
theorem dX10_alike_181 : decode cX10_alike 181 = .ok (.iload 6, 2) := by decide +kernel
theorem dX10_alike_183 : decode cX10_alike 183 = .ok (.iload 8, 2) := by decide +kernel
theorem dX10_alike_185 : decode cX10_alike 185 = .ok (.invokevirtual 361, 3) := by decide +kernel
theorem dX10_alike_188 : decode cX10_alike 188 = .ok (.iconst 1, 1) := by decide +kernel
theorem dX10_alike_189 : decode cX10_alike 189 = .ok (.iadd, 1) := by decide +kernel
theorem dX10_alike_190 : decode cX10_alike 190 = .ok (.istore 6, 2) := by decide +kernel
theorem dX10_alike_192 : decode cX10_alike 192 = .ok (.iload 9, 2) := by decide +kernel
theorem dX10_alike_194 : decode cX10_alike 194 = .ok (.istore 5, 2) := by decide +kernel
theorem dX10_alike_196 : decode cX10_alike 196 = .ok (.iinc 7 1, 3) := by decide +kernel
theorem dX10_alike_199 : decode cX10_alike 199 = .ok (.goto (-133), 3) := by decide +kernel
theorem dX10_alike_202 : decode cX10_alike 202 = .ok (.bipush (-2), 2) := by decide +kernel
theorem dX10_alike_204 : decode cX10_alike 204 = .ok (.ireturn, 1) := by decide +kernel
theorem dX10_same_0 : decode cX10_same 0 = .ok (.aload_n 0, 1) := by decide +kernel
theorem dX10_same_1 : decode cX10_same 1 = .ok (.iload_n 1, 1) := by decide +kernel
theorem dX10_same_2 : decode cX10_same 2 = .ok (.invokevirtual 355, 3) := by decide +kernel
theorem dX10_same_5 : decode cX10_same 5 = .ok (.ifCond .ne 5, 3) := by decide +kernel
theorem dX10_same_8 : decode cX10_same 8 = .ok (.iconst (-1), 1) := by decide +kernel
theorem dX10_same_9 : decode cX10_same 9 = .ok (.ireturn, 1) := by decide +kernel
theorem dX10_same_10 : decode cX10_same 10 = .ok (.iload_n 1, 1) := by decide +kernel
theorem dX10_same_11 : decode cX10_same 11 = .ok (.bipush 10, 2) := by decide +kernel
theorem dX10_same_13 : decode cX10_same 13 = .ok (.idiv, 1) := by decide +kernel
theorem dX10_same_14 : decode cX10_same 14 = .ok (.istore_n 2, 1) := by decide +kernel
theorem dX10_same_15 : decode cX10_same 15 = .ok (.iload_n 1, 1) := by decide +kernel
theorem dX10_same_16 : decode cX10_same 16 = .ok (.bipush 10, 2) := by decide +kernel
theorem dX10_same_18 : decode cX10_same 18 = .ok (.irem, 1) := by decide +kernel
theorem dX10_same_19 : decode cX10_same 19 = .ok (.istore_n 3, 1) := by decide +kernel
theorem dX10_same_20 : decode cX10_same 20 = .ok (.aload_n 0, 1) := by decide +kernel
theorem dX10_same_21 : decode cX10_same 21 = .ok (.getfield 21, 3) := by decide +kernel
theorem dX10_same_24 : decode cX10_same 24 = .ok (.iload_n 2, 1) := by decide +kernel
theorem dX10_same_25 : decode cX10_same 25 = .ok (.iaload, 1) := by decide +kernel
theorem dX10_same_26 : decode cX10_same 26 = .ok (.aload_n 0, 1) := by decide +kernel
theorem dX10_same_27 : decode cX10_same 27 = .ok (.getfield 21, 3) := by decide +kernel
theorem dX10_same_30 : decode cX10_same 30 = .ok (.iload_n 3, 1) := by decide +kernel
theorem dX10_same_31 : decode cX10_same 31 = .ok (.iaload, 1) := by decide +kernel
theorem dX10_same_32 : decode cX10_same 32 = .ok (.if_icmp .eq 5, 3) := by decide +kernel
theorem dX10_same_35 : decode cX10_same 35 = .ok (.iconst 0, 1) := by decide +kernel
theorem dX10_same_36 : decode cX10_same 36 = .ok (.ireturn, 1) := by decide +kernel
theorem dX10_same_37 : decode cX10_same 37 = .ok (.iconst 0, 1) := by decide +kernel
theorem dX10_same_38 : decode cX10_same 38 = .ok (.istore 4, 2) := by decide +kernel
theorem dX10_same_40 : decode cX10_same 40 = .ok (.iload 4, 2) := by decide +kernel
theorem dX10_same_42 : decode cX10_same 42 = .ok (.aload_n 0, 1) := by decide +kernel
theorem dX10_same_43 : decode cX10_same 43 = .ok (.getfield 21, 3) := by decide +kernel
theorem dX10_same_46 : decode cX10_same 46 = .ok (.iload_n 2, 1) := by decide +kernel
theorem dX10_same_47 : decode cX10_same 47 = .ok (.iaload, 1) := by decide +kernel
theorem dX10_same_48 : decode cX10_same 48 = .ok (.if_icmp .ge 28, 3) := by decide +kernel
theorem dX10_same_51 : decode cX10_same 51 = .ok (.aload_n 0, 1) := by decide +kernel
theorem dX10_same_52 : decode cX10_same 52 = .ok (.iload_n 2, 1) := by decide +kernel
theorem dX10_same_53 : decode cX10_same 53 = .ok (.iload 4, 2) := by decide +kernel
theorem dX10_same_55 : decode cX10_same 55 = .ok (.invokevirtual 352, 3) := by decide +kernel
theorem dX10_same_58 : decode cX10_same 58 = .ok (.aload_n 0, 1) := by decide +kernel
theorem dX10_same_59 : decode cX10_same 59 = .ok (.iload_n 3, 1) := by decide +kernel
theorem dX10_same_60 : decode cX10_same 60 = .ok (.iload 4, 2) := by decide +kernel
theorem dX10_same_62 : decode cX10_same 62 = .ok (.invokevirtual 352, 3) := by decide +kernel
theorem dX10_same_65 : decode cX10_same 65 = .ok (.if_icmp .eq 5, 3) := by decide +kernel
theorem dX10_same_68 : decode cX10_same 68 = .ok (.iconst 0, 1) := by decide +kernel
theorem dX10_same_69 : decode cX10_same 69 = .ok (.ireturn, 1) := by decide +kernel
theorem dX10_same_70 : decode cX10_same 70 = .ok (.iinc 4 1, 3) := by decide +kernel
theorem dX10_same_73 : decode cX10_same 73 = .ok (.goto (-33), 3) := by decide +kernel
theorem dX10_same_76 : decode cX10_same 76 = .ok (.iconst 1, 1) := by decide +kernel
theorem dX10_same_77 : decode cX10_same 77 = .ok (.ireturn, 1) := by decide +kernel
theorem dX10_weightOf_0 : decode cX10_weightOf 0 = .ok (.lconst 0, 1) := by decide +kernel
theorem dX10_weightOf_1 : decode cX10_weightOf 1 = .ok (.lstore_n 2, 1) := by decide +kernel
theorem dX10_weightOf_2 : decode cX10_weightOf 2 = .ok (.iconst 0, 1) := by decide +kernel
theorem dX10_weightOf_3 : decode cX10_weightOf 3 = .ok (.istore 4, 2) := by decide +kernel
theorem dX10_weightOf_5 : decode cX10_weightOf 5 = .ok (.iload 4, 2) := by decide +kernel
theorem dX10_weightOf_7 : decode cX10_weightOf 7 = .ok (.aload_n 0, 1) := by decide +kernel
theorem dX10_weightOf_8 : decode cX10_weightOf 8 = .ok (.getfield 121, 3) := by decide +kernel
theorem dX10_weightOf_11 : decode cX10_weightOf 11 = .ok (.if_icmp .ge 75, 3) := by decide +kernel
theorem dX10_weightOf_14 : decode cX10_weightOf 14 = .ok (.iconst 0, 1) := by decide +kernel
theorem dX10_weightOf_15 : decode cX10_weightOf 15 = .ok (.istore 5, 2) := by decide +kernel
theorem dX10_weightOf_17 : decode cX10_weightOf 17 = .ok (.iload 5, 2) := by decide +kernel
theorem dX10_weightOf_19 : decode cX10_weightOf 19 = .ok (.aload_n 0, 1) := by decide +kernel
theorem dX10_weightOf_20 : decode cX10_weightOf 20 = .ok (.getfield 21, 3) := by decide +kernel
theorem dX10_weightOf_23 : decode cX10_weightOf 23 = .ok (.iload 4, 2) := by decide +kernel
theorem dX10_weightOf_25 : decode cX10_weightOf 25 = .ok (.iaload, 1) := by decide +kernel
theorem dX10_weightOf_26 : decode cX10_weightOf 26 = .ok (.if_icmp .ge 54, 3) := by decide +kernel
theorem dX10_weightOf_29 : decode cX10_weightOf 29 = .ok (.aload_n 0, 1) := by decide +kernel
theorem dX10_weightOf_30 : decode cX10_weightOf 30 = .ok (.iload 4, 2) := by decide +kernel
theorem dX10_weightOf_32 : decode cX10_weightOf 32 = .ok (.iload 5, 2) := by decide +kernel
theorem dX10_weightOf_34 : decode cX10_weightOf 34 = .ok (.invokevirtual 352, 3) := by decide +kernel
theorem dX10_weightOf_37 : decode cX10_weightOf 37 = .ok (.iload_n 1, 1) := by decide +kernel
theorem dX10_weightOf_38 : decode cX10_weightOf 38 = .ok (.if_icmp .ne 36, 3) := by decide +kernel
theorem dX10_weightOf_41 : decode cX10_weightOf 41 = .ok (.lload_n 2, 1) := by decide +kernel
theorem dX10_weightOf_42 : decode cX10_weightOf 42 = .ok (.aload_n 0, 1) := by decide +kernel
theorem dX10_weightOf_43 : decode cX10_weightOf 43 = .ok (.getfield 27, 3) := by decide +kernel
theorem dX10_weightOf_46 : decode cX10_weightOf 46 = .ok (.bipush 12, 2) := by decide +kernel
theorem dX10_weightOf_48 : decode cX10_weightOf 48 = .ok (.iload 4, 2) := by decide +kernel
theorem dX10_weightOf_50 : decode cX10_weightOf 50 = .ok (.imul, 1) := by decide +kernel
theorem dX10_weightOf_51 : decode cX10_weightOf 51 = .ok (.iload 5, 2) := by decide +kernel
theorem dX10_weightOf_53 : decode cX10_weightOf 53 = .ok (.iadd, 1) := by decide +kernel
theorem dX10_weightOf_54 : decode cX10_weightOf 54 = .ok (.iaload, 1) := by decide +kernel
theorem dX10_weightOf_55 : decode cX10_weightOf 55 = .ok (.bipush 13, 2) := by decide +kernel
theorem dX10_weightOf_57 : decode cX10_weightOf 57 = .ok (.aload_n 0, 1) := by decide +kernel
theorem dX10_weightOf_58 : decode cX10_weightOf 58 = .ok (.getfield 21, 3) := by decide +kernel
theorem dX10_weightOf_61 : decode cX10_weightOf 61 = .ok (.iload 4, 2) := by decide +kernel
theorem dX10_weightOf_63 : decode cX10_weightOf 63 = .ok (.iaload, 1) := by decide +kernel
theorem dX10_weightOf_64 : decode cX10_weightOf 64 = .ok (.iconst 1, 1) := by decide +kernel
theorem dX10_weightOf_65 : decode cX10_weightOf 65 = .ok (.isub, 1) := by decide +kernel
theorem dX10_weightOf_66 : decode cX10_weightOf 66 = .ok (.iload 5, 2) := by decide +kernel
theorem dX10_weightOf_68 : decode cX10_weightOf 68 = .ok (.isub, 1) := by decide +kernel
theorem dX10_weightOf_69 : decode cX10_weightOf 69 = .ok (.isub, 1) := by decide +kernel
theorem dX10_weightOf_70 : decode cX10_weightOf 70 = .ok (.imul, 1) := by decide +kernel
theorem dX10_weightOf_71 : decode cX10_weightOf 71 = .ok (.i2l, 1) := by decide +kernel
theorem dX10_weightOf_72 : decode cX10_weightOf 72 = .ok (.ladd, 1) := by decide +kernel
theorem dX10_weightOf_73 : decode cX10_weightOf 73 = .ok (.lstore_n 2, 1) := by decide +kernel
theorem dX10_weightOf_74 : decode cX10_weightOf 74 = .ok (.iinc 5 1, 3) := by decide +kernel
theorem dX10_weightOf_77 : decode cX10_weightOf 77 = .ok (.goto (-60), 3) := by decide +kernel
theorem dX10_weightOf_80 : decode cX10_weightOf 80 = .ok (.iinc 4 1, 3) := by decide +kernel
theorem dX10_weightOf_83 : decode cX10_weightOf 83 = .ok (.goto (-78), 3) := by decide +kernel
theorem dX10_weightOf_86 : decode cX10_weightOf 86 = .ok (.lload_n 2, 1) := by decide +kernel
theorem dX10_weightOf_87 : decode cX10_weightOf 87 = .ok (.lreturn, 1) := by decide +kernel
theorem dX10_lowest_0 : decode cX10_lowest 0 = .ok (.lload_n 0, 1) := by decide +kernel
theorem dX10_lowest_1 : decode cX10_lowest 1 = .ok (.lconst 0, 1) := by decide +kernel
theorem dX10_lowest_2 : decode cX10_lowest 2 = .ok (.lcmp, 1) := by decide +kernel
theorem dX10_lowest_3 : decode cX10_lowest 3 = .ok (.ifCond .ne 7, 3) := by decide +kernel
theorem dX10_lowest_6 : decode cX10_lowest 6 = .ok (.iload 4, 2) := by decide +kernel
theorem dX10_lowest_8 : decode cX10_lowest 8 = .ok (.i2l, 1) := by decide +kernel
theorem dX10_lowest_9 : decode cX10_lowest 9 = .ok (.lreturn, 1) := by decide +kernel
theorem dX10_lowest_10 : decode cX10_lowest 10 = .ok (.lload_n 0, 1) := by decide +kernel
theorem dX10_lowest_11 : decode cX10_lowest 11 = .ok (.lstore 5, 2) := by decide +kernel
theorem dX10_lowest_13 : decode cX10_lowest 13 = .ok (.lload_n 2, 1) := by decide +kernel
theorem dX10_lowest_14 : decode cX10_lowest 14 = .ok (.lstore 7, 2) := by decide +kernel
theorem dX10_lowest_16 : decode cX10_lowest 16 = .ok (.lload 7, 2) := by decide +kernel
theorem dX10_lowest_18 : decode cX10_lowest 18 = .ok (.lconst 0, 1) := by decide +kernel
theorem dX10_lowest_19 : decode cX10_lowest 19 = .ok (.lcmp, 1) := by decide +kernel
theorem dX10_lowest_20 : decode cX10_lowest 20 = .ok (.ifCond .eq 21, 3) := by decide +kernel
theorem dX10_lowest_23 : decode cX10_lowest 23 = .ok (.lload 5, 2) := by decide +kernel
theorem dX10_lowest_25 : decode cX10_lowest 25 = .ok (.lload 7, 2) := by decide +kernel
theorem dX10_lowest_27 : decode cX10_lowest 27 = .ok (.lrem, 1) := by decide +kernel
theorem dX10_lowest_28 : decode cX10_lowest 28 = .ok (.lstore 9, 2) := by decide +kernel
theorem dX10_lowest_30 : decode cX10_lowest 30 = .ok (.lload 7, 2) := by decide +kernel
theorem dX10_lowest_32 : decode cX10_lowest 32 = .ok (.lstore 5, 2) := by decide +kernel
theorem dX10_lowest_34 : decode cX10_lowest 34 = .ok (.lload 9, 2) := by decide +kernel
theorem dX10_lowest_36 : decode cX10_lowest 36 = .ok (.lstore 7, 2) := by decide +kernel
theorem dX10_lowest_38 : decode cX10_lowest 38 = .ok (.goto (-22), 3) := by decide +kernel
theorem dX10_lowest_41 : decode cX10_lowest 41 = .ok (.iload 4, 2) := by decide +kernel
theorem dX10_lowest_43 : decode cX10_lowest 43 = .ok (.ifCond .ne 10, 3) := by decide +kernel
theorem dX10_lowest_46 : decode cX10_lowest 46 = .ok (.lload_n 0, 1) := by decide +kernel
theorem dX10_lowest_47 : decode cX10_lowest 47 = .ok (.lload 5, 2) := by decide +kernel
theorem dX10_lowest_49 : decode cX10_lowest 49 = .ok (.ldiv, 1) := by decide +kernel
theorem dX10_lowest_50 : decode cX10_lowest 50 = .ok (.goto 7, 3) := by decide +kernel
theorem dX10_lowest_53 : decode cX10_lowest 53 = .ok (.lload_n 2, 1) := by decide +kernel
theorem dX10_lowest_54 : decode cX10_lowest 54 = .ok (.lload 5, 2) := by decide +kernel
theorem dX10_lowest_56 : decode cX10_lowest 56 = .ok (.ldiv, 1) := by decide +kernel
theorem dX10_lowest_57 : decode cX10_lowest 57 = .ok (.lreturn, 1) := by decide +kernel
theorem dX10_likely_0 : decode cX10_likely 0 = .ok (.iload_n 1, 1) := by decide +kernel
theorem dX10_likely_1 : decode cX10_likely 1 = .ok (.invokestatic 155, 3) := by decide +kernel
theorem dX10_likely_4 : decode cX10_likely 4 = .ok (.ifCond .eq 12, 3) := by decide +kernel
theorem dX10_likely_7 : decode cX10_likely 7 = .ok (.iload_n 2, 1) := by decide +kernel
theorem dX10_likely_8 : decode cX10_likely 8 = .ok (.iconst 0, 1) := by decide +kernel
theorem dX10_likely_9 : decode cX10_likely 9 = .ok (.iconst 1, 1) := by decide +kernel
theorem dX10_likely_10 : decode cX10_likely 10 = .ok (.invokestatic 124, 3) := by decide +kernel
theorem dX10_likely_13 : decode cX10_likely 13 = .ok (.ifCond .ne 7, 3) := by decide +kernel
theorem dX10_likely_16 : decode cX10_likely 16 = .ok (.ldc2_w 350, 3) := by decide +kernel
theorem dX10_likely_19 : decode cX10_likely 19 = .ok (.lreturn, 1) := by decide +kernel
theorem dX10_likely_20 : decode cX10_likely 20 = .ok (.lconst 0, 1) := by decide +kernel
theorem dX10_likely_21 : decode cX10_likely 21 = .ok (.lstore_n 3, 1) := by decide +kernel
theorem dX10_likely_22 : decode cX10_likely 22 = .ok (.iconst 0, 1) := by decide +kernel
theorem dX10_likely_23 : decode cX10_likely 23 = .ok (.istore 5, 2) := by decide +kernel
theorem dX10_likely_25 : decode cX10_likely 25 = .ok (.iload 5, 2) := by decide +kernel
theorem dX10_likely_27 : decode cX10_likely 27 = .ok (.bipush 6, 2) := by decide +kernel
theorem dX10_likely_29 : decode cX10_likely 29 = .ok (.if_icmp .ge 18, 3) := by decide +kernel
theorem dX10_likely_32 : decode cX10_likely 32 = .ok (.lload_n 3, 1) := by decide +kernel
theorem dX10_likely_33 : decode cX10_likely 33 = .ok (.aload_n 0, 1) := by decide +kernel
theorem dX10_likely_34 : decode cX10_likely 34 = .ok (.iload 5, 2) := by decide +kernel
theorem dX10_likely_36 : decode cX10_likely 36 = .ok (.invokevirtual 364, 3) := by decide +kernel
theorem dX10_likely_39 : decode cX10_likely 39 = .ok (.ladd, 1) := by decide +kernel
theorem dX10_likely_40 : decode cX10_likely 40 = .ok (.lstore_n 3, 1) := by decide +kernel
theorem dX10_likely_41 : decode cX10_likely 41 = .ok (.iinc 5 1, 3) := by decide +kernel
theorem dX10_likely_44 : decode cX10_likely 44 = .ok (.goto (-19), 3) := by decide +kernel
theorem dX10_likely_47 : decode cX10_likely 47 = .ok (.aload_n 0, 1) := by decide +kernel
theorem dX10_likely_48 : decode cX10_likely 48 = .ok (.iload_n 1, 1) := by decide +kernel
theorem dX10_likely_49 : decode cX10_likely 49 = .ok (.invokevirtual 364, 3) := by decide +kernel
theorem dX10_likely_52 : decode cX10_likely 52 = .ok (.lload_n 3, 1) := by decide +kernel
theorem dX10_likely_53 : decode cX10_likely 53 = .ok (.iload_n 2, 1) := by decide +kernel
theorem dX10_likely_54 : decode cX10_likely 54 = .ok (.invokestatic 368, 3) := by decide +kernel
theorem dX10_likely_57 : decode cX10_likely 57 = .ok (.lreturn, 1) := by decide +kernel
theorem dX10_expected_0 : decode cX10_expected 0 = .ok (.bipush (-2), 2) := by decide +kernel
theorem dX10_expected_2 : decode cX10_expected 2 = .ok (.istore_n 1, 1) := by decide +kernel
theorem dX10_expected_3 : decode cX10_expected 3 = .ok (.iconst 0, 1) := by decide +kernel
theorem dX10_expected_4 : decode cX10_expected 4 = .ok (.istore_n 2, 1) := by decide +kernel
theorem dX10_expected_5 : decode cX10_expected 5 = .ok (.iload_n 2, 1) := by decide +kernel
theorem dX10_expected_6 : decode cX10_expected 6 = .ok (.bipush 6, 2) := by decide +kernel
theorem dX10_expected_8 : decode cX10_expected 8 = .ok (.if_icmp .ge 39, 3) := by decide +kernel
theorem dX10_expected_11 : decode cX10_expected 11 = .ok (.aload_n 0, 1) := by decide +kernel
theorem dX10_expected_12 : decode cX10_expected 12 = .ok (.iload_n 2, 1) := by decide +kernel
theorem dX10_expected_13 : decode cX10_expected 13 = .ok (.invokevirtual 364, 3) := by decide +kernel
theorem dX10_expected_16 : decode cX10_expected 16 = .ok (.lconst 0, 1) := by decide +kernel
theorem dX10_expected_17 : decode cX10_expected 17 = .ok (.lcmp, 1) := by decide +kernel
theorem dX10_expected_18 : decode cX10_expected 18 = .ok (.ifCond .le 23, 3) := by decide +kernel
theorem dX10_expected_21 : decode cX10_expected 21 = .ok (.iload_n 1, 1) := by decide +kernel
theorem dX10_expected_22 : decode cX10_expected 22 = .ok (.ifCond .lt 17, 3) := by decide +kernel
theorem dX10_expected_25 : decode cX10_expected 25 = .ok (.aload_n 0, 1) := by decide +kernel
theorem dX10_expected_26 : decode cX10_expected 26 = .ok (.iload_n 2, 1) := by decide +kernel
theorem dX10_expected_27 : decode cX10_expected 27 = .ok (.invokevirtual 364, 3) := by decide +kernel
theorem dX10_expected_30 : decode cX10_expected 30 = .ok (.aload_n 0, 1) := by decide +kernel
theorem dX10_expected_31 : decode cX10_expected 31 = .ok (.iload_n 1, 1) := by decide +kernel
theorem dX10_expected_32 : decode cX10_expected 32 = .ok (.invokevirtual 364, 3) := by decide +kernel
theorem dX10_expected_35 : decode cX10_expected 35 = .ok (.lcmp, 1) := by decide +kernel
theorem dX10_expected_36 : decode cX10_expected 36 = .ok (.ifCond .le 5, 3) := by decide +kernel
theorem dX10_expected_39 : decode cX10_expected 39 = .ok (.iload_n 2, 1) := by decide +kernel
theorem dX10_expected_40 : decode cX10_expected 40 = .ok (.istore_n 1, 1) := by decide +kernel
theorem dX10_expected_41 : decode cX10_expected 41 = .ok (.iinc 2 1, 3) := by decide +kernel
theorem dX10_expected_44 : decode cX10_expected 44 = .ok (.goto (-39), 3) := by decide +kernel
theorem dX10_expected_47 : decode cX10_expected 47 = .ok (.iload_n 1, 1) := by decide +kernel
theorem dX10_expected_48 : decode cX10_expected 48 = .ok (.ireturn, 1) := by decide +kernel
theorem dX10_judge_0 : decode cX10_judge 0 = .ok (.iload_n 1, 1) := by decide +kernel
theorem dX10_judge_1 : decode cX10_judge 1 = .ok (.invokestatic 132, 3) := by decide +kernel
theorem dX10_judge_4 : decode cX10_judge 4 = .ok (.ifCond .eq 11, 3) := by decide +kernel
theorem dX10_judge_7 : decode cX10_judge 7 = .ok (.aload_n 0, 1) := by decide +kernel
theorem dX10_judge_8 : decode cX10_judge 8 = .ok (.iload_n 2, 1) := by decide +kernel
theorem dX10_judge_9 : decode cX10_judge 9 = .ok (.invokevirtual 152, 3) := by decide +kernel
theorem dX10_judge_12 : decode cX10_judge 12 = .ok (.ifCond .ne 5, 3) := by decide +kernel
theorem dX10_judge_15 : decode cX10_judge 15 = .ok (.iconst (-1), 1) := by decide +kernel
theorem dX10_judge_16 : decode cX10_judge 16 = .ok (.ireturn, 1) := by decide +kernel
theorem dX10_judge_17 : decode cX10_judge 17 = .ok (.aload_n 0, 1) := by decide +kernel
theorem dX10_judge_18 : decode cX10_judge 18 = .ok (.iload_n 1, 1) := by decide +kernel
theorem dX10_judge_19 : decode cX10_judge 19 = .ok (.invokevirtual 287, 3) := by decide +kernel
theorem dX10_judge_22 : decode cX10_judge 22 = .ok (.ifCond .ge 9, 3) := by decide +kernel
theorem dX10_judge_25 : decode cX10_judge 25 = .ok (.aload_n 0, 1) := by decide +kernel
theorem dX10_judge_26 : decode cX10_judge 26 = .ok (.iload_n 1, 1) := by decide +kernel
theorem dX10_judge_27 : decode cX10_judge 27 = .ok (.invokevirtual 287, 3) := by decide +kernel
theorem dX10_judge_30 : decode cX10_judge 30 = .ok (.ireturn, 1) := by decide +kernel
theorem dX10_judge_31 : decode cX10_judge 31 = .ok (.iconst 0, 1) := by decide +kernel
theorem dX10_judge_32 : decode cX10_judge 32 = .ok (.istore_n 3, 1) := by decide +kernel
theorem dX10_judge_33 : decode cX10_judge 33 = .ok (.iload_n 3, 1) := by decide +kernel
theorem dX10_judge_34 : decode cX10_judge 34 = .ok (.aload_n 0, 1) := by decide +kernel
theorem dX10_judge_35 : decode cX10_judge 35 = .ok (.getfield 108, 3) := by decide +kernel
theorem dX10_judge_38 : decode cX10_judge 38 = .ok (.iload_n 1, 1) := by decide +kernel
theorem dX10_judge_39 : decode cX10_judge 39 = .ok (.iaload, 1) := by decide +kernel
theorem dX10_judge_40 : decode cX10_judge 40 = .ok (.if_icmp .lt 13, 3) := by decide +kernel
theorem dX10_judge_43 : decode cX10_judge 43 = .ok (.iload_n 3, 1) := by decide +kernel
theorem dX10_judge_44 : decode cX10_judge 44 = .ok (.aload_n 0, 1) := by decide +kernel
theorem dX10_judge_45 : decode cX10_judge 45 = .ok (.getfield 21, 3) := by decide +kernel
theorem dX10_judge_48 : decode cX10_judge 48 = .ok (.iload_n 2, 1) := by decide +kernel
theorem dX10_judge_49 : decode cX10_judge 49 = .ok (.iaload, 1) := by decide +kernel
theorem dX10_judge_50 : decode cX10_judge 50 = .ok (.if_icmp .ge 46, 3) := by decide +kernel
theorem dX10_judge_53 : decode cX10_judge 53 = .ok (.iload_n 3, 1) := by decide +kernel
theorem dX10_judge_54 : decode cX10_judge 54 = .ok (.aload_n 0, 1) := by decide +kernel
theorem dX10_judge_55 : decode cX10_judge 55 = .ok (.getfield 108, 3) := by decide +kernel
theorem dX10_judge_58 : decode cX10_judge 58 = .ok (.iload_n 1, 1) := by decide +kernel
theorem dX10_judge_59 : decode cX10_judge 59 = .ok (.iaload, 1) := by decide +kernel
theorem dX10_judge_60 : decode cX10_judge 60 = .ok (.if_icmp .ge 28, 3) := by decide +kernel
theorem dX10_judge_63 : decode cX10_judge 63 = .ok (.iload_n 3, 1) := by decide +kernel
theorem dX10_judge_64 : decode cX10_judge 64 = .ok (.aload_n 0, 1) := by decide +kernel
theorem dX10_judge_65 : decode cX10_judge 65 = .ok (.getfield 21, 3) := by decide +kernel
theorem dX10_judge_68 : decode cX10_judge 68 = .ok (.iload_n 2, 1) := by decide +kernel
theorem dX10_judge_69 : decode cX10_judge 69 = .ok (.iaload, 1) := by decide +kernel
theorem dX10_judge_70 : decode cX10_judge 70 = .ok (.if_icmp .ge 18, 3) := by decide +kernel
theorem dX10_judge_73 : decode cX10_judge 73 = .ok (.aload_n 0, 1) := by decide +kernel
theorem dX10_judge_74 : decode cX10_judge 74 = .ok (.iload_n 1, 1) := by decide +kernel
theorem dX10_judge_75 : decode cX10_judge 75 = .ok (.iload_n 3, 1) := by decide +kernel
theorem dX10_judge_76 : decode cX10_judge 76 = .ok (.invokevirtual 281, 3) := by decide +kernel
theorem dX10_judge_79 : decode cX10_judge 79 = .ok (.aload_n 0, 1) := by decide +kernel
theorem dX10_judge_80 : decode cX10_judge 80 = .ok (.iload_n 2, 1) := by decide +kernel
theorem dX10_judge_81 : decode cX10_judge 81 = .ok (.iload_n 3, 1) := by decide +kernel
theorem dX10_judge_82 : decode cX10_judge 82 = .ok (.invokevirtual 352, 3) := by decide +kernel
theorem dX10_judge_85 : decode cX10_judge 85 = .ok (.if_icmp .eq 5, 3) := by decide +kernel
theorem dX10_judge_88 : decode cX10_judge 88 = .ok (.iload_n 3, 1) := by decide +kernel
theorem dX10_judge_89 : decode cX10_judge 89 = .ok (.ireturn, 1) := by decide +kernel
theorem dX10_judge_90 : decode cX10_judge 90 = .ok (.iinc 3 1, 3) := by decide +kernel
theorem dX10_judge_93 : decode cX10_judge 93 = .ok (.goto (-60), 3) := by decide +kernel
theorem dX10_judge_96 : decode cX10_judge 96 = .ok (.bipush (-2), 2) := by decide +kernel
theorem dX10_judge_98 : decode cX10_judge 98 = .ok (.ireturn, 1) := by decide +kernel
theorem dX10_drawn_0 : decode cX10_drawn 0 = .ok (.iload_n 2, 1) := by decide +kernel
theorem dX10_drawn_1 : decode cX10_drawn 1 = .ok (.ifCond .lt 47, 3) := by decide +kernel
theorem dX10_drawn_4 : decode cX10_drawn 4 = .ok (.iload_n 2, 1) := by decide +kernel
theorem dX10_drawn_5 : decode cX10_drawn 5 = .ok (.bipush 100, 2) := by decide +kernel
theorem dX10_drawn_7 : decode cX10_drawn 7 = .ok (.idiv, 1) := by decide +kernel
theorem dX10_drawn_8 : decode cX10_drawn 8 = .ok (.iconst 1, 1) := by decide +kernel
theorem dX10_drawn_9 : decode cX10_drawn 9 = .ok (.bipush 30, 2) := by decide +kernel
theorem dX10_drawn_11 : decode cX10_drawn 11 = .ok (.invokestatic 124, 3) := by decide +kernel
theorem dX10_drawn_14 : decode cX10_drawn 14 = .ok (.ifCond .eq 34, 3) := by decide +kernel
theorem dX10_drawn_17 : decode cX10_drawn 17 = .ok (.iload_n 2, 1) := by decide +kernel
theorem dX10_drawn_18 : decode cX10_drawn 18 = .ok (.bipush 100, 2) := by decide +kernel
theorem dX10_drawn_20 : decode cX10_drawn 20 = .ok (.irem, 1) := by decide +kernel
theorem dX10_drawn_21 : decode cX10_drawn 21 = .ok (.iconst 1, 1) := by decide +kernel
theorem dX10_drawn_22 : decode cX10_drawn 22 = .ok (.bipush 40, 2) := by decide +kernel
theorem dX10_drawn_24 : decode cX10_drawn 24 = .ok (.invokestatic 124, 3) := by decide +kernel
theorem dX10_drawn_27 : decode cX10_drawn 27 = .ok (.ifCond .eq 21, 3) := by decide +kernel
theorem dX10_drawn_30 : decode cX10_drawn 30 = .ok (.aload_n 0, 1) := by decide +kernel
theorem dX10_drawn_31 : decode cX10_drawn 31 = .ok (.iload_n 3, 1) := by decide +kernel
theorem dX10_drawn_32 : decode cX10_drawn 32 = .ok (.invokevirtual 152, 3) := by decide +kernel
theorem dX10_drawn_35 : decode cX10_drawn 35 = .ok (.ifCond .eq 13, 3) := by decide +kernel
theorem dX10_drawn_38 : decode cX10_drawn 38 = .ok (.iload 4, 2) := by decide +kernel
theorem dX10_drawn_40 : decode cX10_drawn 40 = .ok (.iconst (-1), 1) := by decide +kernel
theorem dX10_drawn_41 : decode cX10_drawn 41 = .ok (.iconst 5, 1) := by decide +kernel
theorem dX10_drawn_42 : decode cX10_drawn 42 = .ok (.invokestatic 124, 3) := by decide +kernel
theorem dX10_drawn_45 : decode cX10_drawn 45 = .ok (.ifCond .ne 5, 3) := by decide +kernel
theorem dX10_drawn_48 : decode cX10_drawn 48 = .ok (.iconst (-1), 1) := by decide +kernel
theorem dX10_drawn_49 : decode cX10_drawn 49 = .ok (.ireturn, 1) := by decide +kernel
theorem dX10_drawn_50 : decode cX10_drawn 50 = .ok (.iload_n 1, 1) := by decide +kernel
theorem dX10_drawn_51 : decode cX10_drawn 51 = .ok (.istore 5, 2) := by decide +kernel
theorem dX10_drawn_53 : decode cX10_drawn 53 = .ok (.iconst 0, 1) := by decide +kernel
theorem dX10_drawn_54 : decode cX10_drawn 54 = .ok (.istore 6, 2) := by decide +kernel
theorem dX10_drawn_56 : decode cX10_drawn 56 = .ok (.iconst 0, 1) := by decide +kernel
theorem dX10_drawn_57 : decode cX10_drawn 57 = .ok (.istore 7, 2) := by decide +kernel
theorem dX10_drawn_59 : decode cX10_drawn 59 = .ok (.iconst 0, 1) := by decide +kernel
theorem dX10_drawn_60 : decode cX10_drawn 60 = .ok (.istore 8, 2) := by decide +kernel
theorem dX10_drawn_62 : decode cX10_drawn 62 = .ok (.iload 8, 2) := by decide +kernel
theorem dX10_drawn_64 : decode cX10_drawn 64 = .ok (.iload_n 2, 1) := by decide +kernel
theorem dX10_drawn_65 : decode cX10_drawn 65 = .ok (.bipush 100, 2) := by decide +kernel
theorem dX10_drawn_67 : decode cX10_drawn 67 = .ok (.idiv, 1) := by decide +kernel
theorem dX10_drawn_68 : decode cX10_drawn 68 = .ok (.if_icmp .ge 100, 3) := by decide +kernel
theorem dX10_drawn_71 : decode cX10_drawn 71 = .ok (.aload_n 0, 1) := by decide +kernel
theorem dX10_drawn_72 : decode cX10_drawn 72 = .ok (.iload_n 3, 1) := by decide +kernel
theorem dX10_drawn_73 : decode cX10_drawn 73 = .ok (.invokevirtual 169, 3) := by decide +kernel
theorem dX10_drawn_76 : decode cX10_drawn 76 = .ok (.iconst 0, 1) := by decide +kernel
theorem dX10_drawn_77 : decode cX10_drawn 77 = .ok (.istore 9, 2) := by decide +kernel
theorem dX10_drawn_79 : decode cX10_drawn 79 = .ok (.iload 9, 2) := by decide +kernel
theorem dX10_drawn_81 : decode cX10_drawn 81 = .ok (.iload_n 2, 1) := by decide +kernel
theorem dX10_drawn_82 : decode cX10_drawn 82 = .ok (.bipush 100, 2) := by decide +kernel
theorem dX10_drawn_84 : decode cX10_drawn 84 = .ok (.irem, 1) := by decide +kernel
theorem dX10_drawn_85 : decode cX10_drawn 85 = .ok (.if_icmp .ge 42, 3) := by decide +kernel
theorem dX10_drawn_88 : decode cX10_drawn 88 = .ok (.iload 5, 2) := by decide +kernel
theorem dX10_drawn_90 : decode cX10_drawn 90 = .ok (.ldc_w 372, 3) := by decide +kernel
theorem dX10_drawn_93 : decode cX10_drawn 93 = .ok (.imul, 1) := by decide +kernel
theorem dX10_drawn_94 : decode cX10_drawn 94 = .ok (.sipush 12345, 3) := by decide +kernel
theorem dX10_drawn_97 : decode cX10_drawn 97 = .ok (.iadd, 1) := by decide +kernel
theorem dX10_drawn_98 : decode cX10_drawn 98 = .ok (.istore 5, 2) := by decide +kernel
theorem dX10_drawn_100 : decode cX10_drawn 100 = .ok (.aload_n 0, 1) := by decide +kernel
theorem dX10_drawn_101 : decode cX10_drawn 101 = .ok (.iload 5, 2) := by decide +kernel
theorem dX10_drawn_103 : decode cX10_drawn 103 = .ok (.bipush 8, 2) := by decide +kernel
theorem dX10_drawn_105 : decode cX10_drawn 105 = .ok (.iushr, 1) := by decide +kernel
theorem dX10_drawn_106 : decode cX10_drawn 106 = .ok (.bipush 6, 2) := by decide +kernel
theorem dX10_drawn_108 : decode cX10_drawn 108 = .ok (.irem, 1) := by decide +kernel
theorem dX10_drawn_109 : decode cX10_drawn 109 = .ok (.iload 5, 2) := by decide +kernel
theorem dX10_drawn_111 : decode cX10_drawn 111 = .ok (.bipush 16, 2) := by decide +kernel
theorem dX10_drawn_113 : decode cX10_drawn 113 = .ok (.iushr, 1) := by decide +kernel
theorem dX10_drawn_114 : decode cX10_drawn 114 = .ok (.bipush 10, 2) := by decide +kernel
theorem dX10_drawn_116 : decode cX10_drawn 116 = .ok (.irem, 1) := by decide +kernel
theorem dX10_drawn_117 : decode cX10_drawn 117 = .ok (.invokevirtual 272, 3) := by decide +kernel
theorem dX10_drawn_120 : decode cX10_drawn 120 = .ok (.pop, 1) := by decide +kernel
theorem dX10_drawn_121 : decode cX10_drawn 121 = .ok (.iinc 9 1, 3) := by decide +kernel
theorem dX10_drawn_124 : decode cX10_drawn 124 = .ok (.goto (-45), 3) := by decide +kernel
theorem dX10_drawn_127 : decode cX10_drawn 127 = .ok (.iload 6, 2) := by decide +kernel
theorem dX10_drawn_129 : decode cX10_drawn 129 = .ok (.aload_n 0, 1) := by decide +kernel
theorem dX10_drawn_130 : decode cX10_drawn 130 = .ok (.getfield 173, 3) := by decide +kernel
theorem dX10_drawn_133 : decode cX10_drawn 133 = .ok (.iadd, 1) := by decide +kernel
theorem dX10_drawn_134 : decode cX10_drawn 134 = .ok (.istore 6, 2) := by decide +kernel
theorem dX10_drawn_136 : decode cX10_drawn 136 = .ok (.aload_n 0, 1) := by decide +kernel
theorem dX10_drawn_137 : decode cX10_drawn 137 = .ok (.getfield 173, 3) := by decide +kernel
theorem dX10_drawn_140 : decode cX10_drawn 140 = .ok (.ifCond .le 22, 3) := by decide +kernel
theorem dX10_drawn_143 : decode cX10_drawn 143 = .ok (.aload_n 0, 1) := by decide +kernel
theorem dX10_drawn_144 : decode cX10_drawn 144 = .ok (.getfield 68, 3) := by decide +kernel
theorem dX10_drawn_147 : decode cX10_drawn 147 = .ok (.aload_n 0, 1) := by decide +kernel
theorem dX10_drawn_148 : decode cX10_drawn 148 = .ok (.getfield 173, 3) := by decide +kernel
theorem dX10_drawn_151 : decode cX10_drawn 151 = .ok (.iconst 1, 1) := by decide +kernel
theorem dX10_drawn_152 : decode cX10_drawn 152 = .ok (.isub, 1) := by decide +kernel
theorem dX10_drawn_153 : decode cX10_drawn 153 = .ok (.iaload, 1) := by decide +kernel
theorem dX10_drawn_154 : decode cX10_drawn 154 = .ok (.iload 4, 2) := by decide +kernel
theorem dX10_drawn_156 : decode cX10_drawn 156 = .ok (.if_icmp .ne 6, 3) := by decide +kernel
theorem dX10_drawn_159 : decode cX10_drawn 159 = .ok (.iinc 7 1, 3) := by decide +kernel
theorem dX10_drawn_162 : decode cX10_drawn 162 = .ok (.iinc 8 1, 3) := by decide +kernel
theorem dX10_drawn_165 : decode cX10_drawn 165 = .ok (.goto (-103), 3) := by decide +kernel
theorem dX10_drawn_168 : decode cX10_drawn 168 = .ok (.iload 4, 2) := by decide +kernel
theorem dX10_drawn_170 : decode cX10_drawn 170 = .ok (.ifCond .ge 8, 3) := by decide +kernel
theorem dX10_drawn_173 : decode cX10_drawn 173 = .ok (.iload 6, 2) := by decide +kernel
theorem dX10_drawn_175 : decode cX10_drawn 175 = .ok (.goto 5, 3) := by decide +kernel
theorem dX10_drawn_178 : decode cX10_drawn 178 = .ok (.iload 7, 2) := by decide +kernel
theorem dX10_drawn_180 : decode cX10_drawn 180 = .ok (.ireturn, 1) := by decide +kernel
theorem dX10_keepSill_0 : decode cX10_keepSill 0 = .ok (.aload_n 0, 1) := by decide +kernel
theorem dX10_keepSill_1 : decode cX10_keepSill 1 = .ok (.getfield 21, 3) := by decide +kernel
theorem dX10_keepSill_4 : decode cX10_keepSill 4 = .ok (.aload_n 0, 1) := by decide +kernel
theorem dX10_keepSill_5 : decode cX10_keepSill 5 = .ok (.getfield 263, 3) := by decide +kernel
theorem dX10_keepSill_8 : decode cX10_keepSill 8 = .ok (.aload_n 0, 1) := by decide +kernel
theorem dX10_keepSill_9 : decode cX10_keepSill 9 = .ok (.getfield 173, 3) := by decide +kernel
theorem dX10_keepSill_12 : decode cX10_keepSill 12 = .ok (.iastore, 1) := by decide +kernel
theorem dX10_keepSill_13 : decode cX10_keepSill 13 = .ok (.iconst 0, 1) := by decide +kernel
theorem dX10_keepSill_14 : decode cX10_keepSill 14 = .ok (.istore_n 1, 1) := by decide +kernel
theorem dX10_keepSill_15 : decode cX10_keepSill 15 = .ok (.iload_n 1, 1) := by decide +kernel
theorem dX10_keepSill_16 : decode cX10_keepSill 16 = .ok (.aload_n 0, 1) := by decide +kernel
theorem dX10_keepSill_17 : decode cX10_keepSill 17 = .ok (.getfield 173, 3) := by decide +kernel
theorem dX10_keepSill_20 : decode cX10_keepSill 20 = .ok (.if_icmp .ge 49, 3) := by decide +kernel
theorem dX10_keepSill_23 : decode cX10_keepSill 23 = .ok (.aload_n 0, 1) := by decide +kernel
theorem dX10_keepSill_24 : decode cX10_keepSill 24 = .ok (.getfield 24, 3) := by decide +kernel
theorem dX10_keepSill_27 : decode cX10_keepSill 27 = .ok (.bipush 12, 2) := by decide +kernel
theorem dX10_keepSill_29 : decode cX10_keepSill 29 = .ok (.aload_n 0, 1) := by decide +kernel
theorem dX10_keepSill_30 : decode cX10_keepSill 30 = .ok (.getfield 263, 3) := by decide +kernel
theorem dX10_keepSill_33 : decode cX10_keepSill 33 = .ok (.imul, 1) := by decide +kernel
theorem dX10_keepSill_34 : decode cX10_keepSill 34 = .ok (.iload_n 1, 1) := by decide +kernel
theorem dX10_keepSill_35 : decode cX10_keepSill 35 = .ok (.iadd, 1) := by decide +kernel
theorem dX10_keepSill_36 : decode cX10_keepSill 36 = .ok (.aload_n 0, 1) := by decide +kernel
theorem dX10_keepSill_37 : decode cX10_keepSill 37 = .ok (.getfield 68, 3) := by decide +kernel
theorem dX10_keepSill_40 : decode cX10_keepSill 40 = .ok (.iload_n 1, 1) := by decide +kernel
theorem dX10_keepSill_41 : decode cX10_keepSill 41 = .ok (.iaload, 1) := by decide +kernel
theorem dX10_keepSill_42 : decode cX10_keepSill 42 = .ok (.iastore, 1) := by decide +kernel
theorem dX10_keepSill_43 : decode cX10_keepSill 43 = .ok (.aload_n 0, 1) := by decide +kernel
theorem dX10_keepSill_44 : decode cX10_keepSill 44 = .ok (.getfield 27, 3) := by decide +kernel
theorem dX10_keepSill_47 : decode cX10_keepSill 47 = .ok (.bipush 12, 2) := by decide +kernel
theorem dX10_keepSill_49 : decode cX10_keepSill 49 = .ok (.aload_n 0, 1) := by decide +kernel
theorem dX10_keepSill_50 : decode cX10_keepSill 50 = .ok (.getfield 263, 3) := by decide +kernel
theorem dX10_keepSill_53 : decode cX10_keepSill 53 = .ok (.imul, 1) := by decide +kernel
theorem dX10_keepSill_54 : decode cX10_keepSill 54 = .ok (.iload_n 1, 1) := by decide +kernel
theorem dX10_keepSill_55 : decode cX10_keepSill 55 = .ok (.iadd, 1) := by decide +kernel
theorem dX10_keepSill_56 : decode cX10_keepSill 56 = .ok (.aload_n 0, 1) := by decide +kernel
theorem dX10_keepSill_57 : decode cX10_keepSill 57 = .ok (.getfield 71, 3) := by decide +kernel
theorem dX10_keepSill_60 : decode cX10_keepSill 60 = .ok (.iload_n 1, 1) := by decide +kernel
theorem dX10_keepSill_61 : decode cX10_keepSill 61 = .ok (.iaload, 1) := by decide +kernel
theorem dX10_keepSill_62 : decode cX10_keepSill 62 = .ok (.iastore, 1) := by decide +kernel
theorem dX10_keepSill_63 : decode cX10_keepSill 63 = .ok (.iinc 1 1, 3) := by decide +kernel
theorem dX10_keepSill_66 : decode cX10_keepSill 66 = .ok (.goto (-51), 3) := by decide +kernel
theorem dX10_keepSill_69 : decode cX10_keepSill 69 = .ok (.return_, 1) := by decide +kernel
theorem dX10_look_0 : decode cX10_look 0 = .ok (.iload_n 1, 1) := by decide +kernel
theorem dX10_look_1 : decode cX10_look 1 = .ok (.iconst 0, 1) := by decide +kernel
theorem dX10_look_2 : decode cX10_look 2 = .ok (.bipush 65, 2) := by decide +kernel
theorem dX10_look_4 : decode cX10_look 4 = .ok (.invokestatic 124, 3) := by decide +kernel
theorem dX10_look_7 : decode cX10_look 7 = .ok (.ifCond .ne 5, 3) := by decide +kernel
theorem dX10_look_10 : decode cX10_look 10 = .ok (.iconst (-1), 1) := by decide +kernel
theorem dX10_look_11 : decode cX10_look 11 = .ok (.ireturn, 1) := by decide +kernel
theorem dX10_look_12 : decode cX10_look 12 = .ok (.iconst 0, 1) := by decide +kernel
theorem dX10_look_13 : decode cX10_look 13 = .ok (.istore_n 2, 1) := by decide +kernel
theorem dX10_look_14 : decode cX10_look 14 = .ok (.iconst 0, 1) := by decide +kernel
theorem dX10_look_15 : decode cX10_look 15 = .ok (.istore_n 3, 1) := by decide +kernel
theorem dX10_look_16 : decode cX10_look 16 = .ok (.iload_n 3, 1) := by decide +kernel
theorem dX10_look_17 : decode cX10_look 17 = .ok (.aload_n 0, 1) := by decide +kernel
theorem dX10_look_18 : decode cX10_look 18 = .ok (.getfield 121, 3) := by decide +kernel
theorem dX10_look_21 : decode cX10_look 21 = .ok (.if_icmp .ge 35, 3) := by decide +kernel
theorem dX10_look_24 : decode cX10_look 24 = .ok (.aload_n 0, 1) := by decide +kernel
theorem dX10_look_25 : decode cX10_look 25 = .ok (.iload_n 3, 1) := by decide +kernel
theorem dX10_look_26 : decode cX10_look 26 = .ok (.invokevirtual 169, 3) := by decide +kernel
theorem dX10_look_29 : decode cX10_look 29 = .ok (.iload_n 2, 1) := by decide +kernel
theorem dX10_look_30 : decode cX10_look 30 = .ok (.aload_n 0, 1) := by decide +kernel
theorem dX10_look_31 : decode cX10_look 31 = .ok (.aload_n 0, 1) := by decide +kernel
theorem dX10_look_32 : decode cX10_look 32 = .ok (.iload_n 1, 1) := by decide +kernel
theorem dX10_look_33 : decode cX10_look 33 = .ok (.invokevirtual 253, 3) := by decide +kernel
theorem dX10_look_36 : decode cX10_look 36 = .ok (.aload_n 0, 1) := by decide +kernel
theorem dX10_look_37 : decode cX10_look 37 = .ok (.iload_n 1, 1) := by decide +kernel
theorem dX10_look_38 : decode cX10_look 38 = .ok (.invokevirtual 256, 3) := by decide +kernel
theorem dX10_look_41 : decode cX10_look 41 = .ok (.invokevirtual 373, 3) := by decide +kernel
theorem dX10_look_44 : decode cX10_look 44 = .ok (.iadd, 1) := by decide +kernel
theorem dX10_look_45 : decode cX10_look 45 = .ok (.istore_n 2, 1) := by decide +kernel
theorem dX10_look_46 : decode cX10_look 46 = .ok (.aload_n 0, 1) := by decide +kernel
theorem dX10_look_47 : decode cX10_look 47 = .ok (.invokevirtual 376, 3) := by decide +kernel
theorem dX10_look_50 : decode cX10_look 50 = .ok (.iinc 3 1, 3) := by decide +kernel
theorem dX10_look_53 : decode cX10_look 53 = .ok (.goto (-37), 3) := by decide +kernel
theorem dX10_look_56 : decode cX10_look 56 = .ok (.aload_n 0, 1) := by decide +kernel
theorem dX10_look_57 : decode cX10_look 57 = .ok (.getfield 84, 3) := by decide +kernel
theorem dX10_look_60 : decode cX10_look 60 = .ok (.iconst 0, 1) := by decide +kernel
theorem dX10_look_61 : decode cX10_look 61 = .ok (.dup2, 1) := by decide +kernel
theorem dX10_look_62 : decode cX10_look 62 = .ok (.iaload, 1) := by decide +kernel
theorem dX10_look_63 : decode cX10_look 63 = .ok (.iconst 1, 1) := by decide +kernel
theorem dX10_look_64 : decode cX10_look 64 = .ok (.iadd, 1) := by decide +kernel
theorem dX10_look_65 : decode cX10_look 65 = .ok (.iastore, 1) := by decide +kernel
theorem dX10_look_66 : decode cX10_look 66 = .ok (.aload_n 0, 1) := by decide +kernel
theorem dX10_look_67 : decode cX10_look 67 = .ok (.getfield 84, 3) := by decide +kernel
theorem dX10_look_70 : decode cX10_look 70 = .ok (.iconst 1, 1) := by decide +kernel
theorem dX10_look_71 : decode cX10_look 71 = .ok (.dup2, 1) := by decide +kernel
theorem dX10_look_72 : decode cX10_look 72 = .ok (.iaload, 1) := by decide +kernel
theorem dX10_look_73 : decode cX10_look 73 = .ok (.iload_n 2, 1) := by decide +kernel
theorem dX10_look_74 : decode cX10_look 74 = .ok (.iadd, 1) := by decide +kernel
theorem dX10_look_75 : decode cX10_look 75 = .ok (.iastore, 1) := by decide +kernel
theorem dX10_look_76 : decode cX10_look 76 = .ok (.iload_n 2, 1) := by decide +kernel
theorem dX10_look_77 : decode cX10_look 77 = .ok (.ireturn, 1) := by decide +kernel
theorem dX10_blow_0 : decode cX10_blow 0 = .ok (.aload_n 0, 1) := by decide +kernel
theorem dX10_blow_1 : decode cX10_blow 1 = .ok (.iload_n 1, 1) := by decide +kernel
theorem dX10_blow_2 : decode cX10_blow 2 = .ok (.invokevirtual 152, 3) := by decide +kernel
theorem dX10_blow_5 : decode cX10_blow 5 = .ok (.ifCond .eq 13, 3) := by decide +kernel
theorem dX10_blow_8 : decode cX10_blow 8 = .ok (.iload_n 2, 1) := by decide +kernel
theorem dX10_blow_9 : decode cX10_blow 9 = .ok (.iconst 0, 1) := by decide +kernel
theorem dX10_blow_10 : decode cX10_blow 10 = .ok (.bipush 99, 2) := by decide +kernel
theorem dX10_blow_12 : decode cX10_blow 12 = .ok (.invokestatic 124, 3) := by decide +kernel
theorem dX10_blow_15 : decode cX10_blow 15 = .ok (.ifCond .ne 5, 3) := by decide +kernel
theorem dX10_blow_18 : decode cX10_blow 18 = .ok (.iconst (-1), 1) := by decide +kernel
theorem dX10_blow_19 : decode cX10_blow 19 = .ok (.ireturn, 1) := by decide +kernel
theorem dX10_blow_20 : decode cX10_blow 20 = .ok (.aload_n 0, 1) := by decide +kernel
theorem dX10_blow_21 : decode cX10_blow 21 = .ok (.iload_n 1, 1) := by decide +kernel
theorem dX10_blow_22 : decode cX10_blow 22 = .ok (.invokevirtual 169, 3) := by decide +kernel
theorem dX10_blow_25 : decode cX10_blow 25 = .ok (.aload_n 0, 1) := by decide +kernel
theorem dX10_blow_26 : decode cX10_blow 26 = .ok (.iload_n 2, 1) := by decide +kernel
theorem dX10_blow_27 : decode cX10_blow 27 = .ok (.invokevirtual 305, 3) := by decide +kernel
theorem dX10_blow_30 : decode cX10_blow 30 = .ok (.istore_n 3, 1) := by decide +kernel
theorem dX10_blow_31 : decode cX10_blow 31 = .ok (.aload_n 0, 1) := by decide +kernel
theorem dX10_blow_32 : decode cX10_blow 32 = .ok (.invokevirtual 376, 3) := by decide +kernel
theorem dX10_blow_35 : decode cX10_blow 35 = .ok (.aload_n 0, 1) := by decide +kernel
theorem dX10_blow_36 : decode cX10_blow 36 = .ok (.getfield 84, 3) := by decide +kernel
theorem dX10_blow_39 : decode cX10_blow 39 = .ok (.iconst 2, 1) := by decide +kernel
theorem dX10_blow_40 : decode cX10_blow 40 = .ok (.dup2, 1) := by decide +kernel
theorem dX10_blow_41 : decode cX10_blow 41 = .ok (.iaload, 1) := by decide +kernel
theorem dX10_blow_42 : decode cX10_blow 42 = .ok (.iload_n 3, 1) := by decide +kernel
theorem dX10_blow_43 : decode cX10_blow 43 = .ok (.iadd, 1) := by decide +kernel
theorem dX10_blow_44 : decode cX10_blow 44 = .ok (.iastore, 1) := by decide +kernel
theorem dX10_blow_45 : decode cX10_blow 45 = .ok (.iload_n 3, 1) := by decide +kernel
theorem dX10_blow_46 : decode cX10_blow 46 = .ok (.ireturn, 1) := by decide +kernel
theorem dX10_sweep_0 : decode cX10_sweep 0 = .ok (.aload_n 0, 1) := by decide +kernel
theorem dX10_sweep_1 : decode cX10_sweep 1 = .ok (.iload_n 1, 1) := by decide +kernel
theorem dX10_sweep_2 : decode cX10_sweep 2 = .ok (.invokevirtual 152, 3) := by decide +kernel
theorem dX10_sweep_5 : decode cX10_sweep 5 = .ok (.ifCond .ne 5, 3) := by decide +kernel
theorem dX10_sweep_8 : decode cX10_sweep 8 = .ok (.iconst (-1), 1) := by decide +kernel
theorem dX10_sweep_9 : decode cX10_sweep 9 = .ok (.ireturn, 1) := by decide +kernel
theorem dX10_sweep_10 : decode cX10_sweep 10 = .ok (.aload_n 0, 1) := by decide +kernel
theorem dX10_sweep_11 : decode cX10_sweep 11 = .ok (.iload_n 1, 1) := by decide +kernel
theorem dX10_sweep_12 : decode cX10_sweep 12 = .ok (.invokevirtual 169, 3) := by decide +kernel
theorem dX10_sweep_15 : decode cX10_sweep 15 = .ok (.aload_n 0, 1) := by decide +kernel
theorem dX10_sweep_16 : decode cX10_sweep 16 = .ok (.invokevirtual 176, 3) := by decide +kernel
theorem dX10_sweep_19 : decode cX10_sweep 19 = .ok (.istore_n 2, 1) := by decide +kernel
theorem dX10_sweep_20 : decode cX10_sweep 20 = .ok (.aload_n 0, 1) := by decide +kernel
theorem dX10_sweep_21 : decode cX10_sweep 21 = .ok (.getfield 21, 3) := by decide +kernel
theorem dX10_sweep_24 : decode cX10_sweep 24 = .ok (.iload_n 1, 1) := by decide +kernel
theorem dX10_sweep_25 : decode cX10_sweep 25 = .ok (.iconst 0, 1) := by decide +kernel
theorem dX10_sweep_26 : decode cX10_sweep 26 = .ok (.iastore, 1) := by decide +kernel
theorem dX10_sweep_27 : decode cX10_sweep 27 = .ok (.aload_n 0, 1) := by decide +kernel
theorem dX10_sweep_28 : decode cX10_sweep 28 = .ok (.getfield 84, 3) := by decide +kernel
theorem dX10_sweep_31 : decode cX10_sweep 31 = .ok (.iconst 3, 1) := by decide +kernel
theorem dX10_sweep_32 : decode cX10_sweep 32 = .ok (.dup2, 1) := by decide +kernel
theorem dX10_sweep_33 : decode cX10_sweep 33 = .ok (.iaload, 1) := by decide +kernel
theorem dX10_sweep_34 : decode cX10_sweep 34 = .ok (.iload_n 2, 1) := by decide +kernel
theorem dX10_sweep_35 : decode cX10_sweep 35 = .ok (.iadd, 1) := by decide +kernel
theorem dX10_sweep_36 : decode cX10_sweep 36 = .ok (.iastore, 1) := by decide +kernel
theorem dX10_sweep_37 : decode cX10_sweep 37 = .ok (.aload_n 0, 1) := by decide +kernel
theorem dX10_sweep_38 : decode cX10_sweep 38 = .ok (.getfield 84, 3) := by decide +kernel
theorem dX10_sweep_41 : decode cX10_sweep 41 = .ok (.iconst 4, 1) := by decide +kernel
theorem dX10_sweep_42 : decode cX10_sweep 42 = .ok (.dup2, 1) := by decide +kernel
theorem dX10_sweep_43 : decode cX10_sweep 43 = .ok (.iaload, 1) := by decide +kernel
theorem dX10_sweep_44 : decode cX10_sweep 44 = .ok (.iconst 1, 1) := by decide +kernel
theorem dX10_sweep_45 : decode cX10_sweep 45 = .ok (.iadd, 1) := by decide +kernel
theorem dX10_sweep_46 : decode cX10_sweep 46 = .ok (.iastore, 1) := by decide +kernel
theorem dX10_sweep_47 : decode cX10_sweep 47 = .ok (.iload_n 2, 1) := by decide +kernel
theorem dX10_sweep_48 : decode cX10_sweep 48 = .ok (.ireturn, 1) := by decide +kernel
theorem dX10_led_0 : decode cX10_led 0 = .ok (.iload_n 1, 1) := by decide +kernel
theorem dX10_led_1 : decode cX10_led 1 = .ok (.iconst 0, 1) := by decide +kernel
theorem dX10_led_2 : decode cX10_led 2 = .ok (.iconst 4, 1) := by decide +kernel
theorem dX10_led_3 : decode cX10_led 3 = .ok (.invokestatic 124, 3) := by decide +kernel
theorem dX10_led_6 : decode cX10_led 6 = .ok (.ifCond .eq 12, 3) := by decide +kernel
theorem dX10_led_9 : decode cX10_led 9 = .ok (.aload_n 0, 1) := by decide +kernel
theorem dX10_led_10 : decode cX10_led 10 = .ok (.getfield 84, 3) := by decide +kernel
theorem dX10_led_13 : decode cX10_led 13 = .ok (.iload_n 1, 1) := by decide +kernel
theorem dX10_led_14 : decode cX10_led 14 = .ok (.iaload, 1) := by decide +kernel
theorem dX10_led_15 : decode cX10_led 15 = .ok (.goto 4, 3) := by decide +kernel
theorem dX10_led_18 : decode cX10_led 18 = .ok (.iconst (-1), 1) := by decide +kernel
theorem dX10_led_19 : decode cX10_led 19 = .ok (.ireturn, 1) := by decide +kernel
theorem dX10_image_0 : decode cX10_image 0 = .ok (.aload_n 0, 1) := by decide +kernel
theorem dX10_image_1 : decode cX10_image 1 = .ok (.iconst 1, 1) := by decide +kernel
theorem dX10_image_2 : decode cX10_image 2 = .ok (.putfield 379, 3) := by decide +kernel
theorem dX10_image_5 : decode cX10_image 5 = .ok (.aload_n 0, 1) := by decide +kernel
theorem dX10_image_6 : decode cX10_image 6 = .ok (.aload_n 0, 1) := by decide +kernel
theorem dX10_image_7 : decode cX10_image 7 = .ok (.getfield 121, 3) := by decide +kernel
theorem dX10_image_10 : decode cX10_image 10 = .ok (.putfield 382, 3) := by decide +kernel
theorem dX10_image_13 : decode cX10_image 13 = .ok (.iconst 0, 1) := by decide +kernel
theorem dX10_image_14 : decode cX10_image 14 = .ok (.istore_n 1, 1) := by decide +kernel
theorem dX10_image_15 : decode cX10_image 15 = .ok (.iload_n 1, 1) := by decide +kernel
theorem dX10_image_16 : decode cX10_image 16 = .ok (.aload_n 0, 1) := by decide +kernel
theorem dX10_image_17 : decode cX10_image 17 = .ok (.getfield 121, 3) := by decide +kernel
theorem dX10_image_20 : decode cX10_image 20 = .ok (.if_icmp .ge 21, 3) := by decide +kernel
theorem dX10_image_23 : decode cX10_image 23 = .ok (.aload_n 0, 1) := by decide +kernel
theorem dX10_image_24 : decode cX10_image 24 = .ok (.getfield 87, 3) := by decide +kernel
theorem dX10_image_27 : decode cX10_image 27 = .ok (.iload_n 1, 1) := by decide +kernel
theorem dX10_image_28 : decode cX10_image 28 = .ok (.aload_n 0, 1) := by decide +kernel
theorem dX10_image_29 : decode cX10_image 29 = .ok (.getfield 21, 3) := by decide +kernel
theorem dX10_image_32 : decode cX10_image 32 = .ok (.iload_n 1, 1) := by decide +kernel
theorem dX10_image_33 : decode cX10_image 33 = .ok (.iaload, 1) := by decide +kernel
theorem dX10_image_34 : decode cX10_image 34 = .ok (.iastore, 1) := by decide +kernel
theorem dX10_image_35 : decode cX10_image 35 = .ok (.iinc 1 1, 3) := by decide +kernel
theorem dX10_image_38 : decode cX10_image 38 = .ok (.goto (-23), 3) := by decide +kernel
theorem dX10_image_41 : decode cX10_image 41 = .ok (.iconst 0, 1) := by decide +kernel
theorem dX10_image_42 : decode cX10_image 42 = .ok (.istore_n 1, 1) := by decide +kernel
theorem dX10_image_43 : decode cX10_image 43 = .ok (.iload_n 1, 1) := by decide +kernel
theorem dX10_image_44 : decode cX10_image 44 = .ok (.bipush 60, 2) := by decide +kernel
theorem dX10_image_46 : decode cX10_image 46 = .ok (.if_icmp .ge 33, 3) := by decide +kernel
theorem dX10_image_49 : decode cX10_image 49 = .ok (.aload_n 0, 1) := by decide +kernel
theorem dX10_image_50 : decode cX10_image 50 = .ok (.getfield 90, 3) := by decide +kernel
theorem dX10_image_53 : decode cX10_image 53 = .ok (.iload_n 1, 1) := by decide +kernel
theorem dX10_image_54 : decode cX10_image 54 = .ok (.aload_n 0, 1) := by decide +kernel
theorem dX10_image_55 : decode cX10_image 55 = .ok (.getfield 24, 3) := by decide +kernel
theorem dX10_image_58 : decode cX10_image 58 = .ok (.iload_n 1, 1) := by decide +kernel
theorem dX10_image_59 : decode cX10_image 59 = .ok (.iaload, 1) := by decide +kernel
theorem dX10_image_60 : decode cX10_image 60 = .ok (.iastore, 1) := by decide +kernel
theorem dX10_image_61 : decode cX10_image 61 = .ok (.aload_n 0, 1) := by decide +kernel
theorem dX10_image_62 : decode cX10_image 62 = .ok (.getfield 93, 3) := by decide +kernel
theorem dX10_image_65 : decode cX10_image 65 = .ok (.iload_n 1, 1) := by decide +kernel
theorem dX10_image_66 : decode cX10_image 66 = .ok (.aload_n 0, 1) := by decide +kernel
theorem dX10_image_67 : decode cX10_image 67 = .ok (.getfield 27, 3) := by decide +kernel
theorem dX10_image_70 : decode cX10_image 70 = .ok (.iload_n 1, 1) := by decide +kernel
theorem dX10_image_71 : decode cX10_image 71 = .ok (.iaload, 1) := by decide +kernel
theorem dX10_image_72 : decode cX10_image 72 = .ok (.iastore, 1) := by decide +kernel
theorem dX10_image_73 : decode cX10_image 73 = .ok (.iinc 1 1, 3) := by decide +kernel
theorem dX10_image_76 : decode cX10_image 76 = .ok (.goto (-33), 3) := by decide +kernel
theorem dX10_image_79 : decode cX10_image 79 = .ok (.iconst 0, 1) := by decide +kernel
theorem dX10_image_80 : decode cX10_image 80 = .ok (.istore_n 1, 1) := by decide +kernel
theorem dX10_image_81 : decode cX10_image 81 = .ok (.iload_n 1, 1) := by decide +kernel
theorem dX10_image_82 : decode cX10_image 82 = .ok (.iconst 5, 1) := by decide +kernel
theorem dX10_image_83 : decode cX10_image 83 = .ok (.if_icmp .ge 21, 3) := by decide +kernel
theorem dX10_image_86 : decode cX10_image 86 = .ok (.aload_n 0, 1) := by decide +kernel
theorem dX10_image_87 : decode cX10_image 87 = .ok (.getfield 96, 3) := by decide +kernel
theorem dX10_image_90 : decode cX10_image 90 = .ok (.iload_n 1, 1) := by decide +kernel
theorem dX10_image_91 : decode cX10_image 91 = .ok (.aload_n 0, 1) := by decide +kernel
theorem dX10_image_92 : decode cX10_image 92 = .ok (.getfield 84, 3) := by decide +kernel
theorem dX10_image_95 : decode cX10_image 95 = .ok (.iload_n 1, 1) := by decide +kernel
theorem dX10_image_96 : decode cX10_image 96 = .ok (.iaload, 1) := by decide +kernel
theorem dX10_image_97 : decode cX10_image 97 = .ok (.iastore, 1) := by decide +kernel
theorem dX10_image_98 : decode cX10_image 98 = .ok (.iinc 1 1, 3) := by decide +kernel
theorem dX10_image_101 : decode cX10_image 101 = .ok (.goto (-20), 3) := by decide +kernel
theorem dX10_image_104 : decode cX10_image 104 = .ok (.aload_n 0, 1) := by decide +kernel
theorem dX10_image_105 : decode cX10_image 105 = .ok (.getfield 84, 3) := by decide +kernel
theorem dX10_image_108 : decode cX10_image 108 = .ok (.iconst 0, 1) := by decide +kernel
theorem dX10_image_109 : decode cX10_image 109 = .ok (.iaload, 1) := by decide +kernel
theorem dX10_image_110 : decode cX10_image 110 = .ok (.ireturn, 1) := by decide +kernel
theorem dX10_back_0 : decode cX10_back 0 = .ok (.aload_n 0, 1) := by decide +kernel
theorem dX10_back_1 : decode cX10_back 1 = .ok (.getfield 379, 3) := by decide +kernel
theorem dX10_back_4 : decode cX10_back 4 = .ok (.ifCond .ne 6, 3) := by decide +kernel
theorem dX10_back_7 : decode cX10_back 7 = .ok (.bipush (-5), 2) := by decide +kernel
theorem dX10_back_9 : decode cX10_back 9 = .ok (.ireturn, 1) := by decide +kernel
theorem dX10_back_10 : decode cX10_back 10 = .ok (.iconst 0, 1) := by decide +kernel
theorem dX10_back_11 : decode cX10_back 11 = .ok (.istore_n 1, 1) := by decide +kernel
theorem dX10_back_12 : decode cX10_back 12 = .ok (.iload_n 1, 1) := by decide +kernel
theorem dX10_back_13 : decode cX10_back 13 = .ok (.aload_n 0, 1) := by decide +kernel
theorem dX10_back_14 : decode cX10_back 14 = .ok (.getfield 121, 3) := by decide +kernel
theorem dX10_back_17 : decode cX10_back 17 = .ok (.if_icmp .ge 33, 3) := by decide +kernel
theorem dX10_back_20 : decode cX10_back 20 = .ok (.aload_n 0, 1) := by decide +kernel
theorem dX10_back_21 : decode cX10_back 21 = .ok (.getfield 21, 3) := by decide +kernel
theorem dX10_back_24 : decode cX10_back 24 = .ok (.iload_n 1, 1) := by decide +kernel
theorem dX10_back_25 : decode cX10_back 25 = .ok (.iload_n 1, 1) := by decide +kernel
theorem dX10_back_26 : decode cX10_back 26 = .ok (.aload_n 0, 1) := by decide +kernel
theorem dX10_back_27 : decode cX10_back 27 = .ok (.getfield 382, 3) := by decide +kernel
theorem dX10_back_30 : decode cX10_back 30 = .ok (.if_icmp .ge 12, 3) := by decide +kernel
theorem dX10_back_33 : decode cX10_back 33 = .ok (.aload_n 0, 1) := by decide +kernel
theorem dX10_back_34 : decode cX10_back 34 = .ok (.getfield 87, 3) := by decide +kernel
theorem dX10_back_37 : decode cX10_back 37 = .ok (.iload_n 1, 1) := by decide +kernel
theorem dX10_back_38 : decode cX10_back 38 = .ok (.iaload, 1) := by decide +kernel
theorem dX10_back_39 : decode cX10_back 39 = .ok (.goto 4, 3) := by decide +kernel
theorem dX10_back_42 : decode cX10_back 42 = .ok (.iconst 0, 1) := by decide +kernel
theorem dX10_back_43 : decode cX10_back 43 = .ok (.iastore, 1) := by decide +kernel
theorem dX10_back_44 : decode cX10_back 44 = .ok (.iinc 1 1, 3) := by decide +kernel
theorem dX10_back_47 : decode cX10_back 47 = .ok (.goto (-35), 3) := by decide +kernel
theorem dX10_back_50 : decode cX10_back 50 = .ok (.iconst 0, 1) := by decide +kernel
theorem dX10_back_51 : decode cX10_back 51 = .ok (.istore_n 1, 1) := by decide +kernel
theorem dX10_back_52 : decode cX10_back 52 = .ok (.iload_n 1, 1) := by decide +kernel
theorem dX10_back_53 : decode cX10_back 53 = .ok (.bipush 60, 2) := by decide +kernel
theorem dX10_back_55 : decode cX10_back 55 = .ok (.if_icmp .ge 33, 3) := by decide +kernel
theorem dX10_back_58 : decode cX10_back 58 = .ok (.aload_n 0, 1) := by decide +kernel
theorem dX10_back_59 : decode cX10_back 59 = .ok (.getfield 24, 3) := by decide +kernel
theorem dX10_back_62 : decode cX10_back 62 = .ok (.iload_n 1, 1) := by decide +kernel
theorem dX10_back_63 : decode cX10_back 63 = .ok (.aload_n 0, 1) := by decide +kernel
theorem dX10_back_64 : decode cX10_back 64 = .ok (.getfield 90, 3) := by decide +kernel
theorem dX10_back_67 : decode cX10_back 67 = .ok (.iload_n 1, 1) := by decide +kernel
theorem dX10_back_68 : decode cX10_back 68 = .ok (.iaload, 1) := by decide +kernel
theorem dX10_back_69 : decode cX10_back 69 = .ok (.iastore, 1) := by decide +kernel
theorem dX10_back_70 : decode cX10_back 70 = .ok (.aload_n 0, 1) := by decide +kernel
theorem dX10_back_71 : decode cX10_back 71 = .ok (.getfield 27, 3) := by decide +kernel
theorem dX10_back_74 : decode cX10_back 74 = .ok (.iload_n 1, 1) := by decide +kernel
theorem dX10_back_75 : decode cX10_back 75 = .ok (.aload_n 0, 1) := by decide +kernel
theorem dX10_back_76 : decode cX10_back 76 = .ok (.getfield 93, 3) := by decide +kernel
theorem dX10_back_79 : decode cX10_back 79 = .ok (.iload_n 1, 1) := by decide +kernel
theorem dX10_back_80 : decode cX10_back 80 = .ok (.iaload, 1) := by decide +kernel
theorem dX10_back_81 : decode cX10_back 81 = .ok (.iastore, 1) := by decide +kernel
theorem dX10_back_82 : decode cX10_back 82 = .ok (.iinc 1 1, 3) := by decide +kernel
theorem dX10_back_85 : decode cX10_back 85 = .ok (.goto (-33), 3) := by decide +kernel
theorem dX10_back_88 : decode cX10_back 88 = .ok (.iconst 0, 1) := by decide +kernel
theorem dX10_back_89 : decode cX10_back 89 = .ok (.istore_n 1, 1) := by decide +kernel
theorem dX10_back_90 : decode cX10_back 90 = .ok (.iload_n 1, 1) := by decide +kernel
theorem dX10_back_91 : decode cX10_back 91 = .ok (.iconst 5, 1) := by decide +kernel
theorem dX10_back_92 : decode cX10_back 92 = .ok (.if_icmp .ge 21, 3) := by decide +kernel
theorem dX10_back_95 : decode cX10_back 95 = .ok (.aload_n 0, 1) := by decide +kernel
theorem dX10_back_96 : decode cX10_back 96 = .ok (.getfield 84, 3) := by decide +kernel
theorem dX10_back_99 : decode cX10_back 99 = .ok (.iload_n 1, 1) := by decide +kernel
theorem dX10_back_100 : decode cX10_back 100 = .ok (.aload_n 0, 1) := by decide +kernel
theorem dX10_back_101 : decode cX10_back 101 = .ok (.getfield 96, 3) := by decide +kernel
theorem dX10_back_104 : decode cX10_back 104 = .ok (.iload_n 1, 1) := by decide +kernel
theorem dX10_back_105 : decode cX10_back 105 = .ok (.iaload, 1) := by decide +kernel
theorem dX10_back_106 : decode cX10_back 106 = .ok (.iastore, 1) := by decide +kernel
theorem dX10_back_107 : decode cX10_back 107 = .ok (.iinc 1 1, 3) := by decide +kernel
theorem dX10_back_110 : decode cX10_back 110 = .ok (.goto (-20), 3) := by decide +kernel
theorem dX10_back_113 : decode cX10_back 113 = .ok (.aload_n 0, 1) := by decide +kernel
theorem dX10_back_114 : decode cX10_back 114 = .ok (.getfield 84, 3) := by decide +kernel
theorem dX10_back_117 : decode cX10_back 117 = .ok (.iconst 0, 1) := by decide +kernel
theorem dX10_back_118 : decode cX10_back 118 = .ok (.iaload, 1) := by decide +kernel
theorem dX10_back_119 : decode cX10_back 119 = .ok (.ireturn, 1) := by decide +kernel
theorem dX10_isBody_0 : decode cX10_isBody 0 = .ok (.iload_n 1, 1) := by decide +kernel
theorem dX10_isBody_1 : decode cX10_isBody 1 = .ok (.iconst 0, 1) := by decide +kernel
theorem dX10_isBody_2 : decode cX10_isBody 2 = .ok (.aload_n 0, 1) := by decide +kernel
theorem dX10_isBody_3 : decode cX10_isBody 3 = .ok (.getfield 385, 3) := by decide +kernel
theorem dX10_isBody_6 : decode cX10_isBody 6 = .ok (.iconst 1, 1) := by decide +kernel
theorem dX10_isBody_7 : decode cX10_isBody 7 = .ok (.isub, 1) := by decide +kernel
theorem dX10_isBody_8 : decode cX10_isBody 8 = .ok (.invokestatic 124, 3) := by decide +kernel
theorem dX10_isBody_11 : decode cX10_isBody 11 = .ok (.ireturn, 1) := by decide +kernel
theorem dX10_ran_0 : decode cX10_ran 0 = .ok (.aload_n 0, 1) := by decide +kernel
theorem dX10_ran_1 : decode cX10_ran 1 = .ok (.getfield 388, 3) := by decide +kernel
theorem dX10_ran_4 : decode cX10_ran 4 = .ok (.bipush 24, 2) := by decide +kernel
theorem dX10_ran_6 : decode cX10_ran 6 = .ok (.if_icmp .ge 13, 3) := by decide +kernel
theorem dX10_ran_9 : decode cX10_ran 9 = .ok (.aload_n 0, 1) := by decide +kernel
theorem dX10_ran_10 : decode cX10_ran 10 = .ok (.getfield 102, 3) := by decide +kernel
theorem dX10_ran_13 : decode cX10_ran 13 = .ok (.aload_n 0, 1) := by decide +kernel
theorem dX10_ran_14 : decode cX10_ran 14 = .ok (.getfield 388, 3) := by decide +kernel
theorem dX10_ran_17 : decode cX10_ran 17 = .ok (.iload_n 1, 1) := by decide +kernel
theorem dX10_ran_18 : decode cX10_ran 18 = .ok (.iastore, 1) := by decide +kernel
theorem dX10_ran_19 : decode cX10_ran 19 = .ok (.aload_n 0, 1) := by decide +kernel
theorem dX10_ran_20 : decode cX10_ran 20 = .ok (.dup, 1) := by decide +kernel
theorem dX10_ran_21 : decode cX10_ran 21 = .ok (.getfield 388, 3) := by decide +kernel
theorem dX10_ran_24 : decode cX10_ran 24 = .ok (.iconst 1, 1) := by decide +kernel
theorem dX10_ran_25 : decode cX10_ran 25 = .ok (.iadd, 1) := by decide +kernel
theorem dX10_ran_26 : decode cX10_ran 26 = .ok (.putfield 388, 3) := by decide +kernel
theorem dX10_ran_29 : decode cX10_ran 29 = .ok (.return_, 1) := by decide +kernel
theorem dX10_trace_0 : decode cX10_trace 0 = .ok (.iload_n 1, 1) := by decide +kernel
theorem dX10_trace_1 : decode cX10_trace 1 = .ok (.ifCond .lt 26, 3) := by decide +kernel
theorem dX10_trace_4 : decode cX10_trace 4 = .ok (.iload_n 1, 1) := by decide +kernel
theorem dX10_trace_5 : decode cX10_trace 5 = .ok (.aload_n 0, 1) := by decide +kernel
theorem dX10_trace_6 : decode cX10_trace 6 = .ok (.getfield 388, 3) := by decide +kernel
theorem dX10_trace_9 : decode cX10_trace 9 = .ok (.if_icmp .ge 18, 3) := by decide +kernel
theorem dX10_trace_12 : decode cX10_trace 12 = .ok (.iload_n 1, 1) := by decide +kernel
theorem dX10_trace_13 : decode cX10_trace 13 = .ok (.bipush 24, 2) := by decide +kernel
theorem dX10_trace_15 : decode cX10_trace 15 = .ok (.if_icmp .ge 12, 3) := by decide +kernel
theorem dX10_trace_18 : decode cX10_trace 18 = .ok (.aload_n 0, 1) := by decide +kernel
theorem dX10_trace_19 : decode cX10_trace 19 = .ok (.getfield 102, 3) := by decide +kernel
theorem dX10_trace_22 : decode cX10_trace 22 = .ok (.iload_n 1, 1) := by decide +kernel
theorem dX10_trace_23 : decode cX10_trace 23 = .ok (.iaload, 1) := by decide +kernel
theorem dX10_trace_24 : decode cX10_trace 24 = .ok (.goto 4, 3) := by decide +kernel
theorem dX10_trace_27 : decode cX10_trace 27 = .ok (.iconst (-1), 1) := by decide +kernel
theorem dX10_trace_28 : decode cX10_trace 28 = .ok (.ireturn, 1) := by decide +kernel
theorem dX10_body_0 : decode cX10_body 0 = .ok (.iload_n 1, 1) := by decide +kernel
theorem dX10_body_1 : decode cX10_body 1 = .ok (.iconst 0, 1) := by decide +kernel
theorem dX10_body_2 : decode cX10_body 2 = .ok (.bipush 7, 2) := by decide +kernel
theorem dX10_body_4 : decode cX10_body 4 = .ok (.invokestatic 124, 3) := by decide +kernel
theorem dX10_body_7 : decode cX10_body 7 = .ok (.ifCond .ne 5, 3) := by decide +kernel
theorem dX10_body_10 : decode cX10_body 10 = .ok (.iconst (-1), 1) := by decide +kernel
theorem dX10_body_11 : decode cX10_body 11 = .ok (.ireturn, 1) := by decide +kernel
theorem dX10_body_12 : decode cX10_body 12 = .ok (.aload_n 0, 1) := by decide +kernel
theorem dX10_body_13 : decode cX10_body 13 = .ok (.getfield 385, 3) := by decide +kernel
theorem dX10_body_16 : decode cX10_body 16 = .ok (.bipush 50, 2) := by decide +kernel
theorem dX10_body_18 : decode cX10_body 18 = .ok (.if_icmp .ne 6, 3) := by decide +kernel
theorem dX10_body_21 : decode cX10_body 21 = .ok (.bipush (-3), 2) := by decide +kernel
theorem dX10_body_23 : decode cX10_body 23 = .ok (.ireturn, 1) := by decide +kernel
theorem dX10_body_24 : decode cX10_body 24 = .ok (.aload_n 0, 1) := by decide +kernel
theorem dX10_body_25 : decode cX10_body 25 = .ok (.getfield 99, 3) := by decide +kernel
theorem dX10_body_28 : decode cX10_body 28 = .ok (.aload_n 0, 1) := by decide +kernel
theorem dX10_body_29 : decode cX10_body 29 = .ok (.getfield 385, 3) := by decide +kernel
theorem dX10_body_32 : decode cX10_body 32 = .ok (.iload_n 1, 1) := by decide +kernel
theorem dX10_body_33 : decode cX10_body 33 = .ok (.iastore, 1) := by decide +kernel
theorem dX10_body_34 : decode cX10_body 34 = .ok (.aload_n 0, 1) := by decide +kernel
theorem dX10_body_35 : decode cX10_body 35 = .ok (.dup, 1) := by decide +kernel
theorem dX10_body_36 : decode cX10_body 36 = .ok (.getfield 385, 3) := by decide +kernel
theorem dX10_body_39 : decode cX10_body 39 = .ok (.iconst 1, 1) := by decide +kernel
theorem dX10_body_40 : decode cX10_body 40 = .ok (.iadd, 1) := by decide +kernel
theorem dX10_body_41 : decode cX10_body 41 = .ok (.putfield 385, 3) := by decide +kernel
theorem dX10_body_44 : decode cX10_body 44 = .ok (.aload_n 0, 1) := by decide +kernel
theorem dX10_body_45 : decode cX10_body 45 = .ok (.getfield 385, 3) := by decide +kernel
theorem dX10_body_48 : decode cX10_body 48 = .ok (.iconst 1, 1) := by decide +kernel
theorem dX10_body_49 : decode cX10_body 49 = .ok (.isub, 1) := by decide +kernel
theorem dX10_body_50 : decode cX10_body 50 = .ok (.ireturn, 1) := by decide +kernel
theorem dX10_isUnder_0 : decode cX10_isUnder 0 = .ok (.iload_n 1, 1) := by decide +kernel
theorem dX10_isUnder_1 : decode cX10_isUnder 1 = .ok (.ifCond .eq 55, 3) := by decide +kernel
theorem dX10_isUnder_4 : decode cX10_isUnder 4 = .ok (.iload_n 0, 1) := by decide +kernel
theorem dX10_isUnder_5 : decode cX10_isUnder 5 = .ok (.iload_n 1, 1) := by decide +kernel
theorem dX10_isUnder_6 : decode cX10_isUnder 6 = .ok (.if_icmp .eq 50, 3) := by decide +kernel
theorem dX10_isUnder_9 : decode cX10_isUnder 9 = .ok (.iload_n 1, 1) := by decide +kernel
theorem dX10_isUnder_10 : decode cX10_isUnder 10 = .ok (.iconst 1, 1) := by decide +kernel
theorem dX10_isUnder_11 : decode cX10_isUnder 11 = .ok (.if_icmp .ne 8, 3) := by decide +kernel
theorem dX10_isUnder_14 : decode cX10_isUnder 14 = .ok (.iload_n 0, 1) := by decide +kernel
theorem dX10_isUnder_15 : decode cX10_isUnder 15 = .ok (.iconst 4, 1) := by decide +kernel
theorem dX10_isUnder_16 : decode cX10_isUnder 16 = .ok (.if_icmp .eq 40, 3) := by decide +kernel
theorem dX10_isUnder_19 : decode cX10_isUnder 19 = .ok (.iload_n 1, 1) := by decide +kernel
theorem dX10_isUnder_20 : decode cX10_isUnder 20 = .ok (.iconst 2, 1) := by decide +kernel
theorem dX10_isUnder_21 : decode cX10_isUnder 21 = .ok (.if_icmp .ne 13, 3) := by decide +kernel
theorem dX10_isUnder_24 : decode cX10_isUnder 24 = .ok (.iload_n 0, 1) := by decide +kernel
theorem dX10_isUnder_25 : decode cX10_isUnder 25 = .ok (.iconst 3, 1) := by decide +kernel
theorem dX10_isUnder_26 : decode cX10_isUnder 26 = .ok (.if_icmp .eq 30, 3) := by decide +kernel
theorem dX10_isUnder_29 : decode cX10_isUnder 29 = .ok (.iload_n 0, 1) := by decide +kernel
theorem dX10_isUnder_30 : decode cX10_isUnder 30 = .ok (.iconst 5, 1) := by decide +kernel
theorem dX10_isUnder_31 : decode cX10_isUnder 31 = .ok (.if_icmp .eq 25, 3) := by decide +kernel
theorem dX10_isUnder_34 : decode cX10_isUnder 34 = .ok (.iload_n 1, 1) := by decide +kernel
theorem dX10_isUnder_35 : decode cX10_isUnder 35 = .ok (.iconst 3, 1) := by decide +kernel
theorem dX10_isUnder_36 : decode cX10_isUnder 36 = .ok (.if_icmp .ne 8, 3) := by decide +kernel
theorem dX10_isUnder_39 : decode cX10_isUnder 39 = .ok (.iload_n 0, 1) := by decide +kernel
theorem dX10_isUnder_40 : decode cX10_isUnder 40 = .ok (.iconst 5, 1) := by decide +kernel
theorem dX10_isUnder_41 : decode cX10_isUnder 41 = .ok (.if_icmp .eq 15, 3) := by decide +kernel
theorem dX10_isUnder_44 : decode cX10_isUnder 44 = .ok (.iload_n 1, 1) := by decide +kernel
theorem dX10_isUnder_45 : decode cX10_isUnder 45 = .ok (.bipush 6, 2) := by decide +kernel
theorem dX10_isUnder_47 : decode cX10_isUnder 47 = .ok (.if_icmp .ne 13, 3) := by decide +kernel
theorem dX10_isUnder_50 : decode cX10_isUnder 50 = .ok (.iload_n 0, 1) := by decide +kernel
theorem dX10_isUnder_51 : decode cX10_isUnder 51 = .ok (.bipush 7, 2) := by decide +kernel
theorem dX10_isUnder_53 : decode cX10_isUnder 53 = .ok (.if_icmp .ne 7, 3) := by decide +kernel
theorem dX10_isUnder_56 : decode cX10_isUnder 56 = .ok (.iconst 1, 1) := by decide +kernel
theorem dX10_isUnder_57 : decode cX10_isUnder 57 = .ok (.goto 4, 3) := by decide +kernel
theorem dX10_isUnder_60 : decode cX10_isUnder 60 = .ok (.iconst 0, 1) := by decide +kernel
theorem dX10_isUnder_61 : decode cX10_isUnder 61 = .ok (.ireturn, 1) := by decide +kernel
theorem dX10_plainLies_0 : decode cX10_plainLies 0 = .ok (.aload_n 0, 1) := by decide +kernel
theorem dX10_plainLies_1 : decode cX10_plainLies 1 = .ok (.iconst 1, 1) := by decide +kernel
theorem dX10_plainLies_2 : decode cX10_plainLies 2 = .ok (.invokevirtual 391, 3) := by decide +kernel
theorem dX10_plainLies_5 : decode cX10_plainLies 5 = .ok (.iload_n 2, 1) := by decide +kernel
theorem dX10_plainLies_6 : decode cX10_plainLies 6 = .ok (.iload_n 1, 1) := by decide +kernel
theorem dX10_plainLies_7 : decode cX10_plainLies 7 = .ok (.iadd, 1) := by decide +kernel
theorem dX10_plainLies_8 : decode cX10_plainLies 8 = .ok (.ireturn, 1) := by decide +kernel
theorem dX10_panLies_0 : decode cX10_panLies 0 = .ok (.aload_n 0, 1) := by decide +kernel
theorem dX10_panLies_1 : decode cX10_panLies 1 = .ok (.bipush 70, 2) := by decide +kernel
theorem dX10_panLies_3 : decode cX10_panLies 3 = .ok (.invokevirtual 391, 3) := by decide +kernel
theorem dX10_panLies_6 : decode cX10_panLies 6 = .ok (.aload_n 0, 1) := by decide +kernel
theorem dX10_panLies_7 : decode cX10_panLies 7 = .ok (.iload_n 1, 1) := by decide +kernel
theorem dX10_panLies_8 : decode cX10_panLies 8 = .ok (.iload_n 2, 1) := by decide +kernel
theorem dX10_panLies_9 : decode cX10_panLies 9 = .ok (.invokevirtual 394, 3) := by decide +kernel
theorem dX10_panLies_12 : decode cX10_panLies 12 = .ok (.iconst 2, 1) := by decide +kernel
theorem dX10_panLies_13 : decode cX10_panLies 13 = .ok (.imul, 1) := by decide +kernel
theorem dX10_panLies_14 : decode cX10_panLies 14 = .ok (.ireturn, 1) := by decide +kernel
theorem dX10_lying_0 : decode cX10_lying 0 = .ok (.aload_n 0, 1) := by decide +kernel
theorem dX10_lying_1 : decode cX10_lying 1 = .ok (.getfield 99, 3) := by decide +kernel
theorem dX10_lying_4 : decode cX10_lying 4 = .ok (.iload_n 1, 1) := by decide +kernel
theorem dX10_lying_5 : decode cX10_lying 5 = .ok (.iaload, 1) := by decide +kernel
theorem dX10_lying_6 : decode cX10_lying 6 = .ok (.iconst 1, 1) := by decide +kernel
theorem dX10_lying_7 : decode cX10_lying 7 = .ok (.invokestatic 397, 3) := by decide +kernel
theorem dX10_lying_10 : decode cX10_lying 10 = .ok (.ifCond .eq 18, 3) := by decide +kernel
theorem dX10_lying_13 : decode cX10_lying 13 = .ok (.aload_n 0, 1) := by decide +kernel
theorem dX10_lying_14 : decode cX10_lying 14 = .ok (.bipush 20, 2) := by decide +kernel
theorem dX10_lying_16 : decode cX10_lying 16 = .ok (.invokevirtual 391, 3) := by decide +kernel
theorem dX10_lying_19 : decode cX10_lying 19 = .ok (.aload_n 0, 1) := by decide +kernel
theorem dX10_lying_20 : decode cX10_lying 20 = .ok (.iload_n 1, 1) := by decide +kernel
theorem dX10_lying_21 : decode cX10_lying 21 = .ok (.iload_n 2, 1) := by decide +kernel
theorem dX10_lying_22 : decode cX10_lying 22 = .ok (.invokevirtual 394, 3) := by decide +kernel
theorem dX10_lying_25 : decode cX10_lying 25 = .ok (.iconst 3, 1) := by decide +kernel
theorem dX10_lying_26 : decode cX10_lying 26 = .ok (.iadd, 1) := by decide +kernel
theorem dX10_lying_27 : decode cX10_lying 27 = .ok (.ireturn, 1) := by decide +kernel
theorem dX10_lying_28 : decode cX10_lying 28 = .ok (.aload_n 0, 1) := by decide +kernel
theorem dX10_lying_29 : decode cX10_lying 29 = .ok (.getfield 99, 3) := by decide +kernel
theorem dX10_lying_32 : decode cX10_lying 32 = .ok (.iload_n 1, 1) := by decide +kernel
theorem dX10_lying_33 : decode cX10_lying 33 = .ok (.iaload, 1) := by decide +kernel
theorem dX10_lying_34 : decode cX10_lying 34 = .ok (.bipush 7, 2) := by decide +kernel
theorem dX10_lying_36 : decode cX10_lying 36 = .ok (.if_icmp .ne 18, 3) := by decide +kernel
theorem dX10_lying_39 : decode cX10_lying 39 = .ok (.aload_n 0, 1) := by decide +kernel
theorem dX10_lying_40 : decode cX10_lying 40 = .ok (.bipush 81, 2) := by decide +kernel
theorem dX10_lying_42 : decode cX10_lying 42 = .ok (.invokevirtual 391, 3) := by decide +kernel
theorem dX10_lying_45 : decode cX10_lying 45 = .ok (.aload_n 0, 1) := by decide +kernel
theorem dX10_lying_46 : decode cX10_lying 46 = .ok (.iload_n 1, 1) := by decide +kernel
theorem dX10_lying_47 : decode cX10_lying 47 = .ok (.iload_n 2, 1) := by decide +kernel
theorem dX10_lying_48 : decode cX10_lying 48 = .ok (.invokevirtual 400, 3) := by decide +kernel
theorem dX10_lying_51 : decode cX10_lying 51 = .ok (.iconst 1, 1) := by decide +kernel
theorem dX10_lying_52 : decode cX10_lying 52 = .ok (.isub, 1) := by decide +kernel
theorem dX10_lying_53 : decode cX10_lying 53 = .ok (.ireturn, 1) := by decide +kernel
theorem dX10_lying_54 : decode cX10_lying 54 = .ok (.aload_n 0, 1) := by decide +kernel
theorem dX10_lying_55 : decode cX10_lying 55 = .ok (.getfield 99, 3) := by decide +kernel
theorem dX10_lying_58 : decode cX10_lying 58 = .ok (.iload_n 1, 1) := by decide +kernel
theorem dX10_lying_59 : decode cX10_lying 59 = .ok (.iaload, 1) := by decide +kernel
theorem dX10_lying_60 : decode cX10_lying 60 = .ok (.bipush 6, 2) := by decide +kernel
theorem dX10_lying_62 : decode cX10_lying 62 = .ok (.if_icmp .ne 12, 3) := by decide +kernel
theorem dX10_lying_65 : decode cX10_lying 65 = .ok (.aload_n 0, 1) := by decide +kernel
theorem dX10_lying_66 : decode cX10_lying 66 = .ok (.iload_n 1, 1) := by decide +kernel
theorem dX10_lying_67 : decode cX10_lying 67 = .ok (.iload_n 2, 1) := by decide +kernel
theorem dX10_lying_68 : decode cX10_lying 68 = .ok (.invokevirtual 400, 3) := by decide +kernel
theorem dX10_lying_71 : decode cX10_lying 71 = .ok (.goto 9, 3) := by decide +kernel
theorem dX10_lying_74 : decode cX10_lying 74 = .ok (.aload_n 0, 1) := by decide +kernel
theorem dX10_lying_75 : decode cX10_lying 75 = .ok (.iload_n 1, 1) := by decide +kernel
theorem dX10_lying_76 : decode cX10_lying 76 = .ok (.iload_n 2, 1) := by decide +kernel
theorem dX10_lying_77 : decode cX10_lying 77 = .ok (.invokevirtual 394, 3) := by decide +kernel
theorem dX10_lying_80 : decode cX10_lying 80 = .ok (.ireturn, 1) := by decide +kernel
theorem dX10_plainReads_0 : decode cX10_plainReads 0 = .ok (.aload_n 0, 1) := by decide +kernel
theorem dX10_plainReads_1 : decode cX10_plainReads 1 = .ok (.bipush 10, 2) := by decide +kernel
theorem dX10_plainReads_3 : decode cX10_plainReads 3 = .ok (.invokevirtual 391, 3) := by decide +kernel
theorem dX10_plainReads_6 : decode cX10_plainReads 6 = .ok (.aload_n 0, 1) := by decide +kernel
theorem dX10_plainReads_7 : decode cX10_plainReads 7 = .ok (.iload_n 1, 1) := by decide +kernel
theorem dX10_plainReads_8 : decode cX10_plainReads 8 = .ok (.iload_n 2, 1) := by decide +kernel
theorem dX10_plainReads_9 : decode cX10_plainReads 9 = .ok (.invokevirtual 403, 3) := by decide +kernel
theorem dX10_plainReads_12 : decode cX10_plainReads 12 = .ok (.iconst 2, 1) := by decide +kernel
theorem dX10_plainReads_13 : decode cX10_plainReads 13 = .ok (.imul, 1) := by decide +kernel
theorem dX10_plainReads_14 : decode cX10_plainReads 14 = .ok (.ireturn, 1) := by decide +kernel
theorem dX10_thursdayReads_0 : decode cX10_thursdayReads 0 = .ok (.aload_n 0, 1) := by decide +kernel
theorem dX10_thursdayReads_1 : decode cX10_thursdayReads 1 = .ok (.bipush 30, 2) := by decide +kernel
theorem dX10_thursdayReads_3 : decode cX10_thursdayReads 3 = .ok (.invokevirtual 391, 3) := by decide +kernel
theorem dX10_thursdayReads_6 : decode cX10_thursdayReads 6 = .ok (.aload_n 0, 1) := by decide +kernel
theorem dX10_thursdayReads_7 : decode cX10_thursdayReads 7 = .ok (.iload_n 1, 1) := by decide +kernel
theorem dX10_thursdayReads_8 : decode cX10_thursdayReads 8 = .ok (.iload_n 2, 1) := by decide +kernel
theorem dX10_thursdayReads_9 : decode cX10_thursdayReads 9 = .ok (.invokevirtual 406, 3) := by decide +kernel
theorem dX10_thursdayReads_12 : decode cX10_thursdayReads 12 = .ok (.ineg, 1) := by decide +kernel
theorem dX10_thursdayReads_13 : decode cX10_thursdayReads 13 = .ok (.ireturn, 1) := by decide +kernel
theorem dX10_reading_0 : decode cX10_reading 0 = .ok (.aload_n 0, 1) := by decide +kernel
theorem dX10_reading_1 : decode cX10_reading 1 = .ok (.getfield 99, 3) := by decide +kernel
theorem dX10_reading_4 : decode cX10_reading 4 = .ok (.iload_n 1, 1) := by decide +kernel
theorem dX10_reading_5 : decode cX10_reading 5 = .ok (.iaload, 1) := by decide +kernel
theorem dX10_reading_6 : decode cX10_reading 6 = .ok (.iconst 3, 1) := by decide +kernel
theorem dX10_reading_7 : decode cX10_reading 7 = .ok (.invokestatic 397, 3) := by decide +kernel
theorem dX10_reading_10 : decode cX10_reading 10 = .ok (.ifCond .eq 18, 3) := by decide +kernel
theorem dX10_reading_13 : decode cX10_reading 13 = .ok (.aload_n 0, 1) := by decide +kernel
theorem dX10_reading_14 : decode cX10_reading 14 = .ok (.bipush 41, 2) := by decide +kernel
theorem dX10_reading_16 : decode cX10_reading 16 = .ok (.invokevirtual 391, 3) := by decide +kernel
theorem dX10_reading_19 : decode cX10_reading 19 = .ok (.aload_n 0, 1) := by decide +kernel
theorem dX10_reading_20 : decode cX10_reading 20 = .ok (.iload_n 1, 1) := by decide +kernel
theorem dX10_reading_21 : decode cX10_reading 21 = .ok (.iload_n 2, 1) := by decide +kernel
theorem dX10_reading_22 : decode cX10_reading 22 = .ok (.iconst 1, 1) := by decide +kernel
theorem dX10_reading_23 : decode cX10_reading 23 = .ok (.iadd, 1) := by decide +kernel
theorem dX10_reading_24 : decode cX10_reading 24 = .ok (.invokevirtual 409, 3) := by decide +kernel
theorem dX10_reading_27 : decode cX10_reading 27 = .ok (.ireturn, 1) := by decide +kernel
theorem dX10_reading_28 : decode cX10_reading 28 = .ok (.aload_n 0, 1) := by decide +kernel
theorem dX10_reading_29 : decode cX10_reading 29 = .ok (.getfield 99, 3) := by decide +kernel
theorem dX10_reading_32 : decode cX10_reading 32 = .ok (.iload_n 1, 1) := by decide +kernel
theorem dX10_reading_33 : decode cX10_reading 33 = .ok (.iaload, 1) := by decide +kernel
theorem dX10_reading_34 : decode cX10_reading 34 = .ok (.bipush 7, 2) := by decide +kernel
theorem dX10_reading_36 : decode cX10_reading 36 = .ok (.if_icmp .ne 25, 3) := by decide +kernel
theorem dX10_reading_39 : decode cX10_reading 39 = .ok (.aload_n 0, 1) := by decide +kernel
theorem dX10_reading_40 : decode cX10_reading 40 = .ok (.bipush 80, 2) := by decide +kernel
theorem dX10_reading_42 : decode cX10_reading 42 = .ok (.invokevirtual 391, 3) := by decide +kernel
theorem dX10_reading_45 : decode cX10_reading 45 = .ok (.aload_n 0, 1) := by decide +kernel
theorem dX10_reading_46 : decode cX10_reading 46 = .ok (.iload_n 1, 1) := by decide +kernel
theorem dX10_reading_47 : decode cX10_reading 47 = .ok (.iload_n 2, 1) := by decide +kernel
theorem dX10_reading_48 : decode cX10_reading 48 = .ok (.invokevirtual 406, 3) := by decide +kernel
theorem dX10_reading_51 : decode cX10_reading 51 = .ok (.istore_n 3, 1) := by decide +kernel
theorem dX10_reading_52 : decode cX10_reading 52 = .ok (.iload_n 3, 1) := by decide +kernel
theorem dX10_reading_53 : decode cX10_reading 53 = .ok (.aload_n 0, 1) := by decide +kernel
theorem dX10_reading_54 : decode cX10_reading 54 = .ok (.iload_n 1, 1) := by decide +kernel
theorem dX10_reading_55 : decode cX10_reading 55 = .ok (.iconst 2, 1) := by decide +kernel
theorem dX10_reading_56 : decode cX10_reading 56 = .ok (.invokevirtual 412, 3) := by decide +kernel
theorem dX10_reading_59 : decode cX10_reading 59 = .ok (.iadd, 1) := by decide +kernel
theorem dX10_reading_60 : decode cX10_reading 60 = .ok (.ireturn, 1) := by decide +kernel
theorem dX10_reading_61 : decode cX10_reading 61 = .ok (.aload_n 0, 1) := by decide +kernel
theorem dX10_reading_62 : decode cX10_reading 62 = .ok (.getfield 99, 3) := by decide +kernel
theorem dX10_reading_65 : decode cX10_reading 65 = .ok (.iload_n 1, 1) := by decide +kernel
theorem dX10_reading_66 : decode cX10_reading 66 = .ok (.iaload, 1) := by decide +kernel
theorem dX10_reading_67 : decode cX10_reading 67 = .ok (.iconst 2, 1) := by decide +kernel
theorem dX10_reading_68 : decode cX10_reading 68 = .ok (.if_icmp .ne 12, 3) := by decide +kernel
theorem dX10_reading_71 : decode cX10_reading 71 = .ok (.aload_n 0, 1) := by decide +kernel
theorem dX10_reading_72 : decode cX10_reading 72 = .ok (.iload_n 1, 1) := by decide +kernel
theorem dX10_reading_73 : decode cX10_reading 73 = .ok (.iload_n 2, 1) := by decide +kernel
theorem dX10_reading_74 : decode cX10_reading 74 = .ok (.invokevirtual 409, 3) := by decide +kernel
theorem dX10_reading_77 : decode cX10_reading 77 = .ok (.goto 9, 3) := by decide +kernel
theorem dX10_reading_80 : decode cX10_reading 80 = .ok (.aload_n 0, 1) := by decide +kernel
theorem dX10_reading_81 : decode cX10_reading 81 = .ok (.iload_n 1, 1) := by decide +kernel
theorem dX10_reading_82 : decode cX10_reading 82 = .ok (.iload_n 2, 1) := by decide +kernel
theorem dX10_reading_83 : decode cX10_reading 83 = .ok (.invokevirtual 406, 3) := by decide +kernel
theorem dX10_reading_86 : decode cX10_reading 86 = .ok (.ireturn, 1) := by decide +kernel
theorem dX10_plainFalls_0 : decode cX10_plainFalls 0 = .ok (.aload_n 0, 1) := by decide +kernel
theorem dX10_plainFalls_1 : decode cX10_plainFalls 1 = .ok (.bipush 11, 2) := by decide +kernel
theorem dX10_plainFalls_3 : decode cX10_plainFalls 3 = .ok (.invokevirtual 391, 3) := by decide +kernel
theorem dX10_plainFalls_6 : decode cX10_plainFalls 6 = .ok (.iload_n 2, 1) := by decide +kernel
theorem dX10_plainFalls_7 : decode cX10_plainFalls 7 = .ok (.iload_n 1, 1) := by decide +kernel
theorem dX10_plainFalls_8 : decode cX10_plainFalls 8 = .ok (.ixor, 1) := by decide +kernel
theorem dX10_plainFalls_9 : decode cX10_plainFalls 9 = .ok (.ireturn, 1) := by decide +kernel
theorem dX10_cornerFalls_0 : decode cX10_cornerFalls 0 = .ok (.aload_n 0, 1) := by decide +kernel
theorem dX10_cornerFalls_1 : decode cX10_cornerFalls 1 = .ok (.bipush 40, 2) := by decide +kernel
theorem dX10_cornerFalls_3 : decode cX10_cornerFalls 3 = .ok (.invokevirtual 391, 3) := by decide +kernel
theorem dX10_cornerFalls_6 : decode cX10_cornerFalls 6 = .ok (.aload_n 0, 1) := by decide +kernel
theorem dX10_cornerFalls_7 : decode cX10_cornerFalls 7 = .ok (.iload_n 1, 1) := by decide +kernel
theorem dX10_cornerFalls_8 : decode cX10_cornerFalls 8 = .ok (.iload_n 2, 1) := by decide +kernel
theorem dX10_cornerFalls_9 : decode cX10_cornerFalls 9 = .ok (.invokevirtual 415, 3) := by decide +kernel
theorem dX10_cornerFalls_12 : decode cX10_cornerFalls 12 = .ok (.iconst 3, 1) := by decide +kernel
theorem dX10_cornerFalls_13 : decode cX10_cornerFalls 13 = .ok (.imul, 1) := by decide +kernel
theorem dX10_cornerFalls_14 : decode cX10_cornerFalls 14 = .ok (.ireturn, 1) := by decide +kernel
theorem dX10_falling_0 : decode cX10_falling 0 = .ok (.aload_n 0, 1) := by decide +kernel
theorem dX10_falling_1 : decode cX10_falling 1 = .ok (.getfield 99, 3) := by decide +kernel
theorem dX10_falling_4 : decode cX10_falling 4 = .ok (.iload_n 1, 1) := by decide +kernel
theorem dX10_falling_5 : decode cX10_falling 5 = .ok (.iaload, 1) := by decide +kernel
theorem dX10_falling_6 : decode cX10_falling 6 = .ok (.iconst 5, 1) := by decide +kernel
theorem dX10_falling_7 : decode cX10_falling 7 = .ok (.if_icmp .ne 25, 3) := by decide +kernel
theorem dX10_falling_10 : decode cX10_falling 10 = .ok (.aload_n 0, 1) := by decide +kernel
theorem dX10_falling_11 : decode cX10_falling 11 = .ok (.bipush 60, 2) := by decide +kernel
theorem dX10_falling_13 : decode cX10_falling 13 = .ok (.invokevirtual 391, 3) := by decide +kernel
theorem dX10_falling_16 : decode cX10_falling 16 = .ok (.aload_n 0, 1) := by decide +kernel
theorem dX10_falling_17 : decode cX10_falling 17 = .ok (.iload_n 1, 1) := by decide +kernel
theorem dX10_falling_18 : decode cX10_falling 18 = .ok (.iload_n 2, 1) := by decide +kernel
theorem dX10_falling_19 : decode cX10_falling 19 = .ok (.invokevirtual 418, 3) := by decide +kernel
theorem dX10_falling_22 : decode cX10_falling 22 = .ok (.istore_n 3, 1) := by decide +kernel
theorem dX10_falling_23 : decode cX10_falling 23 = .ok (.iload_n 3, 1) := by decide +kernel
theorem dX10_falling_24 : decode cX10_falling 24 = .ok (.aload_n 0, 1) := by decide +kernel
theorem dX10_falling_25 : decode cX10_falling 25 = .ok (.iload_n 1, 1) := by decide +kernel
theorem dX10_falling_26 : decode cX10_falling 26 = .ok (.iconst 2, 1) := by decide +kernel
theorem dX10_falling_27 : decode cX10_falling 27 = .ok (.invokevirtual 403, 3) := by decide +kernel
theorem dX10_falling_30 : decode cX10_falling 30 = .ok (.isub, 1) := by decide +kernel
theorem dX10_falling_31 : decode cX10_falling 31 = .ok (.ireturn, 1) := by decide +kernel
theorem dX10_falling_32 : decode cX10_falling 32 = .ok (.aload_n 0, 1) := by decide +kernel
theorem dX10_falling_33 : decode cX10_falling 33 = .ok (.getfield 99, 3) := by decide +kernel
theorem dX10_falling_36 : decode cX10_falling 36 = .ok (.iload_n 1, 1) := by decide +kernel
theorem dX10_falling_37 : decode cX10_falling 37 = .ok (.iaload, 1) := by decide +kernel
theorem dX10_falling_38 : decode cX10_falling 38 = .ok (.iconst 3, 1) := by decide +kernel
theorem dX10_falling_39 : decode cX10_falling 39 = .ok (.if_icmp .ne 12, 3) := by decide +kernel
theorem dX10_falling_42 : decode cX10_falling 42 = .ok (.aload_n 0, 1) := by decide +kernel
theorem dX10_falling_43 : decode cX10_falling 43 = .ok (.iload_n 1, 1) := by decide +kernel
theorem dX10_falling_44 : decode cX10_falling 44 = .ok (.iload_n 2, 1) := by decide +kernel
theorem dX10_falling_45 : decode cX10_falling 45 = .ok (.invokevirtual 418, 3) := by decide +kernel
theorem dX10_falling_48 : decode cX10_falling 48 = .ok (.goto 9, 3) := by decide +kernel
theorem dX10_falling_51 : decode cX10_falling 51 = .ok (.aload_n 0, 1) := by decide +kernel
theorem dX10_falling_52 : decode cX10_falling 52 = .ok (.iload_n 1, 1) := by decide +kernel
theorem dX10_falling_53 : decode cX10_falling 53 = .ok (.iload_n 2, 1) := by decide +kernel
theorem dX10_falling_54 : decode cX10_falling 54 = .ok (.invokevirtual 415, 3) := by decide +kernel
theorem dX10_falling_57 : decode cX10_falling 57 = .ok (.ireturn, 1) := by decide +kernel
theorem dX10_plainTells_0 : decode cX10_plainTells 0 = .ok (.aload_n 0, 1) := by decide +kernel
theorem dX10_plainTells_1 : decode cX10_plainTells 1 = .ok (.iconst 2, 1) := by decide +kernel
theorem dX10_plainTells_2 : decode cX10_plainTells 2 = .ok (.invokevirtual 391, 3) := by decide +kernel
theorem dX10_plainTells_5 : decode cX10_plainTells 5 = .ok (.aload_n 0, 1) := by decide +kernel
theorem dX10_plainTells_6 : decode cX10_plainTells 6 = .ok (.iload_n 1, 1) := by decide +kernel
theorem dX10_plainTells_7 : decode cX10_plainTells 7 = .ok (.iload_n 2, 1) := by decide +kernel
theorem dX10_plainTells_8 : decode cX10_plainTells 8 = .ok (.invokevirtual 421, 3) := by decide +kernel
theorem dX10_plainTells_11 : decode cX10_plainTells 11 = .ok (.istore_n 3, 1) := by decide +kernel
theorem dX10_plainTells_12 : decode cX10_plainTells 12 = .ok (.iload_n 3, 1) := by decide +kernel
theorem dX10_plainTells_13 : decode cX10_plainTells 13 = .ok (.aload_n 0, 1) := by decide +kernel
theorem dX10_plainTells_14 : decode cX10_plainTells 14 = .ok (.iload_n 1, 1) := by decide +kernel
theorem dX10_plainTells_15 : decode cX10_plainTells 15 = .ok (.iconst 1, 1) := by decide +kernel
theorem dX10_plainTells_16 : decode cX10_plainTells 16 = .ok (.invokevirtual 412, 3) := by decide +kernel
theorem dX10_plainTells_19 : decode cX10_plainTells 19 = .ok (.isub, 1) := by decide +kernel
theorem dX10_plainTells_20 : decode cX10_plainTells 20 = .ok (.ireturn, 1) := by decide +kernel
theorem dX10_telling_0 : decode cX10_telling 0 = .ok (.aload_n 0, 1) := by decide +kernel
theorem dX10_telling_1 : decode cX10_telling 1 = .ok (.getfield 99, 3) := by decide +kernel
theorem dX10_telling_4 : decode cX10_telling 4 = .ok (.iload_n 1, 1) := by decide +kernel
theorem dX10_telling_5 : decode cX10_telling 5 = .ok (.iaload, 1) := by decide +kernel
theorem dX10_telling_6 : decode cX10_telling 6 = .ok (.iconst 4, 1) := by decide +kernel
theorem dX10_telling_7 : decode cX10_telling 7 = .ok (.if_icmp .ne 18, 3) := by decide +kernel
theorem dX10_telling_10 : decode cX10_telling 10 = .ok (.aload_n 0, 1) := by decide +kernel
theorem dX10_telling_11 : decode cX10_telling 11 = .ok (.bipush 50, 2) := by decide +kernel
theorem dX10_telling_13 : decode cX10_telling 13 = .ok (.invokevirtual 391, 3) := by decide +kernel
theorem dX10_telling_16 : decode cX10_telling 16 = .ok (.aload_n 0, 1) := by decide +kernel
theorem dX10_telling_17 : decode cX10_telling 17 = .ok (.iload_n 1, 1) := by decide +kernel
theorem dX10_telling_18 : decode cX10_telling 18 = .ok (.iload_n 2, 1) := by decide +kernel
theorem dX10_telling_19 : decode cX10_telling 19 = .ok (.invokevirtual 424, 3) := by decide +kernel
theorem dX10_telling_22 : decode cX10_telling 22 = .ok (.iconst 5, 1) := by decide +kernel
theorem dX10_telling_23 : decode cX10_telling 23 = .ok (.ixor, 1) := by decide +kernel
theorem dX10_telling_24 : decode cX10_telling 24 = .ok (.ireturn, 1) := by decide +kernel
theorem dX10_telling_25 : decode cX10_telling 25 = .ok (.aload_n 0, 1) := by decide +kernel
theorem dX10_telling_26 : decode cX10_telling 26 = .ok (.getfield 99, 3) := by decide +kernel
theorem dX10_telling_29 : decode cX10_telling 29 = .ok (.iload_n 1, 1) := by decide +kernel
theorem dX10_telling_30 : decode cX10_telling 30 = .ok (.iaload, 1) := by decide +kernel
theorem dX10_telling_31 : decode cX10_telling 31 = .ok (.iconst 5, 1) := by decide +kernel
theorem dX10_telling_32 : decode cX10_telling 32 = .ok (.if_icmp .ne 18, 3) := by decide +kernel
theorem dX10_telling_35 : decode cX10_telling 35 = .ok (.aload_n 0, 1) := by decide +kernel
theorem dX10_telling_36 : decode cX10_telling 36 = .ok (.bipush 61, 2) := by decide +kernel
theorem dX10_telling_38 : decode cX10_telling 38 = .ok (.invokevirtual 391, 3) := by decide +kernel
theorem dX10_telling_41 : decode cX10_telling 41 = .ok (.aload_n 0, 1) := by decide +kernel
theorem dX10_telling_42 : decode cX10_telling 42 = .ok (.iload_n 1, 1) := by decide +kernel
theorem dX10_telling_43 : decode cX10_telling 43 = .ok (.iload_n 2, 1) := by decide +kernel
theorem dX10_telling_44 : decode cX10_telling 44 = .ok (.invokevirtual 424, 3) := by decide +kernel
theorem dX10_telling_47 : decode cX10_telling 47 = .ok (.iconst 1, 1) := by decide +kernel
theorem dX10_telling_48 : decode cX10_telling 48 = .ok (.iadd, 1) := by decide +kernel
theorem dX10_telling_49 : decode cX10_telling 49 = .ok (.ireturn, 1) := by decide +kernel
theorem dX10_telling_50 : decode cX10_telling 50 = .ok (.aload_n 0, 1) := by decide +kernel
theorem dX10_telling_51 : decode cX10_telling 51 = .ok (.iload_n 1, 1) := by decide +kernel
theorem dX10_telling_52 : decode cX10_telling 52 = .ok (.iload_n 2, 1) := by decide +kernel
theorem dX10_telling_53 : decode cX10_telling 53 = .ok (.invokevirtual 424, 3) := by decide +kernel
theorem dX10_telling_56 : decode cX10_telling 56 = .ok (.ireturn, 1) := by decide +kernel
theorem dX10_act_0 : decode cX10_act 0 = .ok (.aload_n 0, 1) := by decide +kernel
theorem dX10_act_1 : decode cX10_act 1 = .ok (.iconst 0, 1) := by decide +kernel
theorem dX10_act_2 : decode cX10_act 2 = .ok (.putfield 388, 3) := by decide +kernel
theorem dX10_act_5 : decode cX10_act 5 = .ok (.aload_n 0, 1) := by decide +kernel
theorem dX10_act_6 : decode cX10_act 6 = .ok (.iload_n 1, 1) := by decide +kernel
theorem dX10_act_7 : decode cX10_act 7 = .ok (.invokevirtual 427, 3) := by decide +kernel
theorem dX10_act_10 : decode cX10_act 10 = .ok (.ifCond .eq 12, 3) := by decide +kernel
theorem dX10_act_13 : decode cX10_act 13 = .ok (.iload_n 2, 1) := by decide +kernel
theorem dX10_act_14 : decode cX10_act 14 = .ok (.iconst 0, 1) := by decide +kernel
theorem dX10_act_15 : decode cX10_act 15 = .ok (.iconst 3, 1) := by decide +kernel
theorem dX10_act_16 : decode cX10_act 16 = .ok (.invokestatic 124, 3) := by decide +kernel
theorem dX10_act_19 : decode cX10_act 19 = .ok (.ifCond .ne 5, 3) := by decide +kernel
theorem dX10_act_22 : decode cX10_act 22 = .ok (.iconst 0, 1) := by decide +kernel
theorem dX10_act_23 : decode cX10_act 23 = .ok (.ireturn, 1) := by decide +kernel
theorem dX10_act_24 : decode cX10_act 24 = .ok (.iload_n 2, 1) := by decide +kernel
theorem dX10_act_25 : decode cX10_act 25 = .ok (.ifCond .ne 12, 3) := by decide +kernel
theorem dX10_act_28 : decode cX10_act 28 = .ok (.aload_n 0, 1) := by decide +kernel
theorem dX10_act_29 : decode cX10_act 29 = .ok (.iload_n 1, 1) := by decide +kernel
theorem dX10_act_30 : decode cX10_act 30 = .ok (.iload_n 3, 1) := by decide +kernel
theorem dX10_act_31 : decode cX10_act 31 = .ok (.invokevirtual 403, 3) := by decide +kernel
theorem dX10_act_34 : decode cX10_act 34 = .ok (.goto 37, 3) := by decide +kernel
theorem dX10_act_37 : decode cX10_act 37 = .ok (.iload_n 2, 1) := by decide +kernel
theorem dX10_act_38 : decode cX10_act 38 = .ok (.iconst 1, 1) := by decide +kernel
theorem dX10_act_39 : decode cX10_act 39 = .ok (.if_icmp .ne 12, 3) := by decide +kernel
theorem dX10_act_42 : decode cX10_act 42 = .ok (.aload_n 0, 1) := by decide +kernel
theorem dX10_act_43 : decode cX10_act 43 = .ok (.iload_n 1, 1) := by decide +kernel
theorem dX10_act_44 : decode cX10_act 44 = .ok (.iload_n 3, 1) := by decide +kernel
theorem dX10_act_45 : decode cX10_act 45 = .ok (.invokevirtual 421, 3) := by decide +kernel
theorem dX10_act_48 : decode cX10_act 48 = .ok (.goto 23, 3) := by decide +kernel
theorem dX10_act_51 : decode cX10_act 51 = .ok (.iload_n 2, 1) := by decide +kernel
theorem dX10_act_52 : decode cX10_act 52 = .ok (.iconst 2, 1) := by decide +kernel
theorem dX10_act_53 : decode cX10_act 53 = .ok (.if_icmp .ne 12, 3) := by decide +kernel
theorem dX10_act_56 : decode cX10_act 56 = .ok (.aload_n 0, 1) := by decide +kernel
theorem dX10_act_57 : decode cX10_act 57 = .ok (.iload_n 1, 1) := by decide +kernel
theorem dX10_act_58 : decode cX10_act 58 = .ok (.iload_n 3, 1) := by decide +kernel
theorem dX10_act_59 : decode cX10_act 59 = .ok (.invokevirtual 412, 3) := by decide +kernel
theorem dX10_act_62 : decode cX10_act 62 = .ok (.goto 9, 3) := by decide +kernel
theorem dX10_act_65 : decode cX10_act 65 = .ok (.aload_n 0, 1) := by decide +kernel
theorem dX10_act_66 : decode cX10_act 66 = .ok (.iload_n 1, 1) := by decide +kernel
theorem dX10_act_67 : decode cX10_act 67 = .ok (.iload_n 3, 1) := by decide +kernel
theorem dX10_act_68 : decode cX10_act 68 = .ok (.invokevirtual 430, 3) := by decide +kernel
theorem dX10_act_71 : decode cX10_act 71 = .ok (.ireturn, 1) := by decide +kernel
theorem dX10_count_0 : decode cX10_count 0 = .ok (.iload_n 1, 1) := by decide +kernel
theorem dX10_count_1 : decode cX10_count 1 = .ok (.tableswitch 60 0 4 #[35, 40, 45, 50, 55], 35) := by decide +kernel
theorem dX10_count_36 : decode cX10_count 36 = .ok (.aload_n 0, 1) := by decide +kernel
theorem dX10_count_37 : decode cX10_count 37 = .ok (.getfield 121, 3) := by decide +kernel
theorem dX10_count_40 : decode cX10_count 40 = .ok (.ireturn, 1) := by decide +kernel
theorem dX10_count_41 : decode cX10_count 41 = .ok (.aload_n 0, 1) := by decide +kernel
theorem dX10_count_42 : decode cX10_count 42 = .ok (.getfield 180, 3) := by decide +kernel
theorem dX10_count_45 : decode cX10_count 45 = .ok (.ireturn, 1) := by decide +kernel
theorem dX10_count_46 : decode cX10_count 46 = .ok (.aload_n 0, 1) := by decide +kernel
theorem dX10_count_47 : decode cX10_count 47 = .ok (.getfield 145, 3) := by decide +kernel
theorem dX10_count_50 : decode cX10_count 50 = .ok (.ireturn, 1) := by decide +kernel
theorem dX10_count_51 : decode cX10_count 51 = .ok (.aload_n 0, 1) := by decide +kernel
theorem dX10_count_52 : decode cX10_count 52 = .ok (.getfield 385, 3) := by decide +kernel
theorem dX10_count_55 : decode cX10_count 55 = .ok (.ireturn, 1) := by decide +kernel
theorem dX10_count_56 : decode cX10_count 56 = .ok (.aload_n 0, 1) := by decide +kernel
theorem dX10_count_57 : decode cX10_count 57 = .ok (.getfield 388, 3) := by decide +kernel
theorem dX10_count_60 : decode cX10_count 60 = .ok (.ireturn, 1) := by decide +kernel
theorem dX10_count_61 : decode cX10_count 61 = .ok (.iconst (-1), 1) := by decide +kernel
theorem dX10_count_62 : decode cX10_count 62 = .ok (.ireturn, 1) := by decide +kernel
theorem dX10_isShelf_0 : decode cX10_isShelf 0 = .ok (.iload_n 0, 1) := by decide +kernel
theorem dX10_isShelf_1 : decode cX10_isShelf 1 = .ok (.iconst 0, 1) := by decide +kernel
theorem dX10_isShelf_2 : decode cX10_isShelf 2 = .ok (.iconst 5, 1) := by decide +kernel
theorem dX10_isShelf_3 : decode cX10_isShelf 3 = .ok (.invokestatic 124, 3) := by decide +kernel
theorem dX10_isShelf_6 : decode cX10_isShelf 6 = .ok (.ireturn, 1) := by decide +kernel
theorem dX10_keep_0 : decode cX10_keep 0 = .ok (.iload_n 1, 1) := by decide +kernel
theorem dX10_keep_1 : decode cX10_keep 1 = .ok (.invokestatic 132, 3) := by decide +kernel
theorem dX10_keep_4 : decode cX10_keep 4 = .ok (.ifCond .eq 16, 3) := by decide +kernel
theorem dX10_keep_7 : decode cX10_keep 7 = .ok (.iload_n 2, 1) := by decide +kernel
theorem dX10_keep_8 : decode cX10_keep 8 = .ok (.iconst (-1), 1) := by decide +kernel
theorem dX10_keep_9 : decode cX10_keep 9 = .ok (.if_icmp .eq 13, 3) := by decide +kernel
theorem dX10_keep_12 : decode cX10_keep 12 = .ok (.aload_n 0, 1) := by decide +kernel
theorem dX10_keep_13 : decode cX10_keep 13 = .ok (.iload_n 2, 1) := by decide +kernel
theorem dX10_keep_14 : decode cX10_keep 14 = .ok (.invokevirtual 427, 3) := by decide +kernel
theorem dX10_keep_17 : decode cX10_keep 17 = .ok (.ifCond .ne 5, 3) := by decide +kernel
theorem dX10_keep_20 : decode cX10_keep 20 = .ok (.iconst (-1), 1) := by decide +kernel
theorem dX10_keep_21 : decode cX10_keep 21 = .ok (.ireturn, 1) := by decide +kernel
theorem dX10_keep_22 : decode cX10_keep 22 = .ok (.aload_n 0, 1) := by decide +kernel
theorem dX10_keep_23 : decode cX10_keep 23 = .ok (.getfield 105, 3) := by decide +kernel
theorem dX10_keep_26 : decode cX10_keep 26 = .ok (.iload_n 1, 1) := by decide +kernel
theorem dX10_keep_27 : decode cX10_keep 27 = .ok (.iload_n 2, 1) := by decide +kernel
theorem dX10_keep_28 : decode cX10_keep 28 = .ok (.iastore, 1) := by decide +kernel
theorem dX10_keep_29 : decode cX10_keep 29 = .ok (.iconst 1, 1) := by decide +kernel
theorem dX10_keep_30 : decode cX10_keep 30 = .ok (.ireturn, 1) := by decide +kernel
theorem dX10_row_0 : decode cX10_row 0 = .ok (.iload_n 1, 1) := by decide +kernel
theorem dX10_row_1 : decode cX10_row 1 = .ok (.invokestatic 132, 3) := by decide +kernel
theorem dX10_row_4 : decode cX10_row 4 = .ok (.ifCond .eq 18, 3) := by decide +kernel
theorem dX10_row_7 : decode cX10_row 7 = .ok (.iload_n 2, 1) := by decide +kernel
theorem dX10_row_8 : decode cX10_row 8 = .ok (.iconst 0, 1) := by decide +kernel
theorem dX10_row_9 : decode cX10_row 9 = .ok (.iconst 4, 1) := by decide +kernel
theorem dX10_row_10 : decode cX10_row 10 = .ok (.invokestatic 124, 3) := by decide +kernel
theorem dX10_row_13 : decode cX10_row 13 = .ok (.ifCond .eq 9, 3) := by decide +kernel
theorem dX10_row_16 : decode cX10_row 16 = .ok (.iload_n 3, 1) := by decide +kernel
theorem dX10_row_17 : decode cX10_row 17 = .ok (.bipush 60, 2) := by decide +kernel
theorem dX10_row_19 : decode cX10_row 19 = .ok (.if_icmp .le 5, 3) := by decide +kernel
theorem dX10_row_22 : decode cX10_row 22 = .ok (.iconst (-1), 1) := by decide +kernel
theorem dX10_row_23 : decode cX10_row 23 = .ok (.ireturn, 1) := by decide +kernel
theorem dX10_row_24 : decode cX10_row 24 = .ok (.iload_n 3, 1) := by decide +kernel
theorem dX10_row_25 : decode cX10_row 25 = .ok (.ifCond .ge 6, 3) := by decide +kernel
theorem dX10_row_28 : decode cX10_row 28 = .ok (.bipush (-14), 2) := by decide +kernel
theorem dX10_row_30 : decode cX10_row 30 = .ok (.ireturn, 1) := by decide +kernel
theorem dX10_row_31 : decode cX10_row 31 = .ok (.aload_n 0, 1) := by decide +kernel
theorem dX10_row_32 : decode cX10_row 32 = .ok (.getfield 105, 3) := by decide +kernel
theorem dX10_row_35 : decode cX10_row 35 = .ok (.iload_n 1, 1) := by decide +kernel
theorem dX10_row_36 : decode cX10_row 36 = .ok (.bipush (-2), 2) := by decide +kernel
theorem dX10_row_38 : decode cX10_row 38 = .ok (.iload_n 2, 1) := by decide +kernel
theorem dX10_row_39 : decode cX10_row 39 = .ok (.isub, 1) := by decide +kernel
theorem dX10_row_40 : decode cX10_row 40 = .ok (.iastore, 1) := by decide +kernel
theorem dX10_row_41 : decode cX10_row 41 = .ok (.aload_n 0, 1) := by decide +kernel
theorem dX10_row_42 : decode cX10_row 42 = .ok (.getfield 108, 3) := by decide +kernel
theorem dX10_row_45 : decode cX10_row 45 = .ok (.iload_n 1, 1) := by decide +kernel
theorem dX10_row_46 : decode cX10_row 46 = .ok (.iload_n 3, 1) := by decide +kernel
theorem dX10_row_47 : decode cX10_row 47 = .ok (.iastore, 1) := by decide +kernel
theorem dX10_row_48 : decode cX10_row 48 = .ok (.bipush 60, 2) := by decide +kernel
theorem dX10_row_50 : decode cX10_row 50 = .ok (.iload_n 1, 1) := by decide +kernel
theorem dX10_row_51 : decode cX10_row 51 = .ok (.imul, 1) := by decide +kernel
theorem dX10_row_52 : decode cX10_row 52 = .ok (.istore 4, 2) := by decide +kernel
theorem dX10_row_54 : decode cX10_row 54 = .ok (.iload 4, 2) := by decide +kernel
theorem dX10_row_56 : decode cX10_row 56 = .ok (.bipush 60, 2) := by decide +kernel
theorem dX10_row_58 : decode cX10_row 58 = .ok (.iload_n 1, 1) := by decide +kernel
theorem dX10_row_59 : decode cX10_row 59 = .ok (.imul, 1) := by decide +kernel
theorem dX10_row_60 : decode cX10_row 60 = .ok (.bipush 60, 2) := by decide +kernel
theorem dX10_row_62 : decode cX10_row 62 = .ok (.iadd, 1) := by decide +kernel
theorem dX10_row_63 : decode cX10_row 63 = .ok (.if_icmp .ge 17, 3) := by decide +kernel
theorem dX10_row_66 : decode cX10_row 66 = .ok (.aload_n 0, 1) := by decide +kernel
theorem dX10_row_67 : decode cX10_row 67 = .ok (.getfield 111, 3) := by decide +kernel
theorem dX10_row_70 : decode cX10_row 70 = .ok (.iload 4, 2) := by decide +kernel
theorem dX10_row_72 : decode cX10_row 72 = .ok (.lconst 0, 1) := by decide +kernel
theorem dX10_row_73 : decode cX10_row 73 = .ok (.lastore, 1) := by decide +kernel
theorem dX10_row_74 : decode cX10_row 74 = .ok (.iinc 4 1, 3) := by decide +kernel
theorem dX10_row_77 : decode cX10_row 77 = .ok (.goto (-23), 3) := by decide +kernel
theorem dX10_row_80 : decode cX10_row 80 = .ok (.iconst 1, 1) := by decide +kernel
theorem dX10_row_81 : decode cX10_row 81 = .ok (.ireturn, 1) := by decide +kernel
theorem dX10_whyNoPlace_0 : decode cX10_whyNoPlace 0 = .ok (.iload_n 1, 1) := by decide +kernel
theorem dX10_whyNoPlace_1 : decode cX10_whyNoPlace 1 = .ok (.invokestatic 132, 3) := by decide +kernel
theorem dX10_whyNoPlace_4 : decode cX10_whyNoPlace 4 = .ok (.ifCond .ne 5, 3) := by decide +kernel
theorem dX10_whyNoPlace_7 : decode cX10_whyNoPlace 7 = .ok (.iconst (-1), 1) := by decide +kernel
theorem dX10_whyNoPlace_8 : decode cX10_whyNoPlace 8 = .ok (.ireturn, 1) := by decide +kernel
theorem dX10_whyNoPlace_9 : decode cX10_whyNoPlace 9 = .ok (.aload_n 0, 1) := by decide +kernel
theorem dX10_whyNoPlace_10 : decode cX10_whyNoPlace 10 = .ok (.getfield 105, 3) := by decide +kernel
theorem dX10_whyNoPlace_13 : decode cX10_whyNoPlace 13 = .ok (.iload_n 1, 1) := by decide +kernel
theorem dX10_whyNoPlace_14 : decode cX10_whyNoPlace 14 = .ok (.iaload, 1) := by decide +kernel
theorem dX10_whyNoPlace_15 : decode cX10_whyNoPlace 15 = .ok (.iconst (-1), 1) := by decide +kernel
theorem dX10_whyNoPlace_16 : decode cX10_whyNoPlace 16 = .ok (.if_icmp .ne 6, 3) := by decide +kernel
theorem dX10_whyNoPlace_19 : decode cX10_whyNoPlace 19 = .ok (.bipush (-11), 2) := by decide +kernel
theorem dX10_whyNoPlace_21 : decode cX10_whyNoPlace 21 = .ok (.ireturn, 1) := by decide +kernel
theorem dX10_whyNoPlace_22 : decode cX10_whyNoPlace 22 = .ok (.aload_n 0, 1) := by decide +kernel
theorem dX10_whyNoPlace_23 : decode cX10_whyNoPlace 23 = .ok (.getfield 105, 3) := by decide +kernel
theorem dX10_whyNoPlace_26 : decode cX10_whyNoPlace 26 = .ok (.iload_n 1, 1) := by decide +kernel
theorem dX10_whyNoPlace_27 : decode cX10_whyNoPlace 27 = .ok (.iaload, 1) := by decide +kernel
theorem dX10_whyNoPlace_28 : decode cX10_whyNoPlace 28 = .ok (.ifCond .lt 6, 3) := by decide +kernel
theorem dX10_whyNoPlace_31 : decode cX10_whyNoPlace 31 = .ok (.bipush (-12), 2) := by decide +kernel
theorem dX10_whyNoPlace_33 : decode cX10_whyNoPlace 33 = .ok (.ireturn, 1) := by decide +kernel
theorem dX10_whyNoPlace_34 : decode cX10_whyNoPlace 34 = .ok (.iload_n 2, 1) := by decide +kernel
theorem dX10_whyNoPlace_35 : decode cX10_whyNoPlace 35 = .ok (.iconst 0, 1) := by decide +kernel
theorem dX10_whyNoPlace_36 : decode cX10_whyNoPlace 36 = .ok (.aload_n 0, 1) := by decide +kernel
theorem dX10_whyNoPlace_37 : decode cX10_whyNoPlace 37 = .ok (.getfield 108, 3) := by decide +kernel
theorem dX10_whyNoPlace_40 : decode cX10_whyNoPlace 40 = .ok (.iload_n 1, 1) := by decide +kernel
theorem dX10_whyNoPlace_41 : decode cX10_whyNoPlace 41 = .ok (.iaload, 1) := by decide +kernel
theorem dX10_whyNoPlace_42 : decode cX10_whyNoPlace 42 = .ok (.iconst 1, 1) := by decide +kernel
theorem dX10_whyNoPlace_43 : decode cX10_whyNoPlace 43 = .ok (.isub, 1) := by decide +kernel
theorem dX10_whyNoPlace_44 : decode cX10_whyNoPlace 44 = .ok (.invokestatic 124, 3) := by decide +kernel
theorem dX10_whyNoPlace_47 : decode cX10_whyNoPlace 47 = .ok (.ifCond .eq 7, 3) := by decide +kernel
theorem dX10_whyNoPlace_50 : decode cX10_whyNoPlace 50 = .ok (.iconst 0, 1) := by decide +kernel
theorem dX10_whyNoPlace_51 : decode cX10_whyNoPlace 51 = .ok (.goto 5, 3) := by decide +kernel
theorem dX10_whyNoPlace_54 : decode cX10_whyNoPlace 54 = .ok (.bipush (-13), 2) := by decide +kernel
theorem dX10_whyNoPlace_56 : decode cX10_whyNoPlace 56 = .ok (.ireturn, 1) := by decide +kernel
theorem dX10_put_0 : decode cX10_put 0 = .ok (.aload_n 0, 1) := by decide +kernel
theorem dX10_put_1 : decode cX10_put 1 = .ok (.iload_n 1, 1) := by decide +kernel
theorem dX10_put_2 : decode cX10_put 2 = .ok (.iload_n 2, 1) := by decide +kernel
theorem dX10_put_3 : decode cX10_put 3 = .ok (.invokevirtual 433, 3) := by decide +kernel
theorem dX10_put_6 : decode cX10_put 6 = .ok (.istore 5, 2) := by decide +kernel
theorem dX10_put_8 : decode cX10_put 8 = .ok (.iload 5, 2) := by decide +kernel
theorem dX10_put_10 : decode cX10_put 10 = .ok (.ifCond .ge 6, 3) := by decide +kernel
theorem dX10_put_13 : decode cX10_put 13 = .ok (.iload 5, 2) := by decide +kernel
theorem dX10_put_15 : decode cX10_put 15 = .ok (.ireturn, 1) := by decide +kernel
theorem dX10_put_16 : decode cX10_put 16 = .ok (.bipush (-2), 2) := by decide +kernel
theorem dX10_put_18 : decode cX10_put 18 = .ok (.aload_n 0, 1) := by decide +kernel
theorem dX10_put_19 : decode cX10_put 19 = .ok (.getfield 105, 3) := by decide +kernel
theorem dX10_put_22 : decode cX10_put 22 = .ok (.iload_n 1, 1) := by decide +kernel
theorem dX10_put_23 : decode cX10_put 23 = .ok (.iaload, 1) := by decide +kernel
theorem dX10_put_24 : decode cX10_put 24 = .ok (.isub, 1) := by decide +kernel
theorem dX10_put_25 : decode cX10_put 25 = .ok (.istore 6, 2) := by decide +kernel
theorem dX10_put_27 : decode cX10_put 27 = .ok (.aload_n 0, 1) := by decide +kernel
theorem dX10_put_28 : decode cX10_put 28 = .ok (.getfield 111, 3) := by decide +kernel
theorem dX10_put_31 : decode cX10_put 31 = .ok (.bipush 60, 2) := by decide +kernel
theorem dX10_put_33 : decode cX10_put 33 = .ok (.iload_n 1, 1) := by decide +kernel
theorem dX10_put_34 : decode cX10_put 34 = .ok (.imul, 1) := by decide +kernel
theorem dX10_put_35 : decode cX10_put 35 = .ok (.iload_n 2, 1) := by decide +kernel
theorem dX10_put_36 : decode cX10_put 36 = .ok (.iadd, 1) := by decide +kernel
theorem dX10_put_37 : decode cX10_put 37 = .ok (.iload 6, 2) := by decide +kernel
theorem dX10_put_39 : decode cX10_put 39 = .ok (.ifCond .ne 10, 3) := by decide +kernel
theorem dX10_put_42 : decode cX10_put 42 = .ok (.lload_n 3, 1) := by decide +kernel
theorem dX10_put_43 : decode cX10_put 43 = .ok (.l2i, 1) := by decide +kernel
theorem dX10_put_44 : decode cX10_put 44 = .ok (.i2b, 1) := by decide +kernel
theorem dX10_put_45 : decode cX10_put 45 = .ok (.i2l, 1) := by decide +kernel
theorem dX10_put_46 : decode cX10_put 46 = .ok (.goto 49, 3) := by decide +kernel
theorem dX10_put_49 : decode cX10_put 49 = .ok (.iload 6, 2) := by decide +kernel
theorem dX10_put_51 : decode cX10_put 51 = .ok (.iconst 1, 1) := by decide +kernel
theorem dX10_put_52 : decode cX10_put 52 = .ok (.if_icmp .ne 10, 3) := by decide +kernel
theorem dX10_put_55 : decode cX10_put 55 = .ok (.lload_n 3, 1) := by decide +kernel
theorem dX10_put_56 : decode cX10_put 56 = .ok (.l2i, 1) := by decide +kernel
theorem dX10_put_57 : decode cX10_put 57 = .ok (.i2s, 1) := by decide +kernel
theorem dX10_put_58 : decode cX10_put 58 = .ok (.i2l, 1) := by decide +kernel
theorem dX10_put_59 : decode cX10_put 59 = .ok (.goto 36, 3) := by decide +kernel
theorem dX10_put_62 : decode cX10_put 62 = .ok (.iload 6, 2) := by decide +kernel
theorem dX10_put_64 : decode cX10_put 64 = .ok (.iconst 2, 1) := by decide +kernel
theorem dX10_put_65 : decode cX10_put 65 = .ok (.if_icmp .ne 9, 3) := by decide +kernel
theorem dX10_put_68 : decode cX10_put 68 = .ok (.lload_n 3, 1) := by decide +kernel
theorem dX10_put_69 : decode cX10_put 69 = .ok (.l2i, 1) := by decide +kernel
theorem dX10_put_70 : decode cX10_put 70 = .ok (.i2l, 1) := by decide +kernel
theorem dX10_put_71 : decode cX10_put 71 = .ok (.goto 24, 3) := by decide +kernel
theorem dX10_put_74 : decode cX10_put 74 = .ok (.iload 6, 2) := by decide +kernel
theorem dX10_put_76 : decode cX10_put 76 = .ok (.iconst 3, 1) := by decide +kernel
theorem dX10_put_77 : decode cX10_put 77 = .ok (.if_icmp .ne 7, 3) := by decide +kernel
theorem dX10_put_80 : decode cX10_put 80 = .ok (.lload_n 3, 1) := by decide +kernel
theorem dX10_put_81 : decode cX10_put 81 = .ok (.goto 14, 3) := by decide +kernel
theorem dX10_put_84 : decode cX10_put 84 = .ok (.lload_n 3, 1) := by decide +kernel
theorem dX10_put_85 : decode cX10_put 85 = .ok (.lconst 0, 1) := by decide +kernel
theorem dX10_put_86 : decode cX10_put 86 = .ok (.lcmp, 1) := by decide +kernel
theorem dX10_put_87 : decode cX10_put 87 = .ok (.ifCond .eq 7, 3) := by decide +kernel
theorem dX10_put_90 : decode cX10_put 90 = .ok (.lconst 1, 1) := by decide +kernel
theorem dX10_put_91 : decode cX10_put 91 = .ok (.goto 4, 3) := by decide +kernel
theorem dX10_put_94 : decode cX10_put 94 = .ok (.lconst 0, 1) := by decide +kernel
theorem dX10_put_95 : decode cX10_put 95 = .ok (.lastore, 1) := by decide +kernel
theorem dX10_put_96 : decode cX10_put 96 = .ok (.iconst 1, 1) := by decide +kernel
theorem dX10_put_97 : decode cX10_put 97 = .ok (.ireturn, 1) := by decide +kernel
theorem dX10_element_0 : decode cX10_element 0 = .ok (.aload_n 0, 1) := by decide +kernel
theorem dX10_element_1 : decode cX10_element 1 = .ok (.iload_n 1, 1) := by decide +kernel
theorem dX10_element_2 : decode cX10_element 2 = .ok (.iload_n 2, 1) := by decide +kernel
theorem dX10_element_3 : decode cX10_element 3 = .ok (.invokevirtual 433, 3) := by decide +kernel
theorem dX10_element_6 : decode cX10_element 6 = .ok (.ifCond .ge 9, 3) := by decide +kernel
theorem dX10_element_9 : decode cX10_element 9 = .ok (.ldc2_w 350, 3) := by decide +kernel
theorem dX10_element_12 : decode cX10_element 12 = .ok (.goto 14, 3) := by decide +kernel
theorem dX10_element_15 : decode cX10_element 15 = .ok (.aload_n 0, 1) := by decide +kernel
theorem dX10_element_16 : decode cX10_element 16 = .ok (.getfield 111, 3) := by decide +kernel
theorem dX10_element_19 : decode cX10_element 19 = .ok (.bipush 60, 2) := by decide +kernel
theorem dX10_element_21 : decode cX10_element 21 = .ok (.iload_n 1, 1) := by decide +kernel
theorem dX10_element_22 : decode cX10_element 22 = .ok (.imul, 1) := by decide +kernel
theorem dX10_element_23 : decode cX10_element 23 = .ok (.iload_n 2, 1) := by decide +kernel
theorem dX10_element_24 : decode cX10_element 24 = .ok (.iadd, 1) := by decide +kernel
theorem dX10_element_25 : decode cX10_element 25 = .ok (.laload, 1) := by decide +kernel
theorem dX10_element_26 : decode cX10_element 26 = .ok (.lreturn, 1) := by decide +kernel
theorem dX10_shift_0 : decode cX10_shift 0 = .ok (.iload_n 1, 1) := by decide +kernel
theorem dX10_shift_1 : decode cX10_shift 1 = .ok (.invokestatic 132, 3) := by decide +kernel
theorem dX10_shift_4 : decode cX10_shift 4 = .ok (.ifCond .eq 10, 3) := by decide +kernel
theorem dX10_shift_7 : decode cX10_shift 7 = .ok (.iload_n 3, 1) := by decide +kernel
theorem dX10_shift_8 : decode cX10_shift 8 = .ok (.invokestatic 132, 3) := by decide +kernel
theorem dX10_shift_11 : decode cX10_shift 11 = .ok (.ifCond .ne 5, 3) := by decide +kernel
theorem dX10_shift_14 : decode cX10_shift 14 = .ok (.iconst (-1), 1) := by decide +kernel
theorem dX10_shift_15 : decode cX10_shift 15 = .ok (.ireturn, 1) := by decide +kernel
theorem dX10_shift_16 : decode cX10_shift 16 = .ok (.aload_n 0, 1) := by decide +kernel
theorem dX10_shift_17 : decode cX10_shift 17 = .ok (.getfield 105, 3) := by decide +kernel
theorem dX10_shift_20 : decode cX10_shift 20 = .ok (.iload_n 1, 1) := by decide +kernel
theorem dX10_shift_21 : decode cX10_shift 21 = .ok (.iaload, 1) := by decide +kernel
theorem dX10_shift_22 : decode cX10_shift 22 = .ok (.iconst (-1), 1) := by decide +kernel
theorem dX10_shift_23 : decode cX10_shift 23 = .ok (.if_icmp .eq 13, 3) := by decide +kernel
theorem dX10_shift_26 : decode cX10_shift 26 = .ok (.aload_n 0, 1) := by decide +kernel
theorem dX10_shift_27 : decode cX10_shift 27 = .ok (.getfield 105, 3) := by decide +kernel
theorem dX10_shift_30 : decode cX10_shift 30 = .ok (.iload_n 3, 1) := by decide +kernel
theorem dX10_shift_31 : decode cX10_shift 31 = .ok (.iaload, 1) := by decide +kernel
theorem dX10_shift_32 : decode cX10_shift 32 = .ok (.iconst (-1), 1) := by decide +kernel
theorem dX10_shift_33 : decode cX10_shift 33 = .ok (.if_icmp .ne 6, 3) := by decide +kernel
theorem dX10_shift_36 : decode cX10_shift 36 = .ok (.bipush (-11), 2) := by decide +kernel
theorem dX10_shift_38 : decode cX10_shift 38 = .ok (.ireturn, 1) := by decide +kernel
theorem dX10_shift_39 : decode cX10_shift 39 = .ok (.aload_n 0, 1) := by decide +kernel
theorem dX10_shift_40 : decode cX10_shift 40 = .ok (.getfield 105, 3) := by decide +kernel
theorem dX10_shift_43 : decode cX10_shift 43 = .ok (.iload_n 1, 1) := by decide +kernel
theorem dX10_shift_44 : decode cX10_shift 44 = .ok (.iaload, 1) := by decide +kernel
theorem dX10_shift_45 : decode cX10_shift 45 = .ok (.ifCond .ge 18, 3) := by decide +kernel
theorem dX10_shift_48 : decode cX10_shift 48 = .ok (.aload_n 0, 1) := by decide +kernel
theorem dX10_shift_49 : decode cX10_shift 49 = .ok (.getfield 105, 3) := by decide +kernel
theorem dX10_shift_52 : decode cX10_shift 52 = .ok (.iload_n 1, 1) := by decide +kernel
theorem dX10_shift_53 : decode cX10_shift 53 = .ok (.iaload, 1) := by decide +kernel
theorem dX10_shift_54 : decode cX10_shift 54 = .ok (.aload_n 0, 1) := by decide +kernel
theorem dX10_shift_55 : decode cX10_shift 55 = .ok (.getfield 105, 3) := by decide +kernel
theorem dX10_shift_58 : decode cX10_shift 58 = .ok (.iload_n 3, 1) := by decide +kernel
theorem dX10_shift_59 : decode cX10_shift 59 = .ok (.iaload, 1) := by decide +kernel
theorem dX10_shift_60 : decode cX10_shift 60 = .ok (.if_icmp .eq 6, 3) := by decide +kernel
theorem dX10_shift_63 : decode cX10_shift 63 = .ok (.bipush (-12), 2) := by decide +kernel
theorem dX10_shift_65 : decode cX10_shift 65 = .ok (.ireturn, 1) := by decide +kernel
theorem dX10_shift_66 : decode cX10_shift 66 = .ok (.iload 5, 2) := by decide +kernel
theorem dX10_shift_68 : decode cX10_shift 68 = .ok (.ifCond .lt 39, 3) := by decide +kernel
theorem dX10_shift_71 : decode cX10_shift 71 = .ok (.iload_n 2, 1) := by decide +kernel
theorem dX10_shift_72 : decode cX10_shift 72 = .ok (.ifCond .lt 35, 3) := by decide +kernel
theorem dX10_shift_75 : decode cX10_shift 75 = .ok (.iload 4, 2) := by decide +kernel
theorem dX10_shift_77 : decode cX10_shift 77 = .ok (.ifCond .lt 30, 3) := by decide +kernel
theorem dX10_shift_80 : decode cX10_shift 80 = .ok (.iload_n 2, 1) := by decide +kernel
theorem dX10_shift_81 : decode cX10_shift 81 = .ok (.aload_n 0, 1) := by decide +kernel
theorem dX10_shift_82 : decode cX10_shift 82 = .ok (.getfield 108, 3) := by decide +kernel
theorem dX10_shift_85 : decode cX10_shift 85 = .ok (.iload_n 1, 1) := by decide +kernel
theorem dX10_shift_86 : decode cX10_shift 86 = .ok (.iaload, 1) := by decide +kernel
theorem dX10_shift_87 : decode cX10_shift 87 = .ok (.iload 5, 2) := by decide +kernel
theorem dX10_shift_89 : decode cX10_shift 89 = .ok (.isub, 1) := by decide +kernel
theorem dX10_shift_90 : decode cX10_shift 90 = .ok (.if_icmp .gt 17, 3) := by decide +kernel
theorem dX10_shift_93 : decode cX10_shift 93 = .ok (.iload 4, 2) := by decide +kernel
theorem dX10_shift_95 : decode cX10_shift 95 = .ok (.aload_n 0, 1) := by decide +kernel
theorem dX10_shift_96 : decode cX10_shift 96 = .ok (.getfield 108, 3) := by decide +kernel
theorem dX10_shift_99 : decode cX10_shift 99 = .ok (.iload_n 3, 1) := by decide +kernel
theorem dX10_shift_100 : decode cX10_shift 100 = .ok (.iaload, 1) := by decide +kernel
theorem dX10_shift_101 : decode cX10_shift 101 = .ok (.iload 5, 2) := by decide +kernel
theorem dX10_shift_103 : decode cX10_shift 103 = .ok (.isub, 1) := by decide +kernel
theorem dX10_shift_104 : decode cX10_shift 104 = .ok (.if_icmp .le 6, 3) := by decide +kernel
theorem dX10_shift_107 : decode cX10_shift 107 = .ok (.bipush (-13), 2) := by decide +kernel
theorem dX10_shift_109 : decode cX10_shift 109 = .ok (.ireturn, 1) := by decide +kernel
theorem dX10_shift_110 : decode cX10_shift 110 = .ok (.iconst 0, 1) := by decide +kernel
theorem dX10_shift_111 : decode cX10_shift 111 = .ok (.istore 6, 2) := by decide +kernel
theorem dX10_shift_113 : decode cX10_shift 113 = .ok (.iload 6, 2) := by decide +kernel
theorem dX10_shift_115 : decode cX10_shift 115 = .ok (.iload 5, 2) := by decide +kernel
theorem dX10_shift_117 : decode cX10_shift 117 = .ok (.if_icmp .ge 30, 3) := by decide +kernel
theorem dX10_shift_120 : decode cX10_shift 120 = .ok (.aload_n 0, 1) := by decide +kernel
theorem dX10_shift_121 : decode cX10_shift 121 = .ok (.getfield 114, 3) := by decide +kernel
theorem dX10_shift_124 : decode cX10_shift 124 = .ok (.iload 6, 2) := by decide +kernel
theorem dX10_shift_126 : decode cX10_shift 126 = .ok (.aload_n 0, 1) := by decide +kernel
theorem dX10_shift_127 : decode cX10_shift 127 = .ok (.getfield 111, 3) := by decide +kernel
theorem dX10_shift_130 : decode cX10_shift 130 = .ok (.bipush 60, 2) := by decide +kernel
theorem dX10_shift_132 : decode cX10_shift 132 = .ok (.iload_n 1, 1) := by decide +kernel
theorem dX10_shift_133 : decode cX10_shift 133 = .ok (.imul, 1) := by decide +kernel
theorem dX10_shift_134 : decode cX10_shift 134 = .ok (.iload_n 2, 1) := by decide +kernel
theorem dX10_shift_135 : decode cX10_shift 135 = .ok (.iadd, 1) := by decide +kernel
theorem dX10_shift_136 : decode cX10_shift 136 = .ok (.iload 6, 2) := by decide +kernel
theorem dX10_shift_138 : decode cX10_shift 138 = .ok (.iadd, 1) := by decide +kernel
theorem dX10_shift_139 : decode cX10_shift 139 = .ok (.laload, 1) := by decide +kernel
theorem dX10_shift_140 : decode cX10_shift 140 = .ok (.lastore, 1) := by decide +kernel
theorem dX10_shift_141 : decode cX10_shift 141 = .ok (.iinc 6 1, 3) := by decide +kernel
theorem dX10_shift_144 : decode cX10_shift 144 = .ok (.goto (-31), 3) := by decide +kernel
theorem dX10_shift_147 : decode cX10_shift 147 = .ok (.iconst 0, 1) := by decide +kernel
theorem dX10_shift_148 : decode cX10_shift 148 = .ok (.istore 6, 2) := by decide +kernel
theorem dX10_shift_150 : decode cX10_shift 150 = .ok (.iload 6, 2) := by decide +kernel
theorem dX10_shift_152 : decode cX10_shift 152 = .ok (.iload 5, 2) := by decide +kernel
theorem dX10_shift_154 : decode cX10_shift 154 = .ok (.if_icmp .ge 31, 3) := by decide +kernel
theorem dX10_shift_157 : decode cX10_shift 157 = .ok (.aload_n 0, 1) := by decide +kernel
theorem dX10_shift_158 : decode cX10_shift 158 = .ok (.getfield 111, 3) := by decide +kernel
theorem dX10_shift_161 : decode cX10_shift 161 = .ok (.bipush 60, 2) := by decide +kernel
theorem dX10_shift_163 : decode cX10_shift 163 = .ok (.iload_n 3, 1) := by decide +kernel
theorem dX10_shift_164 : decode cX10_shift 164 = .ok (.imul, 1) := by decide +kernel
theorem dX10_shift_165 : decode cX10_shift 165 = .ok (.iload 4, 2) := by decide +kernel
theorem dX10_shift_167 : decode cX10_shift 167 = .ok (.iadd, 1) := by decide +kernel
theorem dX10_shift_168 : decode cX10_shift 168 = .ok (.iload 6, 2) := by decide +kernel
theorem dX10_shift_170 : decode cX10_shift 170 = .ok (.iadd, 1) := by decide +kernel
theorem dX10_shift_171 : decode cX10_shift 171 = .ok (.aload_n 0, 1) := by decide +kernel
theorem dX10_shift_172 : decode cX10_shift 172 = .ok (.getfield 114, 3) := by decide +kernel
theorem dX10_shift_175 : decode cX10_shift 175 = .ok (.iload 6, 2) := by decide +kernel
theorem dX10_shift_177 : decode cX10_shift 177 = .ok (.laload, 1) := by decide +kernel
theorem dX10_shift_178 : decode cX10_shift 178 = .ok (.lastore, 1) := by decide +kernel
theorem dX10_shift_179 : decode cX10_shift 179 = .ok (.iinc 6 1, 3) := by decide +kernel
theorem dX10_shift_182 : decode cX10_shift 182 = .ok (.goto (-32), 3) := by decide +kernel
theorem dX10_shift_185 : decode cX10_shift 185 = .ok (.iload 5, 2) := by decide +kernel
theorem dX10_shift_187 : decode cX10_shift 187 = .ok (.ireturn, 1) := by decide +kernel
theorem dX10_taken_0 : decode cX10_taken 0 = .ok (.iload_n 1, 1) := by decide +kernel
theorem dX10_taken_1 : decode cX10_taken 1 = .ok (.invokestatic 132, 3) := by decide +kernel
theorem dX10_taken_4 : decode cX10_taken 4 = .ok (.ifCond .eq 13, 3) := by decide +kernel
theorem dX10_taken_7 : decode cX10_taken 7 = .ok (.iload_n 2, 1) := by decide +kernel
theorem dX10_taken_8 : decode cX10_taken 8 = .ok (.iconst 0, 1) := by decide +kernel
theorem dX10_taken_9 : decode cX10_taken 9 = .ok (.bipush 7, 2) := by decide +kernel
theorem dX10_taken_11 : decode cX10_taken 11 = .ok (.invokestatic 124, 3) := by decide +kernel
theorem dX10_taken_14 : decode cX10_taken 14 = .ok (.ifCond .ne 5, 3) := by decide +kernel
theorem dX10_taken_17 : decode cX10_taken 17 = .ok (.iconst (-1), 1) := by decide +kernel
theorem dX10_taken_18 : decode cX10_taken 18 = .ok (.ireturn, 1) := by decide +kernel
theorem dX10_taken_19 : decode cX10_taken 19 = .ok (.aload_n 0, 1) := by decide +kernel
theorem dX10_taken_20 : decode cX10_taken 20 = .ok (.getfield 105, 3) := by decide +kernel
theorem dX10_taken_23 : decode cX10_taken 23 = .ok (.iload_n 1, 1) := by decide +kernel
theorem dX10_taken_24 : decode cX10_taken 24 = .ok (.iaload, 1) := by decide +kernel
theorem dX10_taken_25 : decode cX10_taken 25 = .ok (.iconst (-1), 1) := by decide +kernel
theorem dX10_taken_26 : decode cX10_taken 26 = .ok (.if_icmp .ne 6, 3) := by decide +kernel
theorem dX10_taken_29 : decode cX10_taken 29 = .ok (.bipush (-11), 2) := by decide +kernel
theorem dX10_taken_31 : decode cX10_taken 31 = .ok (.ireturn, 1) := by decide +kernel
theorem dX10_taken_32 : decode cX10_taken 32 = .ok (.aload_n 0, 1) := by decide +kernel
theorem dX10_taken_33 : decode cX10_taken 33 = .ok (.getfield 105, 3) := by decide +kernel
theorem dX10_taken_36 : decode cX10_taken 36 = .ok (.iload_n 1, 1) := by decide +kernel
theorem dX10_taken_37 : decode cX10_taken 37 = .ok (.iaload, 1) := by decide +kernel
theorem dX10_taken_38 : decode cX10_taken 38 = .ok (.ifCond .lt 35, 3) := by decide +kernel
theorem dX10_taken_41 : decode cX10_taken 41 = .ok (.aload_n 0, 1) := by decide +kernel
theorem dX10_taken_42 : decode cX10_taken 42 = .ok (.getfield 99, 3) := by decide +kernel
theorem dX10_taken_45 : decode cX10_taken 45 = .ok (.aload_n 0, 1) := by decide +kernel
theorem dX10_taken_46 : decode cX10_taken 46 = .ok (.getfield 105, 3) := by decide +kernel
theorem dX10_taken_49 : decode cX10_taken 49 = .ok (.iload_n 1, 1) := by decide +kernel
theorem dX10_taken_50 : decode cX10_taken 50 = .ok (.iaload, 1) := by decide +kernel
theorem dX10_taken_51 : decode cX10_taken 51 = .ok (.iaload, 1) := by decide +kernel
theorem dX10_taken_52 : decode cX10_taken 52 = .ok (.iload_n 2, 1) := by decide +kernel
theorem dX10_taken_53 : decode cX10_taken 53 = .ok (.invokestatic 397, 3) := by decide +kernel
theorem dX10_taken_56 : decode cX10_taken 56 = .ok (.ifCond .eq 17, 3) := by decide +kernel
theorem dX10_taken_59 : decode cX10_taken 59 = .ok (.aload_n 0, 1) := by decide +kernel
theorem dX10_taken_60 : decode cX10_taken 60 = .ok (.getfield 99, 3) := by decide +kernel
theorem dX10_taken_63 : decode cX10_taken 63 = .ok (.aload_n 0, 1) := by decide +kernel
theorem dX10_taken_64 : decode cX10_taken 64 = .ok (.getfield 105, 3) := by decide +kernel
theorem dX10_taken_67 : decode cX10_taken 67 = .ok (.iload_n 1, 1) := by decide +kernel
theorem dX10_taken_68 : decode cX10_taken 68 = .ok (.iaload, 1) := by decide +kernel
theorem dX10_taken_69 : decode cX10_taken 69 = .ok (.iaload, 1) := by decide +kernel
theorem dX10_taken_70 : decode cX10_taken 70 = .ok (.goto 5, 3) := by decide +kernel
theorem dX10_taken_73 : decode cX10_taken 73 = .ok (.bipush (-12), 2) := by decide +kernel
theorem dX10_taken_75 : decode cX10_taken 75 = .ok (.ireturn, 1) := by decide +kernel
