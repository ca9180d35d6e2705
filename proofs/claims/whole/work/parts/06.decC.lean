/-! decode rows (printed by wip/whole/gen/mk04.py) -/
theorem dX10_init_0 : decode cX10_init 0 = .ok (.aload_n 0, 1) := by decide +kernel
theorem dX10_init_1 : decode cX10_init 1 = .ok (.invokespecial 5, 3) := by decide +kernel
theorem dX10_init_4 : decode cX10_init 4 = .ok (.aload_n 0, 1) := by decide +kernel
theorem dX10_init_5 : decode cX10_init 5 = .ok (.sipush 543, 3) := by decide +kernel
theorem dX10_init_8 : decode cX10_init 8 = .ok (.newarray .int, 2) := by decide +kernel
theorem dX10_init_10 : decode cX10_init 10 = .ok (.putfield 11, 3) := by decide +kernel
theorem dX10_init_13 : decode cX10_init 13 = .ok (.aload_n 0, 1) := by decide +kernel
theorem dX10_init_14 : decode cX10_init 14 = .ok (.sipush 543, 3) := by decide +kernel
theorem dX10_init_17 : decode cX10_init 17 = .ok (.newarray .int, 2) := by decide +kernel
theorem dX10_init_19 : decode cX10_init 19 = .ok (.putfield 15, 3) := by decide +kernel
theorem dX10_init_22 : decode cX10_init 22 = .ok (.aload_n 0, 1) := by decide +kernel
theorem dX10_init_23 : decode cX10_init 23 = .ok (.sipush 543, 3) := by decide +kernel
theorem dX10_init_26 : decode cX10_init 26 = .ok (.newarray .int, 2) := by decide +kernel
theorem dX10_init_28 : decode cX10_init 28 = .ok (.putfield 18, 3) := by decide +kernel
theorem dX10_init_31 : decode cX10_init 31 = .ok (.aload_n 0, 1) := by decide +kernel
theorem dX10_init_32 : decode cX10_init 32 = .ok (.bipush 8, 2) := by decide +kernel
theorem dX10_init_34 : decode cX10_init 34 = .ok (.newarray .int, 2) := by decide +kernel
theorem dX10_init_36 : decode cX10_init 36 = .ok (.putfield 21, 3) := by decide +kernel
theorem dX10_init_39 : decode cX10_init 39 = .ok (.aload_n 0, 1) := by decide +kernel
theorem dX10_init_40 : decode cX10_init 40 = .ok (.sipush 480, 3) := by decide +kernel
theorem dX10_init_43 : decode cX10_init 43 = .ok (.newarray .int, 2) := by decide +kernel
theorem dX10_init_45 : decode cX10_init 45 = .ok (.putfield 24, 3) := by decide +kernel
theorem dX10_init_48 : decode cX10_init 48 = .ok (.aload_n 0, 1) := by decide +kernel
theorem dX10_init_49 : decode cX10_init 49 = .ok (.sipush 480, 3) := by decide +kernel
theorem dX10_init_52 : decode cX10_init 52 = .ok (.newarray .int, 2) := by decide +kernel
theorem dX10_init_54 : decode cX10_init 54 = .ok (.putfield 27, 3) := by decide +kernel
theorem dX10_init_57 : decode cX10_init 57 = .ok (.aload_n 0, 1) := by decide +kernel
theorem dX10_init_58 : decode cX10_init 58 = .ok (.sipush 480, 3) := by decide +kernel
theorem dX10_init_61 : decode cX10_init 61 = .ok (.newarray .int, 2) := by decide +kernel
theorem dX10_init_63 : decode cX10_init 63 = .ok (.putfield 30, 3) := by decide +kernel
theorem dX10_init_66 : decode cX10_init 66 = .ok (.aload_n 0, 1) := by decide +kernel
theorem dX10_init_67 : decode cX10_init 67 = .ok (.sipush 480, 3) := by decide +kernel
theorem dX10_init_70 : decode cX10_init 70 = .ok (.newarray .int, 2) := by decide +kernel
theorem dX10_init_72 : decode cX10_init 72 = .ok (.putfield 33, 3) := by decide +kernel
theorem dX10_init_75 : decode cX10_init 75 = .ok (.aload_n 0, 1) := by decide +kernel
theorem dX10_init_76 : decode cX10_init 76 = .ok (.sipush 480, 3) := by decide +kernel
theorem dX10_init_79 : decode cX10_init 79 = .ok (.newarray .int, 2) := by decide +kernel
theorem dX10_init_81 : decode cX10_init 81 = .ok (.putfield 36, 3) := by decide +kernel
theorem dX10_init_84 : decode cX10_init 84 = .ok (.aload_n 0, 1) := by decide +kernel
theorem dX10_init_85 : decode cX10_init 85 = .ok (.sipush 480, 3) := by decide +kernel
theorem dX10_init_88 : decode cX10_init 88 = .ok (.newarray .int, 2) := by decide +kernel
theorem dX10_init_90 : decode cX10_init 90 = .ok (.putfield 39, 3) := by decide +kernel
theorem dX10_init_93 : decode cX10_init 93 = .ok (.aload_n 0, 1) := by decide +kernel
theorem dX10_init_94 : decode cX10_init 94 = .ok (.bipush 100, 2) := by decide +kernel
theorem dX10_init_96 : decode cX10_init 96 = .ok (.newarray .int, 2) := by decide +kernel
theorem dX10_init_98 : decode cX10_init 98 = .ok (.putfield 42, 3) := by decide +kernel
theorem dX10_init_101 : decode cX10_init 101 = .ok (.aload_n 0, 1) := by decide +kernel
theorem dX10_init_102 : decode cX10_init 102 = .ok (.bipush 16, 2) := by decide +kernel
theorem dX10_init_104 : decode cX10_init 104 = .ok (.newarray .int, 2) := by decide +kernel
theorem dX10_init_106 : decode cX10_init 106 = .ok (.putfield 45, 3) := by decide +kernel
theorem dX10_init_109 : decode cX10_init 109 = .ok (.aload_n 0, 1) := by decide +kernel
theorem dX10_init_110 : decode cX10_init 110 = .ok (.bipush 6, 2) := by decide +kernel
theorem dX10_init_112 : decode cX10_init 112 = .ok (.newarray .int, 2) := by decide +kernel
theorem dX10_init_114 : decode cX10_init 114 = .ok (.putfield 48, 3) := by decide +kernel
theorem dX10_init_117 : decode cX10_init 117 = .ok (.aload_n 0, 1) := by decide +kernel
theorem dX10_init_118 : decode cX10_init 118 = .ok (.bipush 6, 2) := by decide +kernel
theorem dX10_init_120 : decode cX10_init 120 = .ok (.newarray .int, 2) := by decide +kernel
theorem dX10_init_122 : decode cX10_init 122 = .ok (.putfield 51, 3) := by decide +kernel
theorem dX10_init_125 : decode cX10_init 125 = .ok (.aload_n 0, 1) := by decide +kernel
theorem dX10_init_126 : decode cX10_init 126 = .ok (.bipush 6, 2) := by decide +kernel
theorem dX10_init_128 : decode cX10_init 128 = .ok (.bipush 60, 2) := by decide +kernel
theorem dX10_init_130 : decode cX10_init 130 = .ok (.multianewarray 54 2, 4) := by decide +kernel
theorem dX10_init_134 : decode cX10_init 134 = .ok (.putfield 56, 3) := by decide +kernel
theorem dX10_init_137 : decode cX10_init 137 = .ok (.aload_n 0, 1) := by decide +kernel
theorem dX10_init_138 : decode cX10_init 138 = .ok (.bipush 60, 2) := by decide +kernel
theorem dX10_init_140 : decode cX10_init 140 = .ok (.newarray .long, 2) := by decide +kernel
theorem dX10_init_142 : decode cX10_init 142 = .ok (.putfield 59, 3) := by decide +kernel
theorem dX10_init_145 : decode cX10_init 145 = .ok (.iconst 0, 1) := by decide +kernel
theorem dX10_init_146 : decode cX10_init 146 = .ok (.istore_n 1, 1) := by decide +kernel
theorem dX10_init_147 : decode cX10_init 147 = .ok (.iload_n 1, 1) := by decide +kernel
theorem dX10_init_148 : decode cX10_init 148 = .ok (.bipush 6, 2) := by decide +kernel
theorem dX10_init_150 : decode cX10_init 150 = .ok (.if_icmp .ge 16, 3) := by decide +kernel
theorem dX10_init_153 : decode cX10_init 153 = .ok (.aload_n 0, 1) := by decide +kernel
theorem dX10_init_154 : decode cX10_init 154 = .ok (.getfield 48, 3) := by decide +kernel
theorem dX10_init_157 : decode cX10_init 157 = .ok (.iload_n 1, 1) := by decide +kernel
theorem dX10_init_158 : decode cX10_init 158 = .ok (.iconst (-1), 1) := by decide +kernel
theorem dX10_init_159 : decode cX10_init 159 = .ok (.iastore, 1) := by decide +kernel
theorem dX10_init_160 : decode cX10_init 160 = .ok (.iinc 1 1, 3) := by decide +kernel
theorem dX10_init_163 : decode cX10_init 163 = .ok (.goto (-16), 3) := by decide +kernel
theorem dX10_init_166 : decode cX10_init 166 = .ok (.return_, 1) := by decide +kernel
theorem dX10_in_0 : decode cX10_in 0 = .ok (.iload_n 0, 1) := by decide +kernel
theorem dX10_in_1 : decode cX10_in 1 = .ok (.iload_n 1, 1) := by decide +kernel
theorem dX10_in_2 : decode cX10_in 2 = .ok (.if_icmp .lt 12, 3) := by decide +kernel
theorem dX10_in_5 : decode cX10_in 5 = .ok (.iload_n 0, 1) := by decide +kernel
theorem dX10_in_6 : decode cX10_in 6 = .ok (.iload_n 2, 1) := by decide +kernel
theorem dX10_in_7 : decode cX10_in 7 = .ok (.if_icmp .gt 7, 3) := by decide +kernel
theorem dX10_in_10 : decode cX10_in 10 = .ok (.iconst 1, 1) := by decide +kernel
theorem dX10_in_11 : decode cX10_in 11 = .ok (.goto 4, 3) := by decide +kernel
theorem dX10_in_14 : decode cX10_in 14 = .ok (.iconst 0, 1) := by decide +kernel
theorem dX10_in_15 : decode cX10_in 15 = .ok (.ireturn, 1) := by decide +kernel
theorem dX10_copy_0 : decode cX10_copy 0 = .ok (.iconst 0, 1) := by decide +kernel
theorem dX10_copy_1 : decode cX10_copy 1 = .ok (.istore_n 2, 1) := by decide +kernel
theorem dX10_copy_2 : decode cX10_copy 2 = .ok (.iload_n 2, 1) := by decide +kernel
theorem dX10_copy_3 : decode cX10_copy 3 = .ok (.sipush 543, 3) := by decide +kernel
theorem dX10_copy_6 : decode cX10_copy 6 = .ok (.if_icmp .ge 15, 3) := by decide +kernel
theorem dX10_copy_9 : decode cX10_copy 9 = .ok (.aload_n 1, 1) := by decide +kernel
theorem dX10_copy_10 : decode cX10_copy 10 = .ok (.iload_n 2, 1) := by decide +kernel
theorem dX10_copy_11 : decode cX10_copy 11 = .ok (.aload_n 0, 1) := by decide +kernel
theorem dX10_copy_12 : decode cX10_copy 12 = .ok (.iload_n 2, 1) := by decide +kernel
theorem dX10_copy_13 : decode cX10_copy 13 = .ok (.iaload, 1) := by decide +kernel
theorem dX10_copy_14 : decode cX10_copy 14 = .ok (.iastore, 1) := by decide +kernel
theorem dX10_copy_15 : decode cX10_copy 15 = .ok (.iinc 2 1, 3) := by decide +kernel
theorem dX10_copy_18 : decode cX10_copy 18 = .ok (.goto (-16), 3) := by decide +kernel
theorem dX10_copy_21 : decode cX10_copy 21 = .ok (.return_, 1) := by decide +kernel
theorem dX10_isRow_0 : decode cX10_isRow 0 = .ok (.iload_n 1, 1) := by decide +kernel
theorem dX10_isRow_1 : decode cX10_isRow 1 = .ok (.iconst 0, 1) := by decide +kernel
theorem dX10_isRow_2 : decode cX10_isRow 2 = .ok (.aload_n 0, 1) := by decide +kernel
theorem dX10_isRow_3 : decode cX10_isRow 3 = .ok (.getfield 11, 3) := by decide +kernel
theorem dX10_isRow_6 : decode cX10_isRow 6 = .ok (.sipush 480, 3) := by decide +kernel
theorem dX10_isRow_9 : decode cX10_isRow 9 = .ok (.iaload, 1) := by decide +kernel
theorem dX10_isRow_10 : decode cX10_isRow 10 = .ok (.iconst 1, 1) := by decide +kernel
theorem dX10_isRow_11 : decode cX10_isRow 11 = .ok (.isub, 1) := by decide +kernel
theorem dX10_isRow_12 : decode cX10_isRow 12 = .ok (.invokestatic 63, 3) := by decide +kernel
theorem dX10_isRow_15 : decode cX10_isRow 15 = .ok (.ireturn, 1) := by decide +kernel
theorem dX10_comes_0 : decode cX10_comes 0 = .ok (.iconst 4, 1) := by decide +kernel
theorem dX10_comes_1 : decode cX10_comes 1 = .ok (.aload_n 0, 1) := by decide +kernel
theorem dX10_comes_2 : decode cX10_comes 2 = .ok (.getfield 11, 3) := by decide +kernel
theorem dX10_comes_5 : decode cX10_comes 5 = .ok (.sipush 480, 3) := by decide +kernel
theorem dX10_comes_8 : decode cX10_comes 8 = .ok (.iaload, 1) := by decide +kernel
theorem dX10_comes_9 : decode cX10_comes 9 = .ok (.imul, 1) := by decide +kernel
theorem dX10_comes_10 : decode cX10_comes 10 = .ok (.istore 5, 2) := by decide +kernel
theorem dX10_comes_12 : decode cX10_comes 12 = .ok (.aload_n 0, 1) := by decide +kernel
theorem dX10_comes_13 : decode cX10_comes 13 = .ok (.getfield 11, 3) := by decide +kernel
theorem dX10_comes_16 : decode cX10_comes 16 = .ok (.iload 5, 2) := by decide +kernel
theorem dX10_comes_18 : decode cX10_comes 18 = .ok (.iload_n 1, 1) := by decide +kernel
theorem dX10_comes_19 : decode cX10_comes 19 = .ok (.iastore, 1) := by decide +kernel
theorem dX10_comes_20 : decode cX10_comes 20 = .ok (.aload_n 0, 1) := by decide +kernel
theorem dX10_comes_21 : decode cX10_comes 21 = .ok (.getfield 11, 3) := by decide +kernel
theorem dX10_comes_24 : decode cX10_comes 24 = .ok (.iload 5, 2) := by decide +kernel
theorem dX10_comes_26 : decode cX10_comes 26 = .ok (.iconst 1, 1) := by decide +kernel
theorem dX10_comes_27 : decode cX10_comes 27 = .ok (.iadd, 1) := by decide +kernel
theorem dX10_comes_28 : decode cX10_comes 28 = .ok (.iload_n 2, 1) := by decide +kernel
theorem dX10_comes_29 : decode cX10_comes 29 = .ok (.iastore, 1) := by decide +kernel
theorem dX10_comes_30 : decode cX10_comes 30 = .ok (.aload_n 0, 1) := by decide +kernel
theorem dX10_comes_31 : decode cX10_comes 31 = .ok (.getfield 11, 3) := by decide +kernel
theorem dX10_comes_34 : decode cX10_comes 34 = .ok (.iload 5, 2) := by decide +kernel
theorem dX10_comes_36 : decode cX10_comes 36 = .ok (.iconst 2, 1) := by decide +kernel
theorem dX10_comes_37 : decode cX10_comes 37 = .ok (.iadd, 1) := by decide +kernel
theorem dX10_comes_38 : decode cX10_comes 38 = .ok (.iload_n 3, 1) := by decide +kernel
theorem dX10_comes_39 : decode cX10_comes 39 = .ok (.iastore, 1) := by decide +kernel
theorem dX10_comes_40 : decode cX10_comes 40 = .ok (.aload_n 0, 1) := by decide +kernel
theorem dX10_comes_41 : decode cX10_comes 41 = .ok (.getfield 11, 3) := by decide +kernel
theorem dX10_comes_44 : decode cX10_comes 44 = .ok (.iload 5, 2) := by decide +kernel
theorem dX10_comes_46 : decode cX10_comes 46 = .ok (.iconst 3, 1) := by decide +kernel
theorem dX10_comes_47 : decode cX10_comes 47 = .ok (.iadd, 1) := by decide +kernel
theorem dX10_comes_48 : decode cX10_comes 48 = .ok (.iload 4, 2) := by decide +kernel
theorem dX10_comes_50 : decode cX10_comes 50 = .ok (.iastore, 1) := by decide +kernel
theorem dX10_comes_51 : decode cX10_comes 51 = .ok (.aload_n 0, 1) := by decide +kernel
theorem dX10_comes_52 : decode cX10_comes 52 = .ok (.getfield 11, 3) := by decide +kernel
theorem dX10_comes_55 : decode cX10_comes 55 = .ok (.sipush 480, 3) := by decide +kernel
theorem dX10_comes_58 : decode cX10_comes 58 = .ok (.dup2, 1) := by decide +kernel
theorem dX10_comes_59 : decode cX10_comes 59 = .ok (.iaload, 1) := by decide +kernel
theorem dX10_comes_60 : decode cX10_comes 60 = .ok (.dup_x2, 1) := by decide +kernel
theorem dX10_comes_61 : decode cX10_comes 61 = .ok (.iconst 1, 1) := by decide +kernel
theorem dX10_comes_62 : decode cX10_comes 62 = .ok (.iadd, 1) := by decide +kernel
theorem dX10_comes_63 : decode cX10_comes 63 = .ok (.iastore, 1) := by decide +kernel
theorem dX10_comes_64 : decode cX10_comes 64 = .ok (.ireturn, 1) := by decide +kernel
theorem dX10_add_0 : decode cX10_add 0 = .ok (.iload_n 1, 1) := by decide +kernel
theorem dX10_add_1 : decode cX10_add 1 = .ok (.iconst 0, 1) := by decide +kernel
theorem dX10_add_2 : decode cX10_add 2 = .ok (.bipush 15, 2) := by decide +kernel
theorem dX10_add_4 : decode cX10_add 4 = .ok (.invokestatic 63, 3) := by decide +kernel
theorem dX10_add_7 : decode cX10_add 7 = .ok (.ifCond .eq 34, 3) := by decide +kernel
theorem dX10_add_10 : decode cX10_add 10 = .ok (.iload_n 2, 1) := by decide +kernel
theorem dX10_add_11 : decode cX10_add 11 = .ok (.iconst 0, 1) := by decide +kernel
theorem dX10_add_12 : decode cX10_add 12 = .ok (.bipush 15, 2) := by decide +kernel
theorem dX10_add_14 : decode cX10_add 14 = .ok (.invokestatic 63, 3) := by decide +kernel
theorem dX10_add_17 : decode cX10_add 17 = .ok (.ifCond .eq 24, 3) := by decide +kernel
theorem dX10_add_20 : decode cX10_add 20 = .ok (.iload_n 3, 1) := by decide +kernel
theorem dX10_add_21 : decode cX10_add 21 = .ok (.iconst 0, 1) := by decide +kernel
theorem dX10_add_22 : decode cX10_add 22 = .ok (.bipush 15, 2) := by decide +kernel
theorem dX10_add_24 : decode cX10_add 24 = .ok (.invokestatic 63, 3) := by decide +kernel
theorem dX10_add_27 : decode cX10_add 27 = .ok (.ifCond .eq 14, 3) := by decide +kernel
theorem dX10_add_30 : decode cX10_add 30 = .ok (.iload 4, 2) := by decide +kernel
theorem dX10_add_32 : decode cX10_add 32 = .ok (.iconst 0, 1) := by decide +kernel
theorem dX10_add_33 : decode cX10_add 33 = .ok (.bipush 15, 2) := by decide +kernel
theorem dX10_add_35 : decode cX10_add 35 = .ok (.invokestatic 63, 3) := by decide +kernel
theorem dX10_add_38 : decode cX10_add 38 = .ok (.ifCond .ne 6, 3) := by decide +kernel
theorem dX10_add_41 : decode cX10_add 41 = .ok (.bipush (-2), 2) := by decide +kernel
theorem dX10_add_43 : decode cX10_add 43 = .ok (.ireturn, 1) := by decide +kernel
theorem dX10_add_44 : decode cX10_add 44 = .ok (.aload_n 0, 1) := by decide +kernel
theorem dX10_add_45 : decode cX10_add 45 = .ok (.getfield 11, 3) := by decide +kernel
theorem dX10_add_48 : decode cX10_add 48 = .ok (.sipush 480, 3) := by decide +kernel
theorem dX10_add_51 : decode cX10_add 51 = .ok (.iaload, 1) := by decide +kernel
theorem dX10_add_52 : decode cX10_add 52 = .ok (.bipush 120, 2) := by decide +kernel
theorem dX10_add_54 : decode cX10_add 54 = .ok (.if_icmp .ne 8, 3) := by decide +kernel
theorem dX10_add_57 : decode cX10_add 57 = .ok (.bipush (-4), 2) := by decide +kernel
theorem dX10_add_59 : decode cX10_add 59 = .ok (.goto 12, 3) := by decide +kernel
theorem dX10_add_62 : decode cX10_add 62 = .ok (.aload_n 0, 1) := by decide +kernel
theorem dX10_add_63 : decode cX10_add 63 = .ok (.iload_n 1, 1) := by decide +kernel
theorem dX10_add_64 : decode cX10_add 64 = .ok (.iload_n 2, 1) := by decide +kernel
theorem dX10_add_65 : decode cX10_add 65 = .ok (.iload_n 3, 1) := by decide +kernel
theorem dX10_add_66 : decode cX10_add 66 = .ok (.iload 4, 2) := by decide +kernel
theorem dX10_add_68 : decode cX10_add 68 = .ok (.invokevirtual 67, 3) := by decide +kernel
theorem dX10_add_71 : decode cX10_add 71 = .ok (.ireturn, 1) := by decide +kernel
theorem dX10_at_0 : decode cX10_at 0 = .ok (.aload_n 0, 1) := by decide +kernel
theorem dX10_at_1 : decode cX10_at 1 = .ok (.iload_n 1, 1) := by decide +kernel
theorem dX10_at_2 : decode cX10_at 2 = .ok (.invokevirtual 71, 3) := by decide +kernel
theorem dX10_at_5 : decode cX10_at 5 = .ok (.ifCond .eq 25, 3) := by decide +kernel
theorem dX10_at_8 : decode cX10_at 8 = .ok (.iload_n 2, 1) := by decide +kernel
theorem dX10_at_9 : decode cX10_at 9 = .ok (.iconst 0, 1) := by decide +kernel
theorem dX10_at_10 : decode cX10_at 10 = .ok (.iconst 3, 1) := by decide +kernel
theorem dX10_at_11 : decode cX10_at 11 = .ok (.invokestatic 63, 3) := by decide +kernel
theorem dX10_at_14 : decode cX10_at 14 = .ok (.ifCond .eq 16, 3) := by decide +kernel
theorem dX10_at_17 : decode cX10_at 17 = .ok (.aload_n 0, 1) := by decide +kernel
theorem dX10_at_18 : decode cX10_at 18 = .ok (.getfield 11, 3) := by decide +kernel
theorem dX10_at_21 : decode cX10_at 21 = .ok (.iconst 4, 1) := by decide +kernel
theorem dX10_at_22 : decode cX10_at 22 = .ok (.iload_n 1, 1) := by decide +kernel
theorem dX10_at_23 : decode cX10_at 23 = .ok (.imul, 1) := by decide +kernel
theorem dX10_at_24 : decode cX10_at 24 = .ok (.iload_n 2, 1) := by decide +kernel
theorem dX10_at_25 : decode cX10_at 25 = .ok (.iadd, 1) := by decide +kernel
theorem dX10_at_26 : decode cX10_at 26 = .ok (.iaload, 1) := by decide +kernel
theorem dX10_at_27 : decode cX10_at 27 = .ok (.goto 4, 3) := by decide +kernel
theorem dX10_at_30 : decode cX10_at 30 = .ok (.iconst (-1), 1) := by decide +kernel
theorem dX10_at_31 : decode cX10_at 31 = .ok (.ireturn, 1) := by decide +kernel
theorem dX10_mark_0 : decode cX10_mark 0 = .ok (.aload_n 0, 1) := by decide +kernel
theorem dX10_mark_1 : decode cX10_mark 1 = .ok (.getfield 11, 3) := by decide +kernel
theorem dX10_mark_4 : decode cX10_mark 4 = .ok (.sipush 481, 3) := by decide +kernel
theorem dX10_mark_7 : decode cX10_mark 7 = .ok (.iaload, 1) := by decide +kernel
theorem dX10_mark_8 : decode cX10_mark 8 = .ok (.bipush 10, 2) := by decide +kernel
theorem dX10_mark_10 : decode cX10_mark 10 = .ok (.if_icmp .ne 6, 3) := by decide +kernel
theorem dX10_mark_13 : decode cX10_mark 13 = .ok (.bipush (-4), 2) := by decide +kernel
theorem dX10_mark_15 : decode cX10_mark 15 = .ok (.ireturn, 1) := by decide +kernel
theorem dX10_mark_16 : decode cX10_mark 16 = .ok (.aload_n 0, 1) := by decide +kernel
theorem dX10_mark_17 : decode cX10_mark 17 = .ok (.getfield 11, 3) := by decide +kernel
theorem dX10_mark_20 : decode cX10_mark 20 = .ok (.sipush 482, 3) := by decide +kernel
theorem dX10_mark_23 : decode cX10_mark 23 = .ok (.aload_n 0, 1) := by decide +kernel
theorem dX10_mark_24 : decode cX10_mark 24 = .ok (.getfield 11, 3) := by decide +kernel
theorem dX10_mark_27 : decode cX10_mark 27 = .ok (.sipush 481, 3) := by decide +kernel
theorem dX10_mark_30 : decode cX10_mark 30 = .ok (.iaload, 1) := by decide +kernel
theorem dX10_mark_31 : decode cX10_mark 31 = .ok (.iadd, 1) := by decide +kernel
theorem dX10_mark_32 : decode cX10_mark 32 = .ok (.aload_n 0, 1) := by decide +kernel
theorem dX10_mark_33 : decode cX10_mark 33 = .ok (.getfield 11, 3) := by decide +kernel
theorem dX10_mark_36 : decode cX10_mark 36 = .ok (.sipush 480, 3) := by decide +kernel
theorem dX10_mark_39 : decode cX10_mark 39 = .ok (.iaload, 1) := by decide +kernel
theorem dX10_mark_40 : decode cX10_mark 40 = .ok (.iastore, 1) := by decide +kernel
theorem dX10_mark_41 : decode cX10_mark 41 = .ok (.aload_n 0, 1) := by decide +kernel
theorem dX10_mark_42 : decode cX10_mark 42 = .ok (.getfield 11, 3) := by decide +kernel
theorem dX10_mark_45 : decode cX10_mark 45 = .ok (.sipush 481, 3) := by decide +kernel
theorem dX10_mark_48 : decode cX10_mark 48 = .ok (.dup2, 1) := by decide +kernel
theorem dX10_mark_49 : decode cX10_mark 49 = .ok (.iaload, 1) := by decide +kernel
theorem dX10_mark_50 : decode cX10_mark 50 = .ok (.dup_x2, 1) := by decide +kernel
theorem dX10_mark_51 : decode cX10_mark 51 = .ok (.iconst 1, 1) := by decide +kernel
theorem dX10_mark_52 : decode cX10_mark 52 = .ok (.iadd, 1) := by decide +kernel
theorem dX10_mark_53 : decode cX10_mark 53 = .ok (.iastore, 1) := by decide +kernel
theorem dX10_mark_54 : decode cX10_mark 54 = .ok (.ireturn, 1) := by decide +kernel
theorem dX10_back_0 : decode cX10_back 0 = .ok (.iload_n 1, 1) := by decide +kernel
theorem dX10_back_1 : decode cX10_back 1 = .ok (.iconst 0, 1) := by decide +kernel
theorem dX10_back_2 : decode cX10_back 2 = .ok (.aload_n 0, 1) := by decide +kernel
theorem dX10_back_3 : decode cX10_back 3 = .ok (.getfield 11, 3) := by decide +kernel
theorem dX10_back_6 : decode cX10_back 6 = .ok (.sipush 481, 3) := by decide +kernel
theorem dX10_back_9 : decode cX10_back 9 = .ok (.iaload, 1) := by decide +kernel
theorem dX10_back_10 : decode cX10_back 10 = .ok (.iconst 1, 1) := by decide +kernel
theorem dX10_back_11 : decode cX10_back 11 = .ok (.isub, 1) := by decide +kernel
theorem dX10_back_12 : decode cX10_back 12 = .ok (.invokestatic 63, 3) := by decide +kernel
theorem dX10_back_15 : decode cX10_back 15 = .ok (.ifCond .ne 5, 3) := by decide +kernel
theorem dX10_back_18 : decode cX10_back 18 = .ok (.iconst (-1), 1) := by decide +kernel
theorem dX10_back_19 : decode cX10_back 19 = .ok (.ireturn, 1) := by decide +kernel
theorem dX10_back_20 : decode cX10_back 20 = .ok (.aload_n 0, 1) := by decide +kernel
theorem dX10_back_21 : decode cX10_back 21 = .ok (.getfield 11, 3) := by decide +kernel
theorem dX10_back_24 : decode cX10_back 24 = .ok (.sipush 480, 3) := by decide +kernel
theorem dX10_back_27 : decode cX10_back 27 = .ok (.iaload, 1) := by decide +kernel
theorem dX10_back_28 : decode cX10_back 28 = .ok (.aload_n 0, 1) := by decide +kernel
theorem dX10_back_29 : decode cX10_back 29 = .ok (.getfield 11, 3) := by decide +kernel
theorem dX10_back_32 : decode cX10_back 32 = .ok (.sipush 482, 3) := by decide +kernel
theorem dX10_back_35 : decode cX10_back 35 = .ok (.iload_n 1, 1) := by decide +kernel
theorem dX10_back_36 : decode cX10_back 36 = .ok (.iadd, 1) := by decide +kernel
theorem dX10_back_37 : decode cX10_back 37 = .ok (.iaload, 1) := by decide +kernel
theorem dX10_back_38 : decode cX10_back 38 = .ok (.isub, 1) := by decide +kernel
theorem dX10_back_39 : decode cX10_back 39 = .ok (.istore_n 2, 1) := by decide +kernel
theorem dX10_back_40 : decode cX10_back 40 = .ok (.aload_n 0, 1) := by decide +kernel
theorem dX10_back_41 : decode cX10_back 41 = .ok (.getfield 11, 3) := by decide +kernel
theorem dX10_back_44 : decode cX10_back 44 = .ok (.sipush 480, 3) := by decide +kernel
theorem dX10_back_47 : decode cX10_back 47 = .ok (.aload_n 0, 1) := by decide +kernel
theorem dX10_back_48 : decode cX10_back 48 = .ok (.getfield 11, 3) := by decide +kernel
theorem dX10_back_51 : decode cX10_back 51 = .ok (.sipush 482, 3) := by decide +kernel
theorem dX10_back_54 : decode cX10_back 54 = .ok (.iload_n 1, 1) := by decide +kernel
theorem dX10_back_55 : decode cX10_back 55 = .ok (.iadd, 1) := by decide +kernel
theorem dX10_back_56 : decode cX10_back 56 = .ok (.iaload, 1) := by decide +kernel
theorem dX10_back_57 : decode cX10_back 57 = .ok (.iastore, 1) := by decide +kernel
theorem dX10_back_58 : decode cX10_back 58 = .ok (.aload_n 0, 1) := by decide +kernel
theorem dX10_back_59 : decode cX10_back 59 = .ok (.getfield 11, 3) := by decide +kernel
theorem dX10_back_62 : decode cX10_back 62 = .ok (.sipush 481, 3) := by decide +kernel
theorem dX10_back_65 : decode cX10_back 65 = .ok (.iload_n 1, 1) := by decide +kernel
theorem dX10_back_66 : decode cX10_back 66 = .ok (.iconst 1, 1) := by decide +kernel
theorem dX10_back_67 : decode cX10_back 67 = .ok (.iadd, 1) := by decide +kernel
theorem dX10_back_68 : decode cX10_back 68 = .ok (.iastore, 1) := by decide +kernel
theorem dX10_back_69 : decode cX10_back 69 = .ok (.iload_n 2, 1) := by decide +kernel
theorem dX10_back_70 : decode cX10_back 70 = .ok (.ireturn, 1) := by decide +kernel
theorem dX10_bit_0 : decode cX10_bit 0 = .ok (.aload_n 0, 1) := by decide +kernel
theorem dX10_bit_1 : decode cX10_bit 1 = .ok (.getfield 11, 3) := by decide +kernel
theorem dX10_bit_4 : decode cX10_bit 4 = .ok (.iconst 4, 1) := by decide +kernel
theorem dX10_bit_5 : decode cX10_bit 5 = .ok (.iload_n 1, 1) := by decide +kernel
theorem dX10_bit_6 : decode cX10_bit 6 = .ok (.imul, 1) := by decide +kernel
theorem dX10_bit_7 : decode cX10_bit 7 = .ok (.iload_n 2, 1) := by decide +kernel
theorem dX10_bit_8 : decode cX10_bit 8 = .ok (.iadd, 1) := by decide +kernel
theorem dX10_bit_9 : decode cX10_bit 9 = .ok (.iaload, 1) := by decide +kernel
theorem dX10_bit_10 : decode cX10_bit 10 = .ok (.istore 4, 2) := by decide +kernel
theorem dX10_bit_12 : decode cX10_bit 12 = .ok (.iload_n 3, 1) := by decide +kernel
theorem dX10_bit_13 : decode cX10_bit 13 = .ok (.bipush 16, 2) := by decide +kernel
theorem dX10_bit_15 : decode cX10_bit 15 = .ok (.if_icmp .ge 17, 3) := by decide +kernel
theorem dX10_bit_18 : decode cX10_bit 18 = .ok (.iload 4, 2) := by decide +kernel
theorem dX10_bit_20 : decode cX10_bit 20 = .ok (.iload_n 3, 1) := by decide +kernel
theorem dX10_bit_21 : decode cX10_bit 21 = .ok (.if_icmp .ne 7, 3) := by decide +kernel
theorem dX10_bit_24 : decode cX10_bit 24 = .ok (.iconst 1, 1) := by decide +kernel
theorem dX10_bit_25 : decode cX10_bit 25 = .ok (.goto 25, 3) := by decide +kernel
theorem dX10_bit_28 : decode cX10_bit 28 = .ok (.iconst 0, 1) := by decide +kernel
theorem dX10_bit_29 : decode cX10_bit 29 = .ok (.goto 21, 3) := by decide +kernel
theorem dX10_bit_32 : decode cX10_bit 32 = .ok (.iload 4, 2) := by decide +kernel
theorem dX10_bit_34 : decode cX10_bit 34 = .ok (.iload_n 3, 1) := by decide +kernel
theorem dX10_bit_35 : decode cX10_bit 35 = .ok (.bipush 16, 2) := by decide +kernel
theorem dX10_bit_37 : decode cX10_bit 37 = .ok (.isub, 1) := by decide +kernel
theorem dX10_bit_38 : decode cX10_bit 38 = .ok (.ishr, 1) := by decide +kernel
theorem dX10_bit_39 : decode cX10_bit 39 = .ok (.iconst 1, 1) := by decide +kernel
theorem dX10_bit_40 : decode cX10_bit 40 = .ok (.iand, 1) := by decide +kernel
theorem dX10_bit_41 : decode cX10_bit 41 = .ok (.iconst 1, 1) := by decide +kernel
theorem dX10_bit_42 : decode cX10_bit 42 = .ok (.if_icmp .ne 7, 3) := by decide +kernel
theorem dX10_bit_45 : decode cX10_bit 45 = .ok (.iconst 1, 1) := by decide +kernel
theorem dX10_bit_46 : decode cX10_bit 46 = .ok (.goto 4, 3) := by decide +kernel
theorem dX10_bit_49 : decode cX10_bit 49 = .ok (.iconst 0, 1) := by decide +kernel
theorem dX10_bit_50 : decode cX10_bit 50 = .ok (.ireturn, 1) := by decide +kernel
theorem dX10_runsOf_0 : decode cX10_runsOf 0 = .ok (.iconst 0, 1) := by decide +kernel
theorem dX10_runsOf_1 : decode cX10_runsOf 1 = .ok (.istore_n 3, 1) := by decide +kernel
theorem dX10_runsOf_2 : decode cX10_runsOf 2 = .ok (.iconst 0, 1) := by decide +kernel
theorem dX10_runsOf_3 : decode cX10_runsOf 3 = .ok (.istore 4, 2) := by decide +kernel
theorem dX10_runsOf_5 : decode cX10_runsOf 5 = .ok (.iload 4, 2) := by decide +kernel
theorem dX10_runsOf_7 : decode cX10_runsOf 7 = .ok (.aload_n 0, 1) := by decide +kernel
theorem dX10_runsOf_8 : decode cX10_runsOf 8 = .ok (.getfield 11, 3) := by decide +kernel
theorem dX10_runsOf_11 : decode cX10_runsOf 11 = .ok (.sipush 480, 3) := by decide +kernel
theorem dX10_runsOf_14 : decode cX10_runsOf 14 = .ok (.iaload, 1) := by decide +kernel
theorem dX10_runsOf_15 : decode cX10_runsOf 15 = .ok (.if_icmp .ge 43, 3) := by decide +kernel
theorem dX10_runsOf_18 : decode cX10_runsOf 18 = .ok (.iload_n 3, 1) := by decide +kernel
theorem dX10_runsOf_19 : decode cX10_runsOf 19 = .ok (.iload 4, 2) := by decide +kernel
theorem dX10_runsOf_21 : decode cX10_runsOf 21 = .ok (.ifCond .eq 24, 3) := by decide +kernel
theorem dX10_runsOf_24 : decode cX10_runsOf 24 = .ok (.aload_n 0, 1) := by decide +kernel
theorem dX10_runsOf_25 : decode cX10_runsOf 25 = .ok (.iload 4, 2) := by decide +kernel
theorem dX10_runsOf_27 : decode cX10_runsOf 27 = .ok (.iload_n 1, 1) := by decide +kernel
theorem dX10_runsOf_28 : decode cX10_runsOf 28 = .ok (.iload_n 2, 1) := by decide +kernel
theorem dX10_runsOf_29 : decode cX10_runsOf 29 = .ok (.invokevirtual 75, 3) := by decide +kernel
theorem dX10_runsOf_32 : decode cX10_runsOf 32 = .ok (.aload_n 0, 1) := by decide +kernel
theorem dX10_runsOf_33 : decode cX10_runsOf 33 = .ok (.iload 4, 2) := by decide +kernel
theorem dX10_runsOf_35 : decode cX10_runsOf 35 = .ok (.iconst 1, 1) := by decide +kernel
theorem dX10_runsOf_36 : decode cX10_runsOf 36 = .ok (.isub, 1) := by decide +kernel
theorem dX10_runsOf_37 : decode cX10_runsOf 37 = .ok (.iload_n 1, 1) := by decide +kernel
theorem dX10_runsOf_38 : decode cX10_runsOf 38 = .ok (.iload_n 2, 1) := by decide +kernel
theorem dX10_runsOf_39 : decode cX10_runsOf 39 = .ok (.invokevirtual 75, 3) := by decide +kernel
theorem dX10_runsOf_42 : decode cX10_runsOf 42 = .ok (.if_icmp .eq 7, 3) := by decide +kernel
theorem dX10_runsOf_45 : decode cX10_runsOf 45 = .ok (.iconst 1, 1) := by decide +kernel
theorem dX10_runsOf_46 : decode cX10_runsOf 46 = .ok (.goto 4, 3) := by decide +kernel
theorem dX10_runsOf_49 : decode cX10_runsOf 49 = .ok (.iconst 0, 1) := by decide +kernel
theorem dX10_runsOf_50 : decode cX10_runsOf 50 = .ok (.iadd, 1) := by decide +kernel
theorem dX10_runsOf_51 : decode cX10_runsOf 51 = .ok (.istore_n 3, 1) := by decide +kernel
theorem dX10_runsOf_52 : decode cX10_runsOf 52 = .ok (.iinc 4 1, 3) := by decide +kernel
theorem dX10_runsOf_55 : decode cX10_runsOf 55 = .ok (.goto (-50), 3) := by decide +kernel
theorem dX10_runsOf_58 : decode cX10_runsOf 58 = .ok (.iload_n 3, 1) := by decide +kernel
theorem dX10_runsOf_59 : decode cX10_runsOf 59 = .ok (.ireturn, 1) := by decide +kernel
theorem dX10_runs_0 : decode cX10_runs 0 = .ok (.iload_n 1, 1) := by decide +kernel
theorem dX10_runs_1 : decode cX10_runs 1 = .ok (.iconst 0, 1) := by decide +kernel
theorem dX10_runs_2 : decode cX10_runs 2 = .ok (.iconst 3, 1) := by decide +kernel
theorem dX10_runs_3 : decode cX10_runs 3 = .ok (.invokestatic 63, 3) := by decide +kernel
theorem dX10_runs_6 : decode cX10_runs 6 = .ok (.ifCond .eq 22, 3) := by decide +kernel
theorem dX10_runs_9 : decode cX10_runs 9 = .ok (.iload_n 2, 1) := by decide +kernel
theorem dX10_runs_10 : decode cX10_runs 10 = .ok (.iconst 0, 1) := by decide +kernel
theorem dX10_runs_11 : decode cX10_runs 11 = .ok (.bipush 19, 2) := by decide +kernel
theorem dX10_runs_13 : decode cX10_runs 13 = .ok (.invokestatic 63, 3) := by decide +kernel
theorem dX10_runs_16 : decode cX10_runs 16 = .ok (.ifCond .eq 12, 3) := by decide +kernel
theorem dX10_runs_19 : decode cX10_runs 19 = .ok (.aload_n 0, 1) := by decide +kernel
theorem dX10_runs_20 : decode cX10_runs 20 = .ok (.iload_n 1, 1) := by decide +kernel
theorem dX10_runs_21 : decode cX10_runs 21 = .ok (.iload_n 2, 1) := by decide +kernel
theorem dX10_runs_22 : decode cX10_runs 22 = .ok (.invokevirtual 78, 3) := by decide +kernel
theorem dX10_runs_25 : decode cX10_runs 25 = .ok (.goto 4, 3) := by decide +kernel
theorem dX10_runs_28 : decode cX10_runs 28 = .ok (.iconst (-1), 1) := by decide +kernel
theorem dX10_runs_29 : decode cX10_runs 29 = .ok (.ireturn, 1) := by decide +kernel
theorem dX10_run_0 : decode cX10_run 0 = .ok (.iload_n 1, 1) := by decide +kernel
theorem dX10_run_1 : decode cX10_run 1 = .ok (.iconst 0, 1) := by decide +kernel
theorem dX10_run_2 : decode cX10_run 2 = .ok (.iconst 3, 1) := by decide +kernel
theorem dX10_run_3 : decode cX10_run 3 = .ok (.invokestatic 63, 3) := by decide +kernel
theorem dX10_run_6 : decode cX10_run 6 = .ok (.ifCond .eq 17, 3) := by decide +kernel
theorem dX10_run_9 : decode cX10_run 9 = .ok (.iload_n 2, 1) := by decide +kernel
theorem dX10_run_10 : decode cX10_run 10 = .ok (.iconst 0, 1) := by decide +kernel
theorem dX10_run_11 : decode cX10_run 11 = .ok (.bipush 19, 2) := by decide +kernel
theorem dX10_run_13 : decode cX10_run 13 = .ok (.invokestatic 63, 3) := by decide +kernel
theorem dX10_run_16 : decode cX10_run 16 = .ok (.ifCond .eq 7, 3) := by decide +kernel
theorem dX10_run_19 : decode cX10_run 19 = .ok (.iload_n 3, 1) := by decide +kernel
theorem dX10_run_20 : decode cX10_run 20 = .ok (.ifCond .ge 5, 3) := by decide +kernel
theorem dX10_run_23 : decode cX10_run 23 = .ok (.iconst (-1), 1) := by decide +kernel
theorem dX10_run_24 : decode cX10_run 24 = .ok (.ireturn, 1) := by decide +kernel
theorem dX10_run_25 : decode cX10_run 25 = .ok (.iconst (-1), 1) := by decide +kernel
theorem dX10_run_26 : decode cX10_run 26 = .ok (.istore 4, 2) := by decide +kernel
theorem dX10_run_28 : decode cX10_run 28 = .ok (.iconst 0, 1) := by decide +kernel
theorem dX10_run_29 : decode cX10_run 29 = .ok (.istore 5, 2) := by decide +kernel
theorem dX10_run_31 : decode cX10_run 31 = .ok (.iconst 0, 1) := by decide +kernel
theorem dX10_run_32 : decode cX10_run 32 = .ok (.istore 6, 2) := by decide +kernel
theorem dX10_run_34 : decode cX10_run 34 = .ok (.iload 6, 2) := by decide +kernel
theorem dX10_run_36 : decode cX10_run 36 = .ok (.aload_n 0, 1) := by decide +kernel
theorem dX10_run_37 : decode cX10_run 37 = .ok (.getfield 11, 3) := by decide +kernel
theorem dX10_run_40 : decode cX10_run 40 = .ok (.sipush 480, 3) := by decide +kernel
theorem dX10_run_43 : decode cX10_run 43 = .ok (.iaload, 1) := by decide +kernel
theorem dX10_run_44 : decode cX10_run 44 = .ok (.if_icmp .ge 53, 3) := by decide +kernel
theorem dX10_run_47 : decode cX10_run 47 = .ok (.iload 6, 2) := by decide +kernel
theorem dX10_run_49 : decode cX10_run 49 = .ok (.ifCond .eq 24, 3) := by decide +kernel
theorem dX10_run_52 : decode cX10_run 52 = .ok (.aload_n 0, 1) := by decide +kernel
theorem dX10_run_53 : decode cX10_run 53 = .ok (.iload 6, 2) := by decide +kernel
theorem dX10_run_55 : decode cX10_run 55 = .ok (.iload_n 1, 1) := by decide +kernel
theorem dX10_run_56 : decode cX10_run 56 = .ok (.iload_n 2, 1) := by decide +kernel
theorem dX10_run_57 : decode cX10_run 57 = .ok (.invokevirtual 75, 3) := by decide +kernel
theorem dX10_run_60 : decode cX10_run 60 = .ok (.aload_n 0, 1) := by decide +kernel
theorem dX10_run_61 : decode cX10_run 61 = .ok (.iload 6, 2) := by decide +kernel
theorem dX10_run_63 : decode cX10_run 63 = .ok (.iconst 1, 1) := by decide +kernel
theorem dX10_run_64 : decode cX10_run 64 = .ok (.isub, 1) := by decide +kernel
theorem dX10_run_65 : decode cX10_run 65 = .ok (.iload_n 1, 1) := by decide +kernel
theorem dX10_run_66 : decode cX10_run 66 = .ok (.iload_n 2, 1) := by decide +kernel
theorem dX10_run_67 : decode cX10_run 67 = .ok (.invokevirtual 75, 3) := by decide +kernel
theorem dX10_run_70 : decode cX10_run 70 = .ok (.if_icmp .eq 18, 3) := by decide +kernel
theorem dX10_run_73 : decode cX10_run 73 = .ok (.iinc 4 1, 3) := by decide +kernel
theorem dX10_run_76 : decode cX10_run 76 = .ok (.iload 4, 2) := by decide +kernel
theorem dX10_run_78 : decode cX10_run 78 = .ok (.iload_n 3, 1) := by decide +kernel
theorem dX10_run_79 : decode cX10_run 79 = .ok (.if_icmp .le 6, 3) := by decide +kernel
theorem dX10_run_82 : decode cX10_run 82 = .ok (.goto 15, 3) := by decide +kernel
theorem dX10_run_85 : decode cX10_run 85 = .ok (.iconst 0, 1) := by decide +kernel
theorem dX10_run_86 : decode cX10_run 86 = .ok (.istore 5, 2) := by decide +kernel
theorem dX10_run_88 : decode cX10_run 88 = .ok (.iinc 5 1, 3) := by decide +kernel
theorem dX10_run_91 : decode cX10_run 91 = .ok (.iinc 6 1, 3) := by decide +kernel
theorem dX10_run_94 : decode cX10_run 94 = .ok (.goto (-60), 3) := by decide +kernel
theorem dX10_run_97 : decode cX10_run 97 = .ok (.iload 4, 2) := by decide +kernel
theorem dX10_run_99 : decode cX10_run 99 = .ok (.iload_n 3, 1) := by decide +kernel
theorem dX10_run_100 : decode cX10_run 100 = .ok (.if_icmp .ge 6, 3) := by decide +kernel
theorem dX10_run_103 : decode cX10_run 103 = .ok (.bipush (-5), 2) := by decide +kernel
theorem dX10_run_105 : decode cX10_run 105 = .ok (.ireturn, 1) := by decide +kernel
theorem dX10_run_106 : decode cX10_run 106 = .ok (.aload_n 0, 1) := by decide +kernel
theorem dX10_run_107 : decode cX10_run 107 = .ok (.iload_n 1, 1) := by decide +kernel
theorem dX10_run_108 : decode cX10_run 108 = .ok (.iload_n 2, 1) := by decide +kernel
theorem dX10_run_109 : decode cX10_run 109 = .ok (.iload_n 3, 1) := by decide +kernel
theorem dX10_run_110 : decode cX10_run 110 = .ok (.invokevirtual 82, 3) := by decide +kernel
theorem dX10_run_113 : decode cX10_run 113 = .ok (.istore 6, 2) := by decide +kernel
theorem dX10_run_115 : decode cX10_run 115 = .ok (.iload 6, 2) := by decide +kernel
theorem dX10_run_117 : decode cX10_run 117 = .ok (.ifCond .eq 11, 3) := by decide +kernel
theorem dX10_run_120 : decode cX10_run 120 = .ok (.bipush (-10), 2) := by decide +kernel
theorem dX10_run_122 : decode cX10_run 122 = .ok (.iload 5, 2) := by decide +kernel
theorem dX10_run_124 : decode cX10_run 124 = .ok (.isub, 1) := by decide +kernel
theorem dX10_run_125 : decode cX10_run 125 = .ok (.goto 5, 3) := by decide +kernel
theorem dX10_run_128 : decode cX10_run 128 = .ok (.iload 5, 2) := by decide +kernel
theorem dX10_run_130 : decode cX10_run 130 = .ok (.ireturn, 1) := by decide +kernel
theorem dX10_isOnes_0 : decode cX10_isOnes 0 = .ok (.aload_n 0, 1) := by decide +kernel
theorem dX10_isOnes_1 : decode cX10_isOnes 1 = .ok (.iconst 0, 1) := by decide +kernel
theorem dX10_isOnes_2 : decode cX10_isOnes 2 = .ok (.iload_n 1, 1) := by decide +kernel
theorem dX10_isOnes_3 : decode cX10_isOnes 3 = .ok (.iload_n 2, 1) := by decide +kernel
theorem dX10_isOnes_4 : decode cX10_isOnes 4 = .ok (.invokevirtual 75, 3) := by decide +kernel
theorem dX10_isOnes_7 : decode cX10_isOnes 7 = .ok (.iload_n 3, 1) := by decide +kernel
theorem dX10_isOnes_8 : decode cX10_isOnes 8 = .ok (.iconst 2, 1) := by decide +kernel
theorem dX10_isOnes_9 : decode cX10_isOnes 9 = .ok (.irem, 1) := by decide +kernel
theorem dX10_isOnes_10 : decode cX10_isOnes 10 = .ok (.ifCond .ne 7, 3) := by decide +kernel
theorem dX10_isOnes_13 : decode cX10_isOnes 13 = .ok (.iconst 1, 1) := by decide +kernel
theorem dX10_isOnes_14 : decode cX10_isOnes 14 = .ok (.goto 4, 3) := by decide +kernel
theorem dX10_isOnes_17 : decode cX10_isOnes 17 = .ok (.iconst 0, 1) := by decide +kernel
theorem dX10_isOnes_18 : decode cX10_isOnes 18 = .ok (.if_icmp .ne 7, 3) := by decide +kernel
theorem dX10_isOnes_21 : decode cX10_isOnes 21 = .ok (.iconst 1, 1) := by decide +kernel
theorem dX10_isOnes_22 : decode cX10_isOnes 22 = .ok (.goto 4, 3) := by decide +kernel
theorem dX10_isOnes_25 : decode cX10_isOnes 25 = .ok (.iconst 0, 1) := by decide +kernel
theorem dX10_isOnes_26 : decode cX10_isOnes 26 = .ok (.ireturn, 1) := by decide +kernel
theorem dX10_feed_0 : decode cX10_feed 0 = .ok (.iload_n 1, 1) := by decide +kernel
theorem dX10_feed_1 : decode cX10_feed 1 = .ok (.iconst 0, 1) := by decide +kernel
theorem dX10_feed_2 : decode cX10_feed 2 = .ok (.bipush 127, 2) := by decide +kernel
theorem dX10_feed_4 : decode cX10_feed 4 = .ok (.invokestatic 63, 3) := by decide +kernel
theorem dX10_feed_7 : decode cX10_feed 7 = .ok (.ifCond .ne 6, 3) := by decide +kernel
theorem dX10_feed_10 : decode cX10_feed 10 = .ok (.bipush (-2), 2) := by decide +kernel
theorem dX10_feed_12 : decode cX10_feed 12 = .ok (.ireturn, 1) := by decide +kernel
theorem dX10_feed_13 : decode cX10_feed 13 = .ok (.aload_n 0, 1) := by decide +kernel
theorem dX10_feed_14 : decode cX10_feed 14 = .ok (.getfield 85, 3) := by decide +kernel
theorem dX10_feed_17 : decode cX10_feed 17 = .ok (.bipush 100, 2) := by decide +kernel
theorem dX10_feed_19 : decode cX10_feed 19 = .ok (.if_icmp .ne 6, 3) := by decide +kernel
theorem dX10_feed_22 : decode cX10_feed 22 = .ok (.bipush (-4), 2) := by decide +kernel
theorem dX10_feed_24 : decode cX10_feed 24 = .ok (.ireturn, 1) := by decide +kernel
theorem dX10_feed_25 : decode cX10_feed 25 = .ok (.aload_n 0, 1) := by decide +kernel
theorem dX10_feed_26 : decode cX10_feed 26 = .ok (.getfield 42, 3) := by decide +kernel
theorem dX10_feed_29 : decode cX10_feed 29 = .ok (.aload_n 0, 1) := by decide +kernel
theorem dX10_feed_30 : decode cX10_feed 30 = .ok (.dup, 1) := by decide +kernel
theorem dX10_feed_31 : decode cX10_feed 31 = .ok (.getfield 85, 3) := by decide +kernel
theorem dX10_feed_34 : decode cX10_feed 34 = .ok (.dup_x1, 1) := by decide +kernel
theorem dX10_feed_35 : decode cX10_feed 35 = .ok (.iconst 1, 1) := by decide +kernel
theorem dX10_feed_36 : decode cX10_feed 36 = .ok (.iadd, 1) := by decide +kernel
theorem dX10_feed_37 : decode cX10_feed 37 = .ok (.putfield 85, 3) := by decide +kernel
theorem dX10_feed_40 : decode cX10_feed 40 = .ok (.iload_n 1, 1) := by decide +kernel
theorem dX10_feed_41 : decode cX10_feed 41 = .ok (.iastore, 1) := by decide +kernel
theorem dX10_feed_42 : decode cX10_feed 42 = .ok (.aload_n 0, 1) := by decide +kernel
theorem dX10_feed_43 : decode cX10_feed 43 = .ok (.getfield 85, 3) := by decide +kernel
theorem dX10_feed_46 : decode cX10_feed 46 = .ok (.ireturn, 1) := by decide +kernel
theorem dX10_signAt_0 : decode cX10_signAt 0 = .ok (.iload_n 1, 1) := by decide +kernel
theorem dX10_signAt_1 : decode cX10_signAt 1 = .ok (.aload_n 0, 1) := by decide +kernel
theorem dX10_signAt_2 : decode cX10_signAt 2 = .ok (.getfield 85, 3) := by decide +kernel
theorem dX10_signAt_5 : decode cX10_signAt 5 = .ok (.if_icmp .ge 12, 3) := by decide +kernel
theorem dX10_signAt_8 : decode cX10_signAt 8 = .ok (.aload_n 0, 1) := by decide +kernel
theorem dX10_signAt_9 : decode cX10_signAt 9 = .ok (.getfield 42, 3) := by decide +kernel
theorem dX10_signAt_12 : decode cX10_signAt 12 = .ok (.iload_n 1, 1) := by decide +kernel
theorem dX10_signAt_13 : decode cX10_signAt 13 = .ok (.iaload, 1) := by decide +kernel
theorem dX10_signAt_14 : decode cX10_signAt 14 = .ok (.goto 4, 3) := by decide +kernel
theorem dX10_signAt_17 : decode cX10_signAt 17 = .ok (.iconst 0, 1) := by decide +kernel
theorem dX10_signAt_18 : decode cX10_signAt 18 = .ok (.ireturn, 1) := by decide +kernel
theorem dX10_wrong_0 : decode cX10_wrong 0 = .ok (.aload_n 0, 1) := by decide +kernel
theorem dX10_wrong_1 : decode cX10_wrong 1 = .ok (.aload_n 0, 1) := by decide +kernel
theorem dX10_wrong_2 : decode cX10_wrong 2 = .ok (.getfield 89, 3) := by decide +kernel
theorem dX10_wrong_5 : decode cX10_wrong 5 = .ok (.ifCond .ge 7, 3) := by decide +kernel
theorem dX10_wrong_8 : decode cX10_wrong 8 = .ok (.iload_n 1, 1) := by decide +kernel
theorem dX10_wrong_9 : decode cX10_wrong 9 = .ok (.goto 7, 3) := by decide +kernel
theorem dX10_wrong_12 : decode cX10_wrong 12 = .ok (.aload_n 0, 1) := by decide +kernel
theorem dX10_wrong_13 : decode cX10_wrong 13 = .ok (.getfield 89, 3) := by decide +kernel
theorem dX10_wrong_16 : decode cX10_wrong 16 = .ok (.putfield 89, 3) := by decide +kernel
theorem dX10_wrong_19 : decode cX10_wrong 19 = .ok (.return_, 1) := by decide +kernel
theorem dX10_must_0 : decode cX10_must 0 = .ok (.aload_n 0, 1) := by decide +kernel
theorem dX10_must_1 : decode cX10_must 1 = .ok (.getfield 89, 3) := by decide +kernel
theorem dX10_must_4 : decode cX10_must 4 = .ok (.ifCond .lt 4, 3) := by decide +kernel
theorem dX10_must_7 : decode cX10_must 7 = .ok (.return_, 1) := by decide +kernel
theorem dX10_must_8 : decode cX10_must 8 = .ok (.aload_n 0, 1) := by decide +kernel
theorem dX10_must_9 : decode cX10_must 9 = .ok (.aload_n 0, 1) := by decide +kernel
theorem dX10_must_10 : decode cX10_must 10 = .ok (.getfield 92, 3) := by decide +kernel
theorem dX10_must_13 : decode cX10_must 13 = .ok (.invokevirtual 95, 3) := by decide +kernel
theorem dX10_must_16 : decode cX10_must 16 = .ok (.iload_n 1, 1) := by decide +kernel
theorem dX10_must_17 : decode cX10_must 17 = .ok (.if_icmp .ne 27, 3) := by decide +kernel
theorem dX10_must_20 : decode cX10_must 20 = .ok (.aload_n 0, 1) := by decide +kernel
theorem dX10_must_21 : decode cX10_must 21 = .ok (.getfield 92, 3) := by decide +kernel
theorem dX10_must_24 : decode cX10_must 24 = .ok (.aload_n 0, 1) := by decide +kernel
theorem dX10_must_25 : decode cX10_must 25 = .ok (.getfield 85, 3) := by decide +kernel
theorem dX10_must_28 : decode cX10_must 28 = .ok (.if_icmp .ge 16, 3) := by decide +kernel
theorem dX10_must_31 : decode cX10_must 31 = .ok (.aload_n 0, 1) := by decide +kernel
theorem dX10_must_32 : decode cX10_must 32 = .ok (.dup, 1) := by decide +kernel
theorem dX10_must_33 : decode cX10_must 33 = .ok (.getfield 92, 3) := by decide +kernel
theorem dX10_must_36 : decode cX10_must 36 = .ok (.iconst 1, 1) := by decide +kernel
theorem dX10_must_37 : decode cX10_must 37 = .ok (.iadd, 1) := by decide +kernel
theorem dX10_must_38 : decode cX10_must 38 = .ok (.putfield 92, 3) := by decide +kernel
theorem dX10_must_41 : decode cX10_must 41 = .ok (.goto 11, 3) := by decide +kernel
theorem dX10_must_44 : decode cX10_must 44 = .ok (.aload_n 0, 1) := by decide +kernel
theorem dX10_must_45 : decode cX10_must 45 = .ok (.aload_n 0, 1) := by decide +kernel
theorem dX10_must_46 : decode cX10_must 46 = .ok (.getfield 92, 3) := by decide +kernel
theorem dX10_must_49 : decode cX10_must 49 = .ok (.invokevirtual 99, 3) := by decide +kernel
theorem dX10_must_52 : decode cX10_must 52 = .ok (.return_, 1) := by decide +kernel
theorem dX10_wordEnd_0 : decode cX10_wordEnd 0 = .ok (.aload_n 0, 1) := by decide +kernel
theorem dX10_wordEnd_1 : decode cX10_wordEnd 1 = .ok (.getfield 92, 3) := by decide +kernel
theorem dX10_wordEnd_4 : decode cX10_wordEnd 4 = .ok (.istore_n 1, 1) := by decide +kernel
theorem dX10_wordEnd_5 : decode cX10_wordEnd 5 = .ok (.iload_n 1, 1) := by decide +kernel
theorem dX10_wordEnd_6 : decode cX10_wordEnd 6 = .ok (.aload_n 0, 1) := by decide +kernel
theorem dX10_wordEnd_7 : decode cX10_wordEnd 7 = .ok (.getfield 85, 3) := by decide +kernel
theorem dX10_wordEnd_10 : decode cX10_wordEnd 10 = .ok (.if_icmp .ge 25, 3) := by decide +kernel
theorem dX10_wordEnd_13 : decode cX10_wordEnd 13 = .ok (.aload_n 0, 1) := by decide +kernel
theorem dX10_wordEnd_14 : decode cX10_wordEnd 14 = .ok (.getfield 42, 3) := by decide +kernel
theorem dX10_wordEnd_17 : decode cX10_wordEnd 17 = .ok (.iload_n 1, 1) := by decide +kernel
theorem dX10_wordEnd_18 : decode cX10_wordEnd 18 = .ok (.iaload, 1) := by decide +kernel
theorem dX10_wordEnd_19 : decode cX10_wordEnd 19 = .ok (.bipush 97, 2) := by decide +kernel
theorem dX10_wordEnd_21 : decode cX10_wordEnd 21 = .ok (.bipush 122, 2) := by decide +kernel
theorem dX10_wordEnd_23 : decode cX10_wordEnd 23 = .ok (.invokestatic 63, 3) := by decide +kernel
theorem dX10_wordEnd_26 : decode cX10_wordEnd 26 = .ok (.ifCond .eq 9, 3) := by decide +kernel
theorem dX10_wordEnd_29 : decode cX10_wordEnd 29 = .ok (.iinc 1 1, 3) := by decide +kernel
theorem dX10_wordEnd_32 : decode cX10_wordEnd 32 = .ok (.goto (-27), 3) := by decide +kernel
theorem dX10_wordEnd_35 : decode cX10_wordEnd 35 = .ok (.iload_n 1, 1) := by decide +kernel
theorem dX10_wordEnd_36 : decode cX10_wordEnd 36 = .ok (.ireturn, 1) := by decide +kernel
theorem dX10_word_0 : decode cX10_word 0 = .ok (.iconst 0, 1) := by decide +kernel
theorem dX10_word_1 : decode cX10_word 1 = .ok (.istore_n 1, 1) := by decide +kernel
theorem dX10_word_2 : decode cX10_word 2 = .ok (.aload_n 0, 1) := by decide +kernel
theorem dX10_word_3 : decode cX10_word 3 = .ok (.getfield 92, 3) := by decide +kernel
theorem dX10_word_6 : decode cX10_word 6 = .ok (.istore_n 2, 1) := by decide +kernel
theorem dX10_word_7 : decode cX10_word 7 = .ok (.iload_n 2, 1) := by decide +kernel
theorem dX10_word_8 : decode cX10_word 8 = .ok (.aload_n 0, 1) := by decide +kernel
theorem dX10_word_9 : decode cX10_word 9 = .ok (.invokevirtual 103, 3) := by decide +kernel
theorem dX10_word_12 : decode cX10_word 12 = .ok (.if_icmp .ge 41, 3) := by decide +kernel
theorem dX10_word_15 : decode cX10_word 15 = .ok (.iload_n 2, 1) := by decide +kernel
theorem dX10_word_16 : decode cX10_word 16 = .ok (.aload_n 0, 1) := by decide +kernel
theorem dX10_word_17 : decode cX10_word 17 = .ok (.getfield 92, 3) := by decide +kernel
theorem dX10_word_20 : decode cX10_word 20 = .ok (.isub, 1) := by decide +kernel
theorem dX10_word_21 : decode cX10_word 21 = .ok (.iconst 5, 1) := by decide +kernel
theorem dX10_word_22 : decode cX10_word 22 = .ok (.if_icmp .ge 22, 3) := by decide +kernel
theorem dX10_word_25 : decode cX10_word 25 = .ok (.bipush 32, 2) := by decide +kernel
theorem dX10_word_27 : decode cX10_word 27 = .ok (.iload_n 1, 1) := by decide +kernel
theorem dX10_word_28 : decode cX10_word 28 = .ok (.imul, 1) := by decide +kernel
theorem dX10_word_29 : decode cX10_word 29 = .ok (.aload_n 0, 1) := by decide +kernel
theorem dX10_word_30 : decode cX10_word 30 = .ok (.getfield 42, 3) := by decide +kernel
theorem dX10_word_33 : decode cX10_word 33 = .ok (.iload_n 2, 1) := by decide +kernel
theorem dX10_word_34 : decode cX10_word 34 = .ok (.iaload, 1) := by decide +kernel
theorem dX10_word_35 : decode cX10_word 35 = .ok (.iadd, 1) := by decide +kernel
theorem dX10_word_36 : decode cX10_word 36 = .ok (.bipush 97, 2) := by decide +kernel
theorem dX10_word_38 : decode cX10_word 38 = .ok (.isub, 1) := by decide +kernel
theorem dX10_word_39 : decode cX10_word 39 = .ok (.iconst 1, 1) := by decide +kernel
theorem dX10_word_40 : decode cX10_word 40 = .ok (.iadd, 1) := by decide +kernel
theorem dX10_word_41 : decode cX10_word 41 = .ok (.goto 5, 3) := by decide +kernel
theorem dX10_word_44 : decode cX10_word 44 = .ok (.ldc 107, 2) := by decide +kernel
theorem dX10_word_46 : decode cX10_word 46 = .ok (.istore_n 1, 1) := by decide +kernel
theorem dX10_word_47 : decode cX10_word 47 = .ok (.iinc 2 1, 3) := by decide +kernel
theorem dX10_word_50 : decode cX10_word 50 = .ok (.goto (-43), 3) := by decide +kernel
theorem dX10_word_53 : decode cX10_word 53 = .ok (.iload_n 1, 1) := by decide +kernel
theorem dX10_word_54 : decode cX10_word 54 = .ok (.ireturn, 1) := by decide +kernel
theorem dX10_node_0 : decode cX10_node 0 = .ok (.aload_n 0, 1) := by decide +kernel
theorem dX10_node_1 : decode cX10_node 1 = .ok (.getfield 108, 3) := by decide +kernel
theorem dX10_node_4 : decode cX10_node 4 = .ok (.aload_n 0, 1) := by decide +kernel
theorem dX10_node_5 : decode cX10_node 5 = .ok (.getfield 111, 3) := by decide +kernel
theorem dX10_node_8 : decode cX10_node 8 = .ok (.iadd, 1) := by decide +kernel
theorem dX10_node_9 : decode cX10_node 9 = .ok (.istore 7, 2) := by decide +kernel
theorem dX10_node_11 : decode cX10_node 11 = .ok (.aload_n 0, 1) := by decide +kernel
theorem dX10_node_12 : decode cX10_node 12 = .ok (.getfield 111, 3) := by decide +kernel
theorem dX10_node_15 : decode cX10_node 15 = .ok (.bipush 60, 2) := by decide +kernel
theorem dX10_node_17 : decode cX10_node 17 = .ok (.if_icmp .ge 63, 3) := by decide +kernel
theorem dX10_node_20 : decode cX10_node 20 = .ok (.aload_n 0, 1) := by decide +kernel
theorem dX10_node_21 : decode cX10_node 21 = .ok (.getfield 114, 3) := by decide +kernel
theorem dX10_node_24 : decode cX10_node 24 = .ok (.bipush 8, 2) := by decide +kernel
theorem dX10_node_26 : decode cX10_node 26 = .ok (.if_icmp .ge 54, 3) := by decide +kernel
theorem dX10_node_29 : decode cX10_node 29 = .ok (.aload_n 0, 1) := by decide +kernel
theorem dX10_node_30 : decode cX10_node 30 = .ok (.getfield 24, 3) := by decide +kernel
theorem dX10_node_33 : decode cX10_node 33 = .ok (.iload 7, 2) := by decide +kernel
theorem dX10_node_35 : decode cX10_node 35 = .ok (.iload_n 1, 1) := by decide +kernel
theorem dX10_node_36 : decode cX10_node 36 = .ok (.iastore, 1) := by decide +kernel
theorem dX10_node_37 : decode cX10_node 37 = .ok (.aload_n 0, 1) := by decide +kernel
theorem dX10_node_38 : decode cX10_node 38 = .ok (.getfield 27, 3) := by decide +kernel
theorem dX10_node_41 : decode cX10_node 41 = .ok (.iload 7, 2) := by decide +kernel
theorem dX10_node_43 : decode cX10_node 43 = .ok (.iload_n 2, 1) := by decide +kernel
theorem dX10_node_44 : decode cX10_node 44 = .ok (.iastore, 1) := by decide +kernel
theorem dX10_node_45 : decode cX10_node 45 = .ok (.aload_n 0, 1) := by decide +kernel
theorem dX10_node_46 : decode cX10_node 46 = .ok (.getfield 30, 3) := by decide +kernel
theorem dX10_node_49 : decode cX10_node 49 = .ok (.iload 7, 2) := by decide +kernel
theorem dX10_node_51 : decode cX10_node 51 = .ok (.iload_n 3, 1) := by decide +kernel
theorem dX10_node_52 : decode cX10_node 52 = .ok (.iastore, 1) := by decide +kernel
theorem dX10_node_53 : decode cX10_node 53 = .ok (.aload_n 0, 1) := by decide +kernel
theorem dX10_node_54 : decode cX10_node 54 = .ok (.getfield 33, 3) := by decide +kernel
theorem dX10_node_57 : decode cX10_node 57 = .ok (.iload 7, 2) := by decide +kernel
theorem dX10_node_59 : decode cX10_node 59 = .ok (.iload 4, 2) := by decide +kernel
theorem dX10_node_61 : decode cX10_node 61 = .ok (.iastore, 1) := by decide +kernel
theorem dX10_node_62 : decode cX10_node 62 = .ok (.aload_n 0, 1) := by decide +kernel
theorem dX10_node_63 : decode cX10_node 63 = .ok (.getfield 36, 3) := by decide +kernel
theorem dX10_node_66 : decode cX10_node 66 = .ok (.iload 7, 2) := by decide +kernel
theorem dX10_node_68 : decode cX10_node 68 = .ok (.iload 5, 2) := by decide +kernel
theorem dX10_node_70 : decode cX10_node 70 = .ok (.iastore, 1) := by decide +kernel
theorem dX10_node_71 : decode cX10_node 71 = .ok (.aload_n 0, 1) := by decide +kernel
theorem dX10_node_72 : decode cX10_node 72 = .ok (.getfield 39, 3) := by decide +kernel
theorem dX10_node_75 : decode cX10_node 75 = .ok (.iload 7, 2) := by decide +kernel
theorem dX10_node_77 : decode cX10_node 77 = .ok (.iload 6, 2) := by decide +kernel
theorem dX10_node_79 : decode cX10_node 79 = .ok (.iastore, 1) := by decide +kernel
theorem dX10_node_80 : decode cX10_node 80 = .ok (.aload_n 0, 1) := by decide +kernel
theorem dX10_node_81 : decode cX10_node 81 = .ok (.dup, 1) := by decide +kernel
theorem dX10_node_82 : decode cX10_node 82 = .ok (.getfield 111, 3) := by decide +kernel
theorem dX10_node_85 : decode cX10_node 85 = .ok (.iconst 1, 1) := by decide +kernel
theorem dX10_node_86 : decode cX10_node 86 = .ok (.iadd, 1) := by decide +kernel
theorem dX10_node_87 : decode cX10_node 87 = .ok (.putfield 111, 3) := by decide +kernel
theorem dX10_node_90 : decode cX10_node 90 = .ok (.iload 7, 2) := by decide +kernel
theorem dX10_node_92 : decode cX10_node 92 = .ok (.ireturn, 1) := by decide +kernel
theorem dX10_value_0 : decode cX10_value 0 = .ok (.aload_n 0, 1) := by decide +kernel
theorem dX10_value_1 : decode cX10_value 1 = .ok (.aload_n 0, 1) := by decide +kernel
theorem dX10_value_2 : decode cX10_value 2 = .ok (.getfield 92, 3) := by decide +kernel
theorem dX10_value_5 : decode cX10_value 5 = .ok (.invokevirtual 95, 3) := by decide +kernel
theorem dX10_value_8 : decode cX10_value 8 = .ok (.istore_n 1, 1) := by decide +kernel
theorem dX10_value_9 : decode cX10_value 9 = .ok (.aload_n 0, 1) := by decide +kernel
theorem dX10_value_10 : decode cX10_value 10 = .ok (.getfield 89, 3) := by decide +kernel
theorem dX10_value_13 : decode cX10_value 13 = .ok (.ifCond .ge 25, 3) := by decide +kernel
theorem dX10_value_16 : decode cX10_value 16 = .ok (.aload_n 0, 1) := by decide +kernel
theorem dX10_value_17 : decode cX10_value 17 = .ok (.getfield 92, 3) := by decide +kernel
theorem dX10_value_20 : decode cX10_value 20 = .ok (.aload_n 0, 1) := by decide +kernel
theorem dX10_value_21 : decode cX10_value 21 = .ok (.getfield 85, 3) := by decide +kernel
theorem dX10_value_24 : decode cX10_value 24 = .ok (.if_icmp .ge 14, 3) := by decide +kernel
theorem dX10_value_27 : decode cX10_value 27 = .ok (.iload_n 1, 1) := by decide +kernel
theorem dX10_value_28 : decode cX10_value 28 = .ok (.bipush 48, 2) := by decide +kernel
theorem dX10_value_30 : decode cX10_value 30 = .ok (.bipush 57, 2) := by decide +kernel
theorem dX10_value_32 : decode cX10_value 32 = .ok (.invokestatic 63, 3) := by decide +kernel
theorem dX10_value_35 : decode cX10_value 35 = .ok (.ifCond .ne 13, 3) := by decide +kernel
theorem dX10_value_38 : decode cX10_value 38 = .ok (.aload_n 0, 1) := by decide +kernel
theorem dX10_value_39 : decode cX10_value 39 = .ok (.aload_n 0, 1) := by decide +kernel
theorem dX10_value_40 : decode cX10_value 40 = .ok (.getfield 92, 3) := by decide +kernel
theorem dX10_value_43 : decode cX10_value 43 = .ok (.invokevirtual 99, 3) := by decide +kernel
theorem dX10_value_46 : decode cX10_value 46 = .ok (.iconst 0, 1) := by decide +kernel
theorem dX10_value_47 : decode cX10_value 47 = .ok (.ireturn, 1) := by decide +kernel
theorem dX10_value_48 : decode cX10_value 48 = .ok (.aload_n 0, 1) := by decide +kernel
theorem dX10_value_49 : decode cX10_value 49 = .ok (.dup, 1) := by decide +kernel
theorem dX10_value_50 : decode cX10_value 50 = .ok (.getfield 92, 3) := by decide +kernel
theorem dX10_value_53 : decode cX10_value 53 = .ok (.iconst 1, 1) := by decide +kernel
theorem dX10_value_54 : decode cX10_value 54 = .ok (.iadd, 1) := by decide +kernel
theorem dX10_value_55 : decode cX10_value 55 = .ok (.putfield 92, 3) := by decide +kernel
theorem dX10_value_58 : decode cX10_value 58 = .ok (.iload_n 1, 1) := by decide +kernel
theorem dX10_value_59 : decode cX10_value 59 = .ok (.bipush 48, 2) := by decide +kernel
theorem dX10_value_61 : decode cX10_value 61 = .ok (.isub, 1) := by decide +kernel
theorem dX10_value_62 : decode cX10_value 62 = .ok (.istore_n 2, 1) := by decide +kernel
theorem dX10_value_63 : decode cX10_value 63 = .ok (.aload_n 0, 1) := by decide +kernel
theorem dX10_value_64 : decode cX10_value 64 = .ok (.getfield 92, 3) := by decide +kernel
theorem dX10_value_67 : decode cX10_value 67 = .ok (.aload_n 0, 1) := by decide +kernel
theorem dX10_value_68 : decode cX10_value 68 = .ok (.getfield 85, 3) := by decide +kernel
theorem dX10_value_71 : decode cX10_value 71 = .ok (.if_icmp .ge 64, 3) := by decide +kernel
theorem dX10_value_74 : decode cX10_value 74 = .ok (.aload_n 0, 1) := by decide +kernel
theorem dX10_value_75 : decode cX10_value 75 = .ok (.getfield 42, 3) := by decide +kernel
theorem dX10_value_78 : decode cX10_value 78 = .ok (.aload_n 0, 1) := by decide +kernel
theorem dX10_value_79 : decode cX10_value 79 = .ok (.getfield 92, 3) := by decide +kernel
theorem dX10_value_82 : decode cX10_value 82 = .ok (.iaload, 1) := by decide +kernel
theorem dX10_value_83 : decode cX10_value 83 = .ok (.bipush 48, 2) := by decide +kernel
theorem dX10_value_85 : decode cX10_value 85 = .ok (.bipush 57, 2) := by decide +kernel
theorem dX10_value_87 : decode cX10_value 87 = .ok (.invokestatic 63, 3) := by decide +kernel
theorem dX10_value_90 : decode cX10_value 90 = .ok (.ifCond .eq 45, 3) := by decide +kernel
theorem dX10_value_93 : decode cX10_value 93 = .ok (.bipush 10, 2) := by decide +kernel
theorem dX10_value_95 : decode cX10_value 95 = .ok (.iload_n 2, 1) := by decide +kernel
theorem dX10_value_96 : decode cX10_value 96 = .ok (.imul, 1) := by decide +kernel
theorem dX10_value_97 : decode cX10_value 97 = .ok (.aload_n 0, 1) := by decide +kernel
theorem dX10_value_98 : decode cX10_value 98 = .ok (.getfield 42, 3) := by decide +kernel
theorem dX10_value_101 : decode cX10_value 101 = .ok (.aload_n 0, 1) := by decide +kernel
theorem dX10_value_102 : decode cX10_value 102 = .ok (.getfield 92, 3) := by decide +kernel
theorem dX10_value_105 : decode cX10_value 105 = .ok (.iaload, 1) := by decide +kernel
theorem dX10_value_106 : decode cX10_value 106 = .ok (.iadd, 1) := by decide +kernel
theorem dX10_value_107 : decode cX10_value 107 = .ok (.bipush 48, 2) := by decide +kernel
theorem dX10_value_109 : decode cX10_value 109 = .ok (.isub, 1) := by decide +kernel
theorem dX10_value_110 : decode cX10_value 110 = .ok (.istore_n 2, 1) := by decide +kernel
theorem dX10_value_111 : decode cX10_value 111 = .ok (.iload_n 2, 1) := by decide +kernel
theorem dX10_value_112 : decode cX10_value 112 = .ok (.bipush 15, 2) := by decide +kernel
theorem dX10_value_114 : decode cX10_value 114 = .ok (.if_icmp .le 11, 3) := by decide +kernel
theorem dX10_value_117 : decode cX10_value 117 = .ok (.aload_n 0, 1) := by decide +kernel
theorem dX10_value_118 : decode cX10_value 118 = .ok (.aload_n 0, 1) := by decide +kernel
theorem dX10_value_119 : decode cX10_value 119 = .ok (.getfield 92, 3) := by decide +kernel
theorem dX10_value_122 : decode cX10_value 122 = .ok (.invokevirtual 99, 3) := by decide +kernel
theorem dX10_value_125 : decode cX10_value 125 = .ok (.aload_n 0, 1) := by decide +kernel
theorem dX10_value_126 : decode cX10_value 126 = .ok (.dup, 1) := by decide +kernel
theorem dX10_value_127 : decode cX10_value 127 = .ok (.getfield 92, 3) := by decide +kernel
theorem dX10_value_130 : decode cX10_value 130 = .ok (.iconst 1, 1) := by decide +kernel
theorem dX10_value_131 : decode cX10_value 131 = .ok (.iadd, 1) := by decide +kernel
theorem dX10_value_132 : decode cX10_value 132 = .ok (.putfield 92, 3) := by decide +kernel
theorem dX10_value_135 : decode cX10_value 135 = .ok (.iload_n 2, 1) := by decide +kernel
theorem dX10_value_136 : decode cX10_value 136 = .ok (.ireturn, 1) := by decide +kernel
theorem dX10_columnHere_0 : decode cX10_columnHere 0 = .ok (.aload_n 0, 1) := by decide +kernel
theorem dX10_columnHere_1 : decode cX10_columnHere 1 = .ok (.dup, 1) := by decide +kernel
theorem dX10_columnHere_2 : decode cX10_columnHere 2 = .ok (.getfield 92, 3) := by decide +kernel
theorem dX10_columnHere_5 : decode cX10_columnHere 5 = .ok (.iconst 1, 1) := by decide +kernel
theorem dX10_columnHere_6 : decode cX10_columnHere 6 = .ok (.iadd, 1) := by decide +kernel
theorem dX10_columnHere_7 : decode cX10_columnHere 7 = .ok (.putfield 92, 3) := by decide +kernel
theorem dX10_columnHere_10 : decode cX10_columnHere 10 = .ok (.aload_n 0, 1) := by decide +kernel
theorem dX10_columnHere_11 : decode cX10_columnHere 11 = .ok (.bipush 32, 2) := by decide +kernel
theorem dX10_columnHere_13 : decode cX10_columnHere 13 = .ok (.invokevirtual 117, 3) := by decide +kernel
theorem dX10_columnHere_16 : decode cX10_columnHere 16 = .ok (.aload_n 0, 1) := by decide +kernel
theorem dX10_columnHere_17 : decode cX10_columnHere 17 = .ok (.getfield 89, 3) := by decide +kernel
theorem dX10_columnHere_20 : decode cX10_columnHere 20 = .ok (.ifCond .lt 5, 3) := by decide +kernel
theorem dX10_columnHere_23 : decode cX10_columnHere 23 = .ok (.iconst 0, 1) := by decide +kernel
theorem dX10_columnHere_24 : decode cX10_columnHere 24 = .ok (.ireturn, 1) := by decide +kernel
theorem dX10_columnHere_25 : decode cX10_columnHere 25 = .ok (.aload_n 0, 1) := by decide +kernel
theorem dX10_columnHere_26 : decode cX10_columnHere 26 = .ok (.invokevirtual 120, 3) := by decide +kernel
theorem dX10_columnHere_29 : decode cX10_columnHere 29 = .ok (.istore_n 2, 1) := by decide +kernel
theorem dX10_columnHere_30 : decode cX10_columnHere 30 = .ok (.iload_n 2, 1) := by decide +kernel
theorem dX10_columnHere_31 : decode cX10_columnHere 31 = .ok (.sipush 307, 3) := by decide +kernel
theorem dX10_columnHere_34 : decode cX10_columnHere 34 = .ok (.if_icmp .eq 16, 3) := by decide +kernel
theorem dX10_columnHere_37 : decode cX10_columnHere 37 = .ok (.iload_n 2, 1) := by decide +kernel
theorem dX10_columnHere_38 : decode cX10_columnHere 38 = .ok (.ldc 123, 2) := by decide +kernel
theorem dX10_columnHere_40 : decode cX10_columnHere 40 = .ok (.if_icmp .eq 10, 3) := by decide +kernel
theorem dX10_columnHere_43 : decode cX10_columnHere 43 = .ok (.iload_n 2, 1) := by decide +kernel
theorem dX10_columnHere_44 : decode cX10_columnHere 44 = .ok (.sipush 302, 3) := by decide +kernel
theorem dX10_columnHere_47 : decode cX10_columnHere 47 = .ok (.if_icmp .ne 77, 3) := by decide +kernel
theorem dX10_columnHere_50 : decode cX10_columnHere 50 = .ok (.aload_n 0, 1) := by decide +kernel
theorem dX10_columnHere_51 : decode cX10_columnHere 51 = .ok (.aload_n 0, 1) := by decide +kernel
theorem dX10_columnHere_52 : decode cX10_columnHere 52 = .ok (.invokevirtual 103, 3) := by decide +kernel
theorem dX10_columnHere_55 : decode cX10_columnHere 55 = .ok (.putfield 92, 3) := by decide +kernel
theorem dX10_columnHere_58 : decode cX10_columnHere 58 = .ok (.aload_n 0, 1) := by decide +kernel
theorem dX10_columnHere_59 : decode cX10_columnHere 59 = .ok (.bipush 32, 2) := by decide +kernel
theorem dX10_columnHere_61 : decode cX10_columnHere 61 = .ok (.invokevirtual 117, 3) := by decide +kernel
theorem dX10_columnHere_64 : decode cX10_columnHere 64 = .ok (.aload_n 0, 1) := by decide +kernel
theorem dX10_columnHere_65 : decode cX10_columnHere 65 = .ok (.invokevirtual 124, 3) := by decide +kernel
theorem dX10_columnHere_68 : decode cX10_columnHere 68 = .ok (.istore_n 3, 1) := by decide +kernel
theorem dX10_columnHere_69 : decode cX10_columnHere 69 = .ok (.iload_n 2, 1) := by decide +kernel
theorem dX10_columnHere_70 : decode cX10_columnHere 70 = .ok (.sipush 302, 3) := by decide +kernel
theorem dX10_columnHere_73 : decode cX10_columnHere 73 = .ok (.if_icmp .eq 25, 3) := by decide +kernel
theorem dX10_columnHere_76 : decode cX10_columnHere 76 = .ok (.aload_n 0, 1) := by decide +kernel
theorem dX10_columnHere_77 : decode cX10_columnHere 77 = .ok (.iload_n 2, 1) := by decide +kernel
theorem dX10_columnHere_78 : decode cX10_columnHere 78 = .ok (.sipush 307, 3) := by decide +kernel
theorem dX10_columnHere_81 : decode cX10_columnHere 81 = .ok (.if_icmp .ne 7, 3) := by decide +kernel
theorem dX10_columnHere_84 : decode cX10_columnHere 84 = .ok (.iconst 1, 1) := by decide +kernel
theorem dX10_columnHere_85 : decode cX10_columnHere 85 = .ok (.goto 4, 3) := by decide +kernel
theorem dX10_columnHere_88 : decode cX10_columnHere 88 = .ok (.iconst 2, 1) := by decide +kernel
theorem dX10_columnHere_89 : decode cX10_columnHere 89 = .ok (.iload_n 1, 1) := by decide +kernel
theorem dX10_columnHere_90 : decode cX10_columnHere 90 = .ok (.iload_n 3, 1) := by decide +kernel
theorem dX10_columnHere_91 : decode cX10_columnHere 91 = .ok (.iload_n 3, 1) := by decide +kernel
theorem dX10_columnHere_92 : decode cX10_columnHere 92 = .ok (.iconst 0, 1) := by decide +kernel
theorem dX10_columnHere_93 : decode cX10_columnHere 93 = .ok (.iconst 0, 1) := by decide +kernel
theorem dX10_columnHere_94 : decode cX10_columnHere 94 = .ok (.invokevirtual 127, 3) := by decide +kernel
theorem dX10_columnHere_97 : decode cX10_columnHere 97 = .ok (.ireturn, 1) := by decide +kernel
theorem dX10_columnHere_98 : decode cX10_columnHere 98 = .ok (.aload_n 0, 1) := by decide +kernel
theorem dX10_columnHere_99 : decode cX10_columnHere 99 = .ok (.bipush 46, 2) := by decide +kernel
theorem dX10_columnHere_101 : decode cX10_columnHere 101 = .ok (.invokevirtual 117, 3) := by decide +kernel
theorem dX10_columnHere_104 : decode cX10_columnHere 104 = .ok (.aload_n 0, 1) := by decide +kernel
theorem dX10_columnHere_105 : decode cX10_columnHere 105 = .ok (.bipush 46, 2) := by decide +kernel
theorem dX10_columnHere_107 : decode cX10_columnHere 107 = .ok (.invokevirtual 117, 3) := by decide +kernel
theorem dX10_columnHere_110 : decode cX10_columnHere 110 = .ok (.aload_n 0, 1) := by decide +kernel
theorem dX10_columnHere_111 : decode cX10_columnHere 111 = .ok (.iconst 3, 1) := by decide +kernel
theorem dX10_columnHere_112 : decode cX10_columnHere 112 = .ok (.iload_n 1, 1) := by decide +kernel
theorem dX10_columnHere_113 : decode cX10_columnHere 113 = .ok (.iload_n 3, 1) := by decide +kernel
theorem dX10_columnHere_114 : decode cX10_columnHere 114 = .ok (.aload_n 0, 1) := by decide +kernel
theorem dX10_columnHere_115 : decode cX10_columnHere 115 = .ok (.invokevirtual 124, 3) := by decide +kernel
theorem dX10_columnHere_118 : decode cX10_columnHere 118 = .ok (.iconst 0, 1) := by decide +kernel
theorem dX10_columnHere_119 : decode cX10_columnHere 119 = .ok (.iconst 0, 1) := by decide +kernel
theorem dX10_columnHere_120 : decode cX10_columnHere 120 = .ok (.invokevirtual 127, 3) := by decide +kernel
theorem dX10_columnHere_123 : decode cX10_columnHere 123 = .ok (.ireturn, 1) := by decide +kernel
theorem dX10_columnHere_124 : decode cX10_columnHere 124 = .ok (.aload_n 0, 1) := by decide +kernel
theorem dX10_columnHere_125 : decode cX10_columnHere 125 = .ok (.aload_n 0, 1) := by decide +kernel
theorem dX10_columnHere_126 : decode cX10_columnHere 126 = .ok (.getfield 92, 3) := by decide +kernel
theorem dX10_columnHere_129 : decode cX10_columnHere 129 = .ok (.invokevirtual 99, 3) := by decide +kernel
theorem dX10_columnHere_132 : decode cX10_columnHere 132 = .ok (.iconst 0, 1) := by decide +kernel
theorem dX10_columnHere_133 : decode cX10_columnHere 133 = .ok (.ireturn, 1) := by decide +kernel
theorem dX10_factor_0 : decode cX10_factor 0 = .ok (.aload_n 0, 1) := by decide +kernel
theorem dX10_factor_1 : decode cX10_factor 1 = .ok (.getfield 89, 3) := by decide +kernel
theorem dX10_factor_4 : decode cX10_factor 4 = .ok (.ifCond .lt 5, 3) := by decide +kernel
theorem dX10_factor_7 : decode cX10_factor 7 = .ok (.iconst 0, 1) := by decide +kernel
theorem dX10_factor_8 : decode cX10_factor 8 = .ok (.ireturn, 1) := by decide +kernel
theorem dX10_factor_9 : decode cX10_factor 9 = .ok (.aload_n 0, 1) := by decide +kernel
theorem dX10_factor_10 : decode cX10_factor 10 = .ok (.aload_n 0, 1) := by decide +kernel
theorem dX10_factor_11 : decode cX10_factor 11 = .ok (.getfield 92, 3) := by decide +kernel
theorem dX10_factor_14 : decode cX10_factor 14 = .ok (.invokevirtual 95, 3) := by decide +kernel
theorem dX10_factor_17 : decode cX10_factor 17 = .ok (.bipush 40, 2) := by decide +kernel
theorem dX10_factor_19 : decode cX10_factor 19 = .ok (.if_icmp .ne 98, 3) := by decide +kernel
theorem dX10_factor_22 : decode cX10_factor 22 = .ok (.aload_n 0, 1) := by decide +kernel
theorem dX10_factor_23 : decode cX10_factor 23 = .ok (.getfield 92, 3) := by decide +kernel
theorem dX10_factor_26 : decode cX10_factor 26 = .ok (.aload_n 0, 1) := by decide +kernel
theorem dX10_factor_27 : decode cX10_factor 27 = .ok (.getfield 85, 3) := by decide +kernel
theorem dX10_factor_30 : decode cX10_factor 30 = .ok (.if_icmp .ge 87, 3) := by decide +kernel
theorem dX10_factor_33 : decode cX10_factor 33 = .ok (.iload_n 1, 1) := by decide +kernel
theorem dX10_factor_34 : decode cX10_factor 34 = .ok (.bipush 6, 2) := by decide +kernel
theorem dX10_factor_36 : decode cX10_factor 36 = .ok (.if_icmp .ne 13, 3) := by decide +kernel
theorem dX10_factor_39 : decode cX10_factor 39 = .ok (.aload_n 0, 1) := by decide +kernel
theorem dX10_factor_40 : decode cX10_factor 40 = .ok (.aload_n 0, 1) := by decide +kernel
theorem dX10_factor_41 : decode cX10_factor 41 = .ok (.getfield 92, 3) := by decide +kernel
theorem dX10_factor_44 : decode cX10_factor 44 = .ok (.invokevirtual 99, 3) := by decide +kernel
theorem dX10_factor_47 : decode cX10_factor 47 = .ok (.iconst 0, 1) := by decide +kernel
theorem dX10_factor_48 : decode cX10_factor 48 = .ok (.ireturn, 1) := by decide +kernel
theorem dX10_factor_49 : decode cX10_factor 49 = .ok (.aload_n 0, 1) := by decide +kernel
theorem dX10_factor_50 : decode cX10_factor 50 = .ok (.dup, 1) := by decide +kernel
theorem dX10_factor_51 : decode cX10_factor 51 = .ok (.getfield 92, 3) := by decide +kernel
theorem dX10_factor_54 : decode cX10_factor 54 = .ok (.iconst 1, 1) := by decide +kernel
theorem dX10_factor_55 : decode cX10_factor 55 = .ok (.iadd, 1) := by decide +kernel
theorem dX10_factor_56 : decode cX10_factor 56 = .ok (.putfield 92, 3) := by decide +kernel
theorem dX10_factor_59 : decode cX10_factor 59 = .ok (.aload_n 0, 1) := by decide +kernel
theorem dX10_factor_60 : decode cX10_factor 60 = .ok (.iload_n 1, 1) := by decide +kernel
theorem dX10_factor_61 : decode cX10_factor 61 = .ok (.iconst 1, 1) := by decide +kernel
theorem dX10_factor_62 : decode cX10_factor 62 = .ok (.iadd, 1) := by decide +kernel
theorem dX10_factor_63 : decode cX10_factor 63 = .ok (.invokevirtual 131, 3) := by decide +kernel
theorem dX10_factor_66 : decode cX10_factor 66 = .ok (.istore_n 2, 1) := by decide +kernel
theorem dX10_factor_67 : decode cX10_factor 67 = .ok (.aload_n 0, 1) := by decide +kernel
theorem dX10_factor_68 : decode cX10_factor 68 = .ok (.getfield 89, 3) := by decide +kernel
theorem dX10_factor_71 : decode cX10_factor 71 = .ok (.ifCond .ge 38, 3) := by decide +kernel
theorem dX10_factor_74 : decode cX10_factor 74 = .ok (.aload_n 0, 1) := by decide +kernel
theorem dX10_factor_75 : decode cX10_factor 75 = .ok (.getfield 92, 3) := by decide +kernel
theorem dX10_factor_78 : decode cX10_factor 78 = .ok (.aload_n 0, 1) := by decide +kernel
theorem dX10_factor_79 : decode cX10_factor 79 = .ok (.getfield 85, 3) := by decide +kernel
theorem dX10_factor_82 : decode cX10_factor 82 = .ok (.if_icmp .ge 27, 3) := by decide +kernel
theorem dX10_factor_85 : decode cX10_factor 85 = .ok (.aload_n 0, 1) := by decide +kernel
theorem dX10_factor_86 : decode cX10_factor 86 = .ok (.getfield 42, 3) := by decide +kernel
theorem dX10_factor_89 : decode cX10_factor 89 = .ok (.aload_n 0, 1) := by decide +kernel
theorem dX10_factor_90 : decode cX10_factor 90 = .ok (.getfield 92, 3) := by decide +kernel
theorem dX10_factor_93 : decode cX10_factor 93 = .ok (.iaload, 1) := by decide +kernel
theorem dX10_factor_94 : decode cX10_factor 94 = .ok (.bipush 32, 2) := by decide +kernel
theorem dX10_factor_96 : decode cX10_factor 96 = .ok (.if_icmp .ne 13, 3) := by decide +kernel
theorem dX10_factor_99 : decode cX10_factor 99 = .ok (.aload_n 0, 1) := by decide +kernel
theorem dX10_factor_100 : decode cX10_factor 100 = .ok (.aload_n 0, 1) := by decide +kernel
theorem dX10_factor_101 : decode cX10_factor 101 = .ok (.getfield 92, 3) := by decide +kernel
theorem dX10_factor_104 : decode cX10_factor 104 = .ok (.iconst 1, 1) := by decide +kernel
theorem dX10_factor_105 : decode cX10_factor 105 = .ok (.iadd, 1) := by decide +kernel
theorem dX10_factor_106 : decode cX10_factor 106 = .ok (.invokevirtual 99, 3) := by decide +kernel
theorem dX10_factor_109 : decode cX10_factor 109 = .ok (.aload_n 0, 1) := by decide +kernel
theorem dX10_factor_110 : decode cX10_factor 110 = .ok (.bipush 41, 2) := by decide +kernel
theorem dX10_factor_112 : decode cX10_factor 112 = .ok (.invokevirtual 117, 3) := by decide +kernel
theorem dX10_factor_115 : decode cX10_factor 115 = .ok (.iload_n 2, 1) := by decide +kernel
theorem dX10_factor_116 : decode cX10_factor 116 = .ok (.ireturn, 1) := by decide +kernel
theorem dX10_factor_117 : decode cX10_factor 117 = .ok (.aload_n 0, 1) := by decide +kernel
theorem dX10_factor_118 : decode cX10_factor 118 = .ok (.invokevirtual 120, 3) := by decide +kernel
theorem dX10_factor_121 : decode cX10_factor 121 = .ok (.istore_n 2, 1) := by decide +kernel
theorem dX10_factor_122 : decode cX10_factor 122 = .ok (.iload_n 2, 1) := by decide +kernel
theorem dX10_factor_123 : decode cX10_factor 123 = .ok (.sipush 1420, 3) := by decide +kernel
theorem dX10_factor_126 : decode cX10_factor 126 = .ok (.if_icmp .ne 22, 3) := by decide +kernel
theorem dX10_factor_129 : decode cX10_factor 129 = .ok (.aload_n 0, 1) := by decide +kernel
theorem dX10_factor_130 : decode cX10_factor 130 = .ok (.aload_n 0, 1) := by decide +kernel
theorem dX10_factor_131 : decode cX10_factor 131 = .ok (.invokevirtual 103, 3) := by decide +kernel
theorem dX10_factor_134 : decode cX10_factor 134 = .ok (.putfield 92, 3) := by decide +kernel
theorem dX10_factor_137 : decode cX10_factor 137 = .ok (.aload_n 0, 1) := by decide +kernel
theorem dX10_factor_138 : decode cX10_factor 138 = .ok (.iconst 0, 1) := by decide +kernel
theorem dX10_factor_139 : decode cX10_factor 139 = .ok (.iconst 0, 1) := by decide +kernel
theorem dX10_factor_140 : decode cX10_factor 140 = .ok (.iconst 0, 1) := by decide +kernel
theorem dX10_factor_141 : decode cX10_factor 141 = .ok (.iconst 0, 1) := by decide +kernel
theorem dX10_factor_142 : decode cX10_factor 142 = .ok (.iconst 0, 1) := by decide +kernel
theorem dX10_factor_143 : decode cX10_factor 143 = .ok (.iconst 0, 1) := by decide +kernel
theorem dX10_factor_144 : decode cX10_factor 144 = .ok (.invokevirtual 127, 3) := by decide +kernel
theorem dX10_factor_147 : decode cX10_factor 147 = .ok (.ireturn, 1) := by decide +kernel
theorem dX10_factor_148 : decode cX10_factor 148 = .ok (.iload_n 2, 1) := by decide +kernel
theorem dX10_factor_149 : decode cX10_factor 149 = .ok (.sipush 14836, 3) := by decide +kernel
theorem dX10_factor_152 : decode cX10_factor 152 = .ok (.if_icmp .ne 42, 3) := by decide +kernel
theorem dX10_factor_155 : decode cX10_factor 155 = .ok (.iload_n 1, 1) := by decide +kernel
theorem dX10_factor_156 : decode cX10_factor 156 = .ok (.bipush 6, 2) := by decide +kernel
theorem dX10_factor_158 : decode cX10_factor 158 = .ok (.if_icmp .ge 36, 3) := by decide +kernel
theorem dX10_factor_161 : decode cX10_factor 161 = .ok (.aload_n 0, 1) := by decide +kernel
theorem dX10_factor_162 : decode cX10_factor 162 = .ok (.aload_n 0, 1) := by decide +kernel
theorem dX10_factor_163 : decode cX10_factor 163 = .ok (.invokevirtual 103, 3) := by decide +kernel
theorem dX10_factor_166 : decode cX10_factor 166 = .ok (.putfield 92, 3) := by decide +kernel
theorem dX10_factor_169 : decode cX10_factor 169 = .ok (.aload_n 0, 1) := by decide +kernel
theorem dX10_factor_170 : decode cX10_factor 170 = .ok (.bipush 32, 2) := by decide +kernel
theorem dX10_factor_172 : decode cX10_factor 172 = .ok (.invokevirtual 117, 3) := by decide +kernel
theorem dX10_factor_175 : decode cX10_factor 175 = .ok (.aload_n 0, 1) := by decide +kernel
theorem dX10_factor_176 : decode cX10_factor 176 = .ok (.iload_n 1, 1) := by decide +kernel
theorem dX10_factor_177 : decode cX10_factor 177 = .ok (.iconst 1, 1) := by decide +kernel
theorem dX10_factor_178 : decode cX10_factor 178 = .ok (.iadd, 1) := by decide +kernel
theorem dX10_factor_179 : decode cX10_factor 179 = .ok (.invokevirtual 134, 3) := by decide +kernel
theorem dX10_factor_182 : decode cX10_factor 182 = .ok (.istore_n 3, 1) := by decide +kernel
theorem dX10_factor_183 : decode cX10_factor 183 = .ok (.aload_n 0, 1) := by decide +kernel
theorem dX10_factor_184 : decode cX10_factor 184 = .ok (.iconst 4, 1) := by decide +kernel
theorem dX10_factor_185 : decode cX10_factor 185 = .ok (.iconst 0, 1) := by decide +kernel
theorem dX10_factor_186 : decode cX10_factor 186 = .ok (.iconst 0, 1) := by decide +kernel
theorem dX10_factor_187 : decode cX10_factor 187 = .ok (.iconst 0, 1) := by decide +kernel
theorem dX10_factor_188 : decode cX10_factor 188 = .ok (.iload_n 3, 1) := by decide +kernel
theorem dX10_factor_189 : decode cX10_factor 189 = .ok (.iconst 0, 1) := by decide +kernel
theorem dX10_factor_190 : decode cX10_factor 190 = .ok (.invokevirtual 127, 3) := by decide +kernel
theorem dX10_factor_193 : decode cX10_factor 193 = .ok (.ireturn, 1) := by decide +kernel
theorem dX10_factor_194 : decode cX10_factor 194 = .ok (.iload_n 2, 1) := by decide +kernel
theorem dX10_factor_195 : decode cX10_factor 195 = .ok (.iconst 1, 1) := by decide +kernel
theorem dX10_factor_196 : decode cX10_factor 196 = .ok (.iconst 4, 1) := by decide +kernel
theorem dX10_factor_197 : decode cX10_factor 197 = .ok (.invokestatic 63, 3) := by decide +kernel
theorem dX10_factor_200 : decode cX10_factor 200 = .ok (.ifCond .eq 11, 3) := by decide +kernel
theorem dX10_factor_203 : decode cX10_factor 203 = .ok (.aload_n 0, 1) := by decide +kernel
theorem dX10_factor_204 : decode cX10_factor 204 = .ok (.iload_n 2, 1) := by decide +kernel
theorem dX10_factor_205 : decode cX10_factor 205 = .ok (.iconst 1, 1) := by decide +kernel
theorem dX10_factor_206 : decode cX10_factor 206 = .ok (.isub, 1) := by decide +kernel
theorem dX10_factor_207 : decode cX10_factor 207 = .ok (.invokevirtual 137, 3) := by decide +kernel
theorem dX10_factor_210 : decode cX10_factor 210 = .ok (.ireturn, 1) := by decide +kernel
theorem dX10_factor_211 : decode cX10_factor 211 = .ok (.aload_n 0, 1) := by decide +kernel
theorem dX10_factor_212 : decode cX10_factor 212 = .ok (.aload_n 0, 1) := by decide +kernel
theorem dX10_factor_213 : decode cX10_factor 213 = .ok (.getfield 92, 3) := by decide +kernel
theorem dX10_factor_216 : decode cX10_factor 216 = .ok (.invokevirtual 99, 3) := by decide +kernel
theorem dX10_factor_219 : decode cX10_factor 219 = .ok (.iconst 0, 1) := by decide +kernel
theorem dX10_factor_220 : decode cX10_factor 220 = .ok (.ireturn, 1) := by decide +kernel
theorem dX10_follows_0 : decode cX10_follows 0 = .ok (.aload_n 0, 1) := by decide +kernel
theorem dX10_follows_1 : decode cX10_follows 1 = .ok (.getfield 89, 3) := by decide +kernel
theorem dX10_follows_4 : decode cX10_follows 4 = .ok (.ifCond .ge 28, 3) := by decide +kernel
theorem dX10_follows_7 : decode cX10_follows 7 = .ok (.aload_n 0, 1) := by decide +kernel
theorem dX10_follows_8 : decode cX10_follows 8 = .ok (.getfield 92, 3) := by decide +kernel
theorem dX10_follows_11 : decode cX10_follows 11 = .ok (.aload_n 0, 1) := by decide +kernel
theorem dX10_follows_12 : decode cX10_follows 12 = .ok (.getfield 85, 3) := by decide +kernel
theorem dX10_follows_15 : decode cX10_follows 15 = .ok (.if_icmp .ge 17, 3) := by decide +kernel
theorem dX10_follows_18 : decode cX10_follows 18 = .ok (.aload_n 0, 1) := by decide +kernel
theorem dX10_follows_19 : decode cX10_follows 19 = .ok (.getfield 42, 3) := by decide +kernel
theorem dX10_follows_22 : decode cX10_follows 22 = .ok (.aload_n 0, 1) := by decide +kernel
theorem dX10_follows_23 : decode cX10_follows 23 = .ok (.getfield 92, 3) := by decide +kernel
theorem dX10_follows_26 : decode cX10_follows 26 = .ok (.iaload, 1) := by decide +kernel
theorem dX10_follows_27 : decode cX10_follows 27 = .ok (.bipush 32, 2) := by decide +kernel
theorem dX10_follows_29 : decode cX10_follows 29 = .ok (.if_icmp .eq 5, 3) := by decide +kernel
theorem dX10_follows_32 : decode cX10_follows 32 = .ok (.iconst 0, 1) := by decide +kernel
theorem dX10_follows_33 : decode cX10_follows 33 = .ok (.ireturn, 1) := by decide +kernel
theorem dX10_follows_34 : decode cX10_follows 34 = .ok (.aload_n 0, 1) := by decide +kernel
theorem dX10_follows_35 : decode cX10_follows 35 = .ok (.dup, 1) := by decide +kernel
theorem dX10_follows_36 : decode cX10_follows 36 = .ok (.getfield 92, 3) := by decide +kernel
theorem dX10_follows_39 : decode cX10_follows 39 = .ok (.iconst 1, 1) := by decide +kernel
theorem dX10_follows_40 : decode cX10_follows 40 = .ok (.iadd, 1) := by decide +kernel
theorem dX10_follows_41 : decode cX10_follows 41 = .ok (.putfield 92, 3) := by decide +kernel
theorem dX10_follows_44 : decode cX10_follows 44 = .ok (.aload_n 0, 1) := by decide +kernel
theorem dX10_follows_45 : decode cX10_follows 45 = .ok (.invokevirtual 120, 3) := by decide +kernel
theorem dX10_follows_48 : decode cX10_follows 48 = .ok (.iload_n 1, 1) := by decide +kernel
theorem dX10_follows_49 : decode cX10_follows 49 = .ok (.if_icmp .ne 7, 3) := by decide +kernel
theorem dX10_follows_52 : decode cX10_follows 52 = .ok (.iconst 1, 1) := by decide +kernel
theorem dX10_follows_53 : decode cX10_follows 53 = .ok (.goto 4, 3) := by decide +kernel
theorem dX10_follows_56 : decode cX10_follows 56 = .ok (.iconst 0, 1) := by decide +kernel
theorem dX10_follows_57 : decode cX10_follows 57 = .ok (.istore_n 2, 1) := by decide +kernel
theorem dX10_follows_58 : decode cX10_follows 58 = .ok (.aload_n 0, 1) := by decide +kernel
theorem dX10_follows_59 : decode cX10_follows 59 = .ok (.dup, 1) := by decide +kernel
theorem dX10_follows_60 : decode cX10_follows 60 = .ok (.getfield 92, 3) := by decide +kernel
theorem dX10_follows_63 : decode cX10_follows 63 = .ok (.iconst 1, 1) := by decide +kernel
theorem dX10_follows_64 : decode cX10_follows 64 = .ok (.isub, 1) := by decide +kernel
theorem dX10_follows_65 : decode cX10_follows 65 = .ok (.putfield 92, 3) := by decide +kernel
theorem dX10_follows_68 : decode cX10_follows 68 = .ok (.iload_n 2, 1) := by decide +kernel
theorem dX10_follows_69 : decode cX10_follows 69 = .ok (.ireturn, 1) := by decide +kernel
theorem dX10_both_0 : decode cX10_both 0 = .ok (.aload_n 0, 1) := by decide +kernel
theorem dX10_both_1 : decode cX10_both 1 = .ok (.iload_n 1, 1) := by decide +kernel
theorem dX10_both_2 : decode cX10_both 2 = .ok (.invokevirtual 134, 3) := by decide +kernel
theorem dX10_both_5 : decode cX10_both 5 = .ok (.istore_n 2, 1) := by decide +kernel
theorem dX10_both_6 : decode cX10_both 6 = .ok (.aload_n 0, 1) := by decide +kernel
theorem dX10_both_7 : decode cX10_both 7 = .ok (.sipush 1476, 3) := by decide +kernel
theorem dX10_both_10 : decode cX10_both 10 = .ok (.invokevirtual 140, 3) := by decide +kernel
theorem dX10_both_13 : decode cX10_both 13 = .ok (.ifCond .eq 47, 3) := by decide +kernel
theorem dX10_both_16 : decode cX10_both 16 = .ok (.aload_n 0, 1) := by decide +kernel
theorem dX10_both_17 : decode cX10_both 17 = .ok (.dup, 1) := by decide +kernel
theorem dX10_both_18 : decode cX10_both 18 = .ok (.getfield 92, 3) := by decide +kernel
theorem dX10_both_21 : decode cX10_both 21 = .ok (.iconst 1, 1) := by decide +kernel
theorem dX10_both_22 : decode cX10_both 22 = .ok (.iadd, 1) := by decide +kernel
theorem dX10_both_23 : decode cX10_both 23 = .ok (.putfield 92, 3) := by decide +kernel
theorem dX10_both_26 : decode cX10_both 26 = .ok (.aload_n 0, 1) := by decide +kernel
theorem dX10_both_27 : decode cX10_both 27 = .ok (.aload_n 0, 1) := by decide +kernel
theorem dX10_both_28 : decode cX10_both 28 = .ok (.invokevirtual 103, 3) := by decide +kernel
theorem dX10_both_31 : decode cX10_both 31 = .ok (.putfield 92, 3) := by decide +kernel
theorem dX10_both_34 : decode cX10_both 34 = .ok (.aload_n 0, 1) := by decide +kernel
theorem dX10_both_35 : decode cX10_both 35 = .ok (.bipush 32, 2) := by decide +kernel
theorem dX10_both_37 : decode cX10_both 37 = .ok (.invokevirtual 117, 3) := by decide +kernel
theorem dX10_both_40 : decode cX10_both 40 = .ok (.aload_n 0, 1) := by decide +kernel
theorem dX10_both_41 : decode cX10_both 41 = .ok (.iload_n 1, 1) := by decide +kernel
theorem dX10_both_42 : decode cX10_both 42 = .ok (.invokevirtual 134, 3) := by decide +kernel
theorem dX10_both_45 : decode cX10_both 45 = .ok (.istore_n 3, 1) := by decide +kernel
theorem dX10_both_46 : decode cX10_both 46 = .ok (.aload_n 0, 1) := by decide +kernel
theorem dX10_both_47 : decode cX10_both 47 = .ok (.iconst 5, 1) := by decide +kernel
theorem dX10_both_48 : decode cX10_both 48 = .ok (.iconst 0, 1) := by decide +kernel
theorem dX10_both_49 : decode cX10_both 49 = .ok (.iconst 0, 1) := by decide +kernel
theorem dX10_both_50 : decode cX10_both 50 = .ok (.iconst 0, 1) := by decide +kernel
theorem dX10_both_51 : decode cX10_both 51 = .ok (.iload_n 2, 1) := by decide +kernel
theorem dX10_both_52 : decode cX10_both 52 = .ok (.iload_n 3, 1) := by decide +kernel
theorem dX10_both_53 : decode cX10_both 53 = .ok (.invokevirtual 127, 3) := by decide +kernel
theorem dX10_both_56 : decode cX10_both 56 = .ok (.istore_n 2, 1) := by decide +kernel
theorem dX10_both_57 : decode cX10_both 57 = .ok (.goto (-51), 3) := by decide +kernel
theorem dX10_both_60 : decode cX10_both 60 = .ok (.iload_n 2, 1) := by decide +kernel
theorem dX10_both_61 : decode cX10_both 61 = .ok (.ireturn, 1) := by decide +kernel
theorem dX10_either_0 : decode cX10_either 0 = .ok (.aload_n 0, 1) := by decide +kernel
theorem dX10_either_1 : decode cX10_either 1 = .ok (.iload_n 1, 1) := by decide +kernel
theorem dX10_either_2 : decode cX10_either 2 = .ok (.invokevirtual 143, 3) := by decide +kernel
theorem dX10_either_5 : decode cX10_either 5 = .ok (.istore_n 2, 1) := by decide +kernel
theorem dX10_either_6 : decode cX10_either 6 = .ok (.aload_n 0, 1) := by decide +kernel
theorem dX10_either_7 : decode cX10_either 7 = .ok (.sipush 498, 3) := by decide +kernel
theorem dX10_either_10 : decode cX10_either 10 = .ok (.invokevirtual 140, 3) := by decide +kernel
theorem dX10_either_13 : decode cX10_either 13 = .ok (.ifCond .eq 48, 3) := by decide +kernel
theorem dX10_either_16 : decode cX10_either 16 = .ok (.aload_n 0, 1) := by decide +kernel
theorem dX10_either_17 : decode cX10_either 17 = .ok (.dup, 1) := by decide +kernel
theorem dX10_either_18 : decode cX10_either 18 = .ok (.getfield 92, 3) := by decide +kernel
theorem dX10_either_21 : decode cX10_either 21 = .ok (.iconst 1, 1) := by decide +kernel
theorem dX10_either_22 : decode cX10_either 22 = .ok (.iadd, 1) := by decide +kernel
theorem dX10_either_23 : decode cX10_either 23 = .ok (.putfield 92, 3) := by decide +kernel
theorem dX10_either_26 : decode cX10_either 26 = .ok (.aload_n 0, 1) := by decide +kernel
theorem dX10_either_27 : decode cX10_either 27 = .ok (.aload_n 0, 1) := by decide +kernel
theorem dX10_either_28 : decode cX10_either 28 = .ok (.invokevirtual 103, 3) := by decide +kernel
theorem dX10_either_31 : decode cX10_either 31 = .ok (.putfield 92, 3) := by decide +kernel
theorem dX10_either_34 : decode cX10_either 34 = .ok (.aload_n 0, 1) := by decide +kernel
theorem dX10_either_35 : decode cX10_either 35 = .ok (.bipush 32, 2) := by decide +kernel
theorem dX10_either_37 : decode cX10_either 37 = .ok (.invokevirtual 117, 3) := by decide +kernel
theorem dX10_either_40 : decode cX10_either 40 = .ok (.aload_n 0, 1) := by decide +kernel
theorem dX10_either_41 : decode cX10_either 41 = .ok (.iload_n 1, 1) := by decide +kernel
theorem dX10_either_42 : decode cX10_either 42 = .ok (.invokevirtual 143, 3) := by decide +kernel
theorem dX10_either_45 : decode cX10_either 45 = .ok (.istore_n 3, 1) := by decide +kernel
theorem dX10_either_46 : decode cX10_either 46 = .ok (.aload_n 0, 1) := by decide +kernel
theorem dX10_either_47 : decode cX10_either 47 = .ok (.bipush 6, 2) := by decide +kernel
theorem dX10_either_49 : decode cX10_either 49 = .ok (.iconst 0, 1) := by decide +kernel
theorem dX10_either_50 : decode cX10_either 50 = .ok (.iconst 0, 1) := by decide +kernel
theorem dX10_either_51 : decode cX10_either 51 = .ok (.iconst 0, 1) := by decide +kernel
theorem dX10_either_52 : decode cX10_either 52 = .ok (.iload_n 2, 1) := by decide +kernel
theorem dX10_either_53 : decode cX10_either 53 = .ok (.iload_n 3, 1) := by decide +kernel
theorem dX10_either_54 : decode cX10_either 54 = .ok (.invokevirtual 127, 3) := by decide +kernel
theorem dX10_either_57 : decode cX10_either 57 = .ok (.istore_n 2, 1) := by decide +kernel
theorem dX10_either_58 : decode cX10_either 58 = .ok (.goto (-52), 3) := by decide +kernel
theorem dX10_either_61 : decode cX10_either 61 = .ok (.iload_n 2, 1) := by decide +kernel
theorem dX10_either_62 : decode cX10_either 62 = .ok (.ireturn, 1) := by decide +kernel
theorem dX10_query_0 : decode cX10_query 0 = .ok (.aload_n 0, 1) := by decide +kernel
theorem dX10_query_1 : decode cX10_query 1 = .ok (.getfield 114, 3) := by decide +kernel
theorem dX10_query_4 : decode cX10_query 4 = .ok (.bipush 8, 2) := by decide +kernel
theorem dX10_query_6 : decode cX10_query 6 = .ok (.if_icmp .ne 6, 3) := by decide +kernel
theorem dX10_query_9 : decode cX10_query 9 = .ok (.bipush (-4), 2) := by decide +kernel
theorem dX10_query_11 : decode cX10_query 11 = .ok (.ireturn, 1) := by decide +kernel
theorem dX10_query_12 : decode cX10_query 12 = .ok (.aload_n 0, 1) := by decide +kernel
theorem dX10_query_13 : decode cX10_query 13 = .ok (.iconst 0, 1) := by decide +kernel
theorem dX10_query_14 : decode cX10_query 14 = .ok (.putfield 92, 3) := by decide +kernel
theorem dX10_query_17 : decode cX10_query 17 = .ok (.aload_n 0, 1) := by decide +kernel
theorem dX10_query_18 : decode cX10_query 18 = .ok (.iconst (-1), 1) := by decide +kernel
theorem dX10_query_19 : decode cX10_query 19 = .ok (.putfield 89, 3) := by decide +kernel
theorem dX10_query_22 : decode cX10_query 22 = .ok (.aload_n 0, 1) := by decide +kernel
theorem dX10_query_23 : decode cX10_query 23 = .ok (.iconst 0, 1) := by decide +kernel
theorem dX10_query_24 : decode cX10_query 24 = .ok (.putfield 111, 3) := by decide +kernel
theorem dX10_query_27 : decode cX10_query 27 = .ok (.aload_n 0, 1) := by decide +kernel
theorem dX10_query_28 : decode cX10_query 28 = .ok (.aload_n 0, 1) := by decide +kernel
theorem dX10_query_29 : decode cX10_query 29 = .ok (.getfield 114, 3) := by decide +kernel
theorem dX10_query_32 : decode cX10_query 32 = .ok (.bipush 60, 2) := by decide +kernel
theorem dX10_query_34 : decode cX10_query 34 = .ok (.imul, 1) := by decide +kernel
theorem dX10_query_35 : decode cX10_query 35 = .ok (.putfield 108, 3) := by decide +kernel
theorem dX10_query_38 : decode cX10_query 38 = .ok (.aload_n 0, 1) := by decide +kernel
theorem dX10_query_39 : decode cX10_query 39 = .ok (.iconst 0, 1) := by decide +kernel
theorem dX10_query_40 : decode cX10_query 40 = .ok (.invokevirtual 131, 3) := by decide +kernel
theorem dX10_query_43 : decode cX10_query 43 = .ok (.istore_n 1, 1) := by decide +kernel
theorem dX10_query_44 : decode cX10_query 44 = .ok (.aload_n 0, 1) := by decide +kernel
theorem dX10_query_45 : decode cX10_query 45 = .ok (.getfield 89, 3) := by decide +kernel
theorem dX10_query_48 : decode cX10_query 48 = .ok (.ifCond .ge 45, 3) := by decide +kernel
theorem dX10_query_51 : decode cX10_query 51 = .ok (.aload_n 0, 1) := by decide +kernel
theorem dX10_query_52 : decode cX10_query 52 = .ok (.getfield 92, 3) := by decide +kernel
theorem dX10_query_55 : decode cX10_query 55 = .ok (.aload_n 0, 1) := by decide +kernel
theorem dX10_query_56 : decode cX10_query 56 = .ok (.getfield 85, 3) := by decide +kernel
theorem dX10_query_59 : decode cX10_query 59 = .ok (.if_icmp .ge 34, 3) := by decide +kernel
theorem dX10_query_62 : decode cX10_query 62 = .ok (.aload_n 0, 1) := by decide +kernel
theorem dX10_query_63 : decode cX10_query 63 = .ok (.aload_n 0, 1) := by decide +kernel
theorem dX10_query_64 : decode cX10_query 64 = .ok (.getfield 42, 3) := by decide +kernel
theorem dX10_query_67 : decode cX10_query 67 = .ok (.aload_n 0, 1) := by decide +kernel
theorem dX10_query_68 : decode cX10_query 68 = .ok (.getfield 92, 3) := by decide +kernel
theorem dX10_query_71 : decode cX10_query 71 = .ok (.iaload, 1) := by decide +kernel
theorem dX10_query_72 : decode cX10_query 72 = .ok (.bipush 32, 2) := by decide +kernel
theorem dX10_query_74 : decode cX10_query 74 = .ok (.if_icmp .ne 12, 3) := by decide +kernel
theorem dX10_query_77 : decode cX10_query 77 = .ok (.aload_n 0, 1) := by decide +kernel
theorem dX10_query_78 : decode cX10_query 78 = .ok (.getfield 92, 3) := by decide +kernel
theorem dX10_query_81 : decode cX10_query 81 = .ok (.iconst 1, 1) := by decide +kernel
theorem dX10_query_82 : decode cX10_query 82 = .ok (.iadd, 1) := by decide +kernel
theorem dX10_query_83 : decode cX10_query 83 = .ok (.goto 7, 3) := by decide +kernel
theorem dX10_query_86 : decode cX10_query 86 = .ok (.aload_n 0, 1) := by decide +kernel
theorem dX10_query_87 : decode cX10_query 87 = .ok (.getfield 92, 3) := by decide +kernel
theorem dX10_query_90 : decode cX10_query 90 = .ok (.invokevirtual 99, 3) := by decide +kernel
theorem dX10_query_93 : decode cX10_query 93 = .ok (.aload_n 0, 1) := by decide +kernel
theorem dX10_query_94 : decode cX10_query 94 = .ok (.iconst 0, 1) := by decide +kernel
theorem dX10_query_95 : decode cX10_query 95 = .ok (.putfield 85, 3) := by decide +kernel
theorem dX10_query_98 : decode cX10_query 98 = .ok (.aload_n 0, 1) := by decide +kernel
theorem dX10_query_99 : decode cX10_query 99 = .ok (.getfield 89, 3) := by decide +kernel
theorem dX10_query_102 : decode cX10_query 102 = .ok (.ifCond .lt 11, 3) := by decide +kernel
theorem dX10_query_105 : decode cX10_query 105 = .ok (.bipush (-10), 2) := by decide +kernel
theorem dX10_query_107 : decode cX10_query 107 = .ok (.aload_n 0, 1) := by decide +kernel
theorem dX10_query_108 : decode cX10_query 108 = .ok (.getfield 89, 3) := by decide +kernel
theorem dX10_query_111 : decode cX10_query 111 = .ok (.isub, 1) := by decide +kernel
theorem dX10_query_112 : decode cX10_query 112 = .ok (.ireturn, 1) := by decide +kernel
theorem dX10_query_113 : decode cX10_query 113 = .ok (.aload_n 0, 1) := by decide +kernel
theorem dX10_query_114 : decode cX10_query 114 = .ok (.getfield 21, 3) := by decide +kernel
theorem dX10_query_117 : decode cX10_query 117 = .ok (.aload_n 0, 1) := by decide +kernel
theorem dX10_query_118 : decode cX10_query 118 = .ok (.getfield 114, 3) := by decide +kernel
theorem dX10_query_121 : decode cX10_query 121 = .ok (.iload_n 1, 1) := by decide +kernel
theorem dX10_query_122 : decode cX10_query 122 = .ok (.iastore, 1) := by decide +kernel
theorem dX10_query_123 : decode cX10_query 123 = .ok (.aload_n 0, 1) := by decide +kernel
theorem dX10_query_124 : decode cX10_query 124 = .ok (.dup, 1) := by decide +kernel
theorem dX10_query_125 : decode cX10_query 125 = .ok (.getfield 114, 3) := by decide +kernel
theorem dX10_query_128 : decode cX10_query 128 = .ok (.dup_x1, 1) := by decide +kernel
theorem dX10_query_129 : decode cX10_query 129 = .ok (.iconst 1, 1) := by decide +kernel
theorem dX10_query_130 : decode cX10_query 130 = .ok (.iadd, 1) := by decide +kernel
theorem dX10_query_131 : decode cX10_query 131 = .ok (.putfield 114, 3) := by decide +kernel
theorem dX10_query_134 : decode cX10_query 134 = .ok (.ireturn, 1) := by decide +kernel
theorem dX10_isQuery_0 : decode cX10_isQuery 0 = .ok (.iload_n 1, 1) := by decide +kernel
theorem dX10_isQuery_1 : decode cX10_isQuery 1 = .ok (.iconst 0, 1) := by decide +kernel
theorem dX10_isQuery_2 : decode cX10_isQuery 2 = .ok (.aload_n 0, 1) := by decide +kernel
theorem dX10_isQuery_3 : decode cX10_isQuery 3 = .ok (.getfield 114, 3) := by decide +kernel
theorem dX10_isQuery_6 : decode cX10_isQuery 6 = .ok (.iconst 1, 1) := by decide +kernel
theorem dX10_isQuery_7 : decode cX10_isQuery 7 = .ok (.isub, 1) := by decide +kernel
theorem dX10_isQuery_8 : decode cX10_isQuery 8 = .ok (.invokestatic 63, 3) := by decide +kernel
theorem dX10_isQuery_11 : decode cX10_isQuery 11 = .ok (.ireturn, 1) := by decide +kernel
theorem dX10_isSo_0 : decode cX10_isSo 0 = .ok (.aload_n 0, 1) := by decide +kernel
theorem dX10_isSo_1 : decode cX10_isSo 1 = .ok (.getfield 11, 3) := by decide +kernel
theorem dX10_isSo_4 : decode cX10_isSo 4 = .ok (.iconst 4, 1) := by decide +kernel
theorem dX10_isSo_5 : decode cX10_isSo 5 = .ok (.iload_n 2, 1) := by decide +kernel
theorem dX10_isSo_6 : decode cX10_isSo 6 = .ok (.imul, 1) := by decide +kernel
theorem dX10_isSo_7 : decode cX10_isSo 7 = .ok (.aload_n 0, 1) := by decide +kernel
theorem dX10_isSo_8 : decode cX10_isSo 8 = .ok (.getfield 27, 3) := by decide +kernel
theorem dX10_isSo_11 : decode cX10_isSo 11 = .ok (.iload_n 1, 1) := by decide +kernel
theorem dX10_isSo_12 : decode cX10_isSo 12 = .ok (.iaload, 1) := by decide +kernel
theorem dX10_isSo_13 : decode cX10_isSo 13 = .ok (.iadd, 1) := by decide +kernel
theorem dX10_isSo_14 : decode cX10_isSo 14 = .ok (.iaload, 1) := by decide +kernel
theorem dX10_isSo_15 : decode cX10_isSo 15 = .ok (.istore_n 3, 1) := by decide +kernel
theorem dX10_isSo_16 : decode cX10_isSo 16 = .ok (.aload_n 0, 1) := by decide +kernel
theorem dX10_isSo_17 : decode cX10_isSo 17 = .ok (.getfield 24, 3) := by decide +kernel
theorem dX10_isSo_20 : decode cX10_isSo 20 = .ok (.iload_n 1, 1) := by decide +kernel
theorem dX10_isSo_21 : decode cX10_isSo 21 = .ok (.iaload, 1) := by decide +kernel
theorem dX10_isSo_22 : decode cX10_isSo 22 = .ok (.tableswitch 152 0 5 #[38, 40, 56, 72, 98, 118], 38) := by decide +kernel
theorem dX10_isSo_60 : decode cX10_isSo 60 = .ok (.iconst 1, 1) := by decide +kernel
theorem dX10_isSo_61 : decode cX10_isSo 61 = .ok (.ireturn, 1) := by decide +kernel
theorem dX10_isSo_62 : decode cX10_isSo 62 = .ok (.iload_n 3, 1) := by decide +kernel
theorem dX10_isSo_63 : decode cX10_isSo 63 = .ok (.aload_n 0, 1) := by decide +kernel
theorem dX10_isSo_64 : decode cX10_isSo 64 = .ok (.getfield 30, 3) := by decide +kernel
theorem dX10_isSo_67 : decode cX10_isSo 67 = .ok (.iload_n 1, 1) := by decide +kernel
theorem dX10_isSo_68 : decode cX10_isSo 68 = .ok (.iaload, 1) := by decide +kernel
theorem dX10_isSo_69 : decode cX10_isSo 69 = .ok (.if_icmp .ne 7, 3) := by decide +kernel
theorem dX10_isSo_72 : decode cX10_isSo 72 = .ok (.iconst 1, 1) := by decide +kernel
theorem dX10_isSo_73 : decode cX10_isSo 73 = .ok (.goto 4, 3) := by decide +kernel
theorem dX10_isSo_76 : decode cX10_isSo 76 = .ok (.iconst 0, 1) := by decide +kernel
theorem dX10_isSo_77 : decode cX10_isSo 77 = .ok (.ireturn, 1) := by decide +kernel
theorem dX10_isSo_78 : decode cX10_isSo 78 = .ok (.iload_n 3, 1) := by decide +kernel
theorem dX10_isSo_79 : decode cX10_isSo 79 = .ok (.aload_n 0, 1) := by decide +kernel
theorem dX10_isSo_80 : decode cX10_isSo 80 = .ok (.getfield 30, 3) := by decide +kernel
theorem dX10_isSo_83 : decode cX10_isSo 83 = .ok (.iload_n 1, 1) := by decide +kernel
theorem dX10_isSo_84 : decode cX10_isSo 84 = .ok (.iaload, 1) := by decide +kernel
theorem dX10_isSo_85 : decode cX10_isSo 85 = .ok (.if_icmp .ge 7, 3) := by decide +kernel
theorem dX10_isSo_88 : decode cX10_isSo 88 = .ok (.iconst 1, 1) := by decide +kernel
theorem dX10_isSo_89 : decode cX10_isSo 89 = .ok (.goto 4, 3) := by decide +kernel
theorem dX10_isSo_92 : decode cX10_isSo 92 = .ok (.iconst 0, 1) := by decide +kernel
theorem dX10_isSo_93 : decode cX10_isSo 93 = .ok (.ireturn, 1) := by decide +kernel
theorem dX10_isSo_94 : decode cX10_isSo 94 = .ok (.iload_n 3, 1) := by decide +kernel
theorem dX10_isSo_95 : decode cX10_isSo 95 = .ok (.aload_n 0, 1) := by decide +kernel
theorem dX10_isSo_96 : decode cX10_isSo 96 = .ok (.getfield 30, 3) := by decide +kernel
theorem dX10_isSo_99 : decode cX10_isSo 99 = .ok (.iload_n 1, 1) := by decide +kernel
theorem dX10_isSo_100 : decode cX10_isSo 100 = .ok (.iaload, 1) := by decide +kernel
theorem dX10_isSo_101 : decode cX10_isSo 101 = .ok (.if_icmp .lt 17, 3) := by decide +kernel
theorem dX10_isSo_104 : decode cX10_isSo 104 = .ok (.iload_n 3, 1) := by decide +kernel
theorem dX10_isSo_105 : decode cX10_isSo 105 = .ok (.aload_n 0, 1) := by decide +kernel
theorem dX10_isSo_106 : decode cX10_isSo 106 = .ok (.getfield 33, 3) := by decide +kernel
theorem dX10_isSo_109 : decode cX10_isSo 109 = .ok (.iload_n 1, 1) := by decide +kernel
theorem dX10_isSo_110 : decode cX10_isSo 110 = .ok (.iaload, 1) := by decide +kernel
theorem dX10_isSo_111 : decode cX10_isSo 111 = .ok (.if_icmp .gt 7, 3) := by decide +kernel
theorem dX10_isSo_114 : decode cX10_isSo 114 = .ok (.iconst 1, 1) := by decide +kernel
theorem dX10_isSo_115 : decode cX10_isSo 115 = .ok (.goto 4, 3) := by decide +kernel
theorem dX10_isSo_118 : decode cX10_isSo 118 = .ok (.iconst 0, 1) := by decide +kernel
theorem dX10_isSo_119 : decode cX10_isSo 119 = .ok (.ireturn, 1) := by decide +kernel
theorem dX10_isSo_120 : decode cX10_isSo 120 = .ok (.aload_n 0, 1) := by decide +kernel
theorem dX10_isSo_121 : decode cX10_isSo 121 = .ok (.aload_n 0, 1) := by decide +kernel
theorem dX10_isSo_122 : decode cX10_isSo 122 = .ok (.getfield 36, 3) := by decide +kernel
theorem dX10_isSo_125 : decode cX10_isSo 125 = .ok (.iload_n 1, 1) := by decide +kernel
theorem dX10_isSo_126 : decode cX10_isSo 126 = .ok (.iaload, 1) := by decide +kernel
theorem dX10_isSo_127 : decode cX10_isSo 127 = .ok (.iload_n 2, 1) := by decide +kernel
theorem dX10_isSo_128 : decode cX10_isSo 128 = .ok (.invokevirtual 146, 3) := by decide +kernel
theorem dX10_isSo_131 : decode cX10_isSo 131 = .ok (.ifCond .ne 7, 3) := by decide +kernel
theorem dX10_isSo_134 : decode cX10_isSo 134 = .ok (.iconst 1, 1) := by decide +kernel
theorem dX10_isSo_135 : decode cX10_isSo 135 = .ok (.goto 4, 3) := by decide +kernel
theorem dX10_isSo_138 : decode cX10_isSo 138 = .ok (.iconst 0, 1) := by decide +kernel
theorem dX10_isSo_139 : decode cX10_isSo 139 = .ok (.ireturn, 1) := by decide +kernel
theorem dX10_isSo_140 : decode cX10_isSo 140 = .ok (.aload_n 0, 1) := by decide +kernel
theorem dX10_isSo_141 : decode cX10_isSo 141 = .ok (.aload_n 0, 1) := by decide +kernel
theorem dX10_isSo_142 : decode cX10_isSo 142 = .ok (.getfield 36, 3) := by decide +kernel
theorem dX10_isSo_145 : decode cX10_isSo 145 = .ok (.iload_n 1, 1) := by decide +kernel
theorem dX10_isSo_146 : decode cX10_isSo 146 = .ok (.iaload, 1) := by decide +kernel
theorem dX10_isSo_147 : decode cX10_isSo 147 = .ok (.iload_n 2, 1) := by decide +kernel
theorem dX10_isSo_148 : decode cX10_isSo 148 = .ok (.invokevirtual 146, 3) := by decide +kernel
theorem dX10_isSo_151 : decode cX10_isSo 151 = .ok (.ifCond .eq 21, 3) := by decide +kernel
theorem dX10_isSo_154 : decode cX10_isSo 154 = .ok (.aload_n 0, 1) := by decide +kernel
theorem dX10_isSo_155 : decode cX10_isSo 155 = .ok (.aload_n 0, 1) := by decide +kernel
theorem dX10_isSo_156 : decode cX10_isSo 156 = .ok (.getfield 39, 3) := by decide +kernel
theorem dX10_isSo_159 : decode cX10_isSo 159 = .ok (.iload_n 1, 1) := by decide +kernel
theorem dX10_isSo_160 : decode cX10_isSo 160 = .ok (.iaload, 1) := by decide +kernel
theorem dX10_isSo_161 : decode cX10_isSo 161 = .ok (.iload_n 2, 1) := by decide +kernel
theorem dX10_isSo_162 : decode cX10_isSo 162 = .ok (.invokevirtual 146, 3) := by decide +kernel
theorem dX10_isSo_165 : decode cX10_isSo 165 = .ok (.ifCond .eq 7, 3) := by decide +kernel
theorem dX10_isSo_168 : decode cX10_isSo 168 = .ok (.iconst 1, 1) := by decide +kernel
theorem dX10_isSo_169 : decode cX10_isSo 169 = .ok (.goto 4, 3) := by decide +kernel
theorem dX10_isSo_172 : decode cX10_isSo 172 = .ok (.iconst 0, 1) := by decide +kernel
theorem dX10_isSo_173 : decode cX10_isSo 173 = .ok (.ireturn, 1) := by decide +kernel
theorem dX10_isSo_174 : decode cX10_isSo 174 = .ok (.aload_n 0, 1) := by decide +kernel
theorem dX10_isSo_175 : decode cX10_isSo 175 = .ok (.aload_n 0, 1) := by decide +kernel
theorem dX10_isSo_176 : decode cX10_isSo 176 = .ok (.getfield 36, 3) := by decide +kernel
theorem dX10_isSo_179 : decode cX10_isSo 179 = .ok (.iload_n 1, 1) := by decide +kernel
theorem dX10_isSo_180 : decode cX10_isSo 180 = .ok (.iaload, 1) := by decide +kernel
theorem dX10_isSo_181 : decode cX10_isSo 181 = .ok (.iload_n 2, 1) := by decide +kernel
theorem dX10_isSo_182 : decode cX10_isSo 182 = .ok (.invokevirtual 146, 3) := by decide +kernel
theorem dX10_isSo_185 : decode cX10_isSo 185 = .ok (.ifCond .ne 17, 3) := by decide +kernel
theorem dX10_isSo_188 : decode cX10_isSo 188 = .ok (.aload_n 0, 1) := by decide +kernel
theorem dX10_isSo_189 : decode cX10_isSo 189 = .ok (.aload_n 0, 1) := by decide +kernel
theorem dX10_isSo_190 : decode cX10_isSo 190 = .ok (.getfield 39, 3) := by decide +kernel
theorem dX10_isSo_193 : decode cX10_isSo 193 = .ok (.iload_n 1, 1) := by decide +kernel
theorem dX10_isSo_194 : decode cX10_isSo 194 = .ok (.iaload, 1) := by decide +kernel
theorem dX10_isSo_195 : decode cX10_isSo 195 = .ok (.iload_n 2, 1) := by decide +kernel
theorem dX10_isSo_196 : decode cX10_isSo 196 = .ok (.invokevirtual 146, 3) := by decide +kernel
theorem dX10_isSo_199 : decode cX10_isSo 199 = .ok (.ifCond .eq 7, 3) := by decide +kernel
theorem dX10_isSo_202 : decode cX10_isSo 202 = .ok (.iconst 1, 1) := by decide +kernel
theorem dX10_isSo_203 : decode cX10_isSo 203 = .ok (.goto 4, 3) := by decide +kernel
theorem dX10_isSo_206 : decode cX10_isSo 206 = .ok (.iconst 0, 1) := by decide +kernel
theorem dX10_isSo_207 : decode cX10_isSo 207 = .ok (.ireturn, 1) := by decide +kernel
theorem dX10_resultMany_0 : decode cX10_resultMany 0 = .ok (.iconst 0, 1) := by decide +kernel
theorem dX10_resultMany_1 : decode cX10_resultMany 1 = .ok (.istore_n 2, 1) := by decide +kernel
theorem dX10_resultMany_2 : decode cX10_resultMany 2 = .ok (.iconst 0, 1) := by decide +kernel
theorem dX10_resultMany_3 : decode cX10_resultMany 3 = .ok (.istore_n 3, 1) := by decide +kernel
theorem dX10_resultMany_4 : decode cX10_resultMany 4 = .ok (.iload_n 3, 1) := by decide +kernel
theorem dX10_resultMany_5 : decode cX10_resultMany 5 = .ok (.aload_n 0, 1) := by decide +kernel
theorem dX10_resultMany_6 : decode cX10_resultMany 6 = .ok (.getfield 11, 3) := by decide +kernel
theorem dX10_resultMany_9 : decode cX10_resultMany 9 = .ok (.sipush 480, 3) := by decide +kernel
theorem dX10_resultMany_12 : decode cX10_resultMany 12 = .ok (.iaload, 1) := by decide +kernel
theorem dX10_resultMany_13 : decode cX10_resultMany 13 = .ok (.if_icmp .ge 26, 3) := by decide +kernel
theorem dX10_resultMany_16 : decode cX10_resultMany 16 = .ok (.iload_n 2, 1) := by decide +kernel
theorem dX10_resultMany_17 : decode cX10_resultMany 17 = .ok (.aload_n 0, 1) := by decide +kernel
theorem dX10_resultMany_18 : decode cX10_resultMany 18 = .ok (.iload_n 1, 1) := by decide +kernel
theorem dX10_resultMany_19 : decode cX10_resultMany 19 = .ok (.iload_n 3, 1) := by decide +kernel
theorem dX10_resultMany_20 : decode cX10_resultMany 20 = .ok (.invokevirtual 146, 3) := by decide +kernel
theorem dX10_resultMany_23 : decode cX10_resultMany 23 = .ok (.ifCond .eq 7, 3) := by decide +kernel
theorem dX10_resultMany_26 : decode cX10_resultMany 26 = .ok (.iconst 1, 1) := by decide +kernel
theorem dX10_resultMany_27 : decode cX10_resultMany 27 = .ok (.goto 4, 3) := by decide +kernel
theorem dX10_resultMany_30 : decode cX10_resultMany 30 = .ok (.iconst 0, 1) := by decide +kernel
theorem dX10_resultMany_31 : decode cX10_resultMany 31 = .ok (.iadd, 1) := by decide +kernel
theorem dX10_resultMany_32 : decode cX10_resultMany 32 = .ok (.istore_n 2, 1) := by decide +kernel
theorem dX10_resultMany_33 : decode cX10_resultMany 33 = .ok (.iinc 3 1, 3) := by decide +kernel
theorem dX10_resultMany_36 : decode cX10_resultMany 36 = .ok (.goto (-32), 3) := by decide +kernel
theorem dX10_resultMany_39 : decode cX10_resultMany 39 = .ok (.iload_n 2, 1) := by decide +kernel
theorem dX10_resultMany_40 : decode cX10_resultMany 40 = .ok (.ireturn, 1) := by decide +kernel
theorem dX10_resultRuns_0 : decode cX10_resultRuns 0 = .ok (.iconst 0, 1) := by decide +kernel
theorem dX10_resultRuns_1 : decode cX10_resultRuns 1 = .ok (.istore_n 2, 1) := by decide +kernel
theorem dX10_resultRuns_2 : decode cX10_resultRuns 2 = .ok (.iconst 0, 1) := by decide +kernel
theorem dX10_resultRuns_3 : decode cX10_resultRuns 3 = .ok (.istore_n 3, 1) := by decide +kernel
theorem dX10_resultRuns_4 : decode cX10_resultRuns 4 = .ok (.iload_n 3, 1) := by decide +kernel
theorem dX10_resultRuns_5 : decode cX10_resultRuns 5 = .ok (.aload_n 0, 1) := by decide +kernel
theorem dX10_resultRuns_6 : decode cX10_resultRuns 6 = .ok (.getfield 11, 3) := by decide +kernel
theorem dX10_resultRuns_9 : decode cX10_resultRuns 9 = .ok (.sipush 480, 3) := by decide +kernel
theorem dX10_resultRuns_12 : decode cX10_resultRuns 12 = .ok (.iaload, 1) := by decide +kernel
theorem dX10_resultRuns_13 : decode cX10_resultRuns 13 = .ok (.if_icmp .ge 38, 3) := by decide +kernel
theorem dX10_resultRuns_16 : decode cX10_resultRuns 16 = .ok (.iload_n 2, 1) := by decide +kernel
theorem dX10_resultRuns_17 : decode cX10_resultRuns 17 = .ok (.iload_n 3, 1) := by decide +kernel
theorem dX10_resultRuns_18 : decode cX10_resultRuns 18 = .ok (.ifCond .eq 20, 3) := by decide +kernel
theorem dX10_resultRuns_21 : decode cX10_resultRuns 21 = .ok (.aload_n 0, 1) := by decide +kernel
theorem dX10_resultRuns_22 : decode cX10_resultRuns 22 = .ok (.iload_n 1, 1) := by decide +kernel
theorem dX10_resultRuns_23 : decode cX10_resultRuns 23 = .ok (.iload_n 3, 1) := by decide +kernel
theorem dX10_resultRuns_24 : decode cX10_resultRuns 24 = .ok (.invokevirtual 146, 3) := by decide +kernel
theorem dX10_resultRuns_27 : decode cX10_resultRuns 27 = .ok (.aload_n 0, 1) := by decide +kernel
theorem dX10_resultRuns_28 : decode cX10_resultRuns 28 = .ok (.iload_n 1, 1) := by decide +kernel
theorem dX10_resultRuns_29 : decode cX10_resultRuns 29 = .ok (.iload_n 3, 1) := by decide +kernel
theorem dX10_resultRuns_30 : decode cX10_resultRuns 30 = .ok (.iconst 1, 1) := by decide +kernel
theorem dX10_resultRuns_31 : decode cX10_resultRuns 31 = .ok (.isub, 1) := by decide +kernel
theorem dX10_resultRuns_32 : decode cX10_resultRuns 32 = .ok (.invokevirtual 146, 3) := by decide +kernel
theorem dX10_resultRuns_35 : decode cX10_resultRuns 35 = .ok (.if_icmp .eq 7, 3) := by decide +kernel
theorem dX10_resultRuns_38 : decode cX10_resultRuns 38 = .ok (.iconst 1, 1) := by decide +kernel
theorem dX10_resultRuns_39 : decode cX10_resultRuns 39 = .ok (.goto 4, 3) := by decide +kernel
theorem dX10_resultRuns_42 : decode cX10_resultRuns 42 = .ok (.iconst 0, 1) := by decide +kernel
theorem dX10_resultRuns_43 : decode cX10_resultRuns 43 = .ok (.iadd, 1) := by decide +kernel
theorem dX10_resultRuns_44 : decode cX10_resultRuns 44 = .ok (.istore_n 2, 1) := by decide +kernel
theorem dX10_resultRuns_45 : decode cX10_resultRuns 45 = .ok (.iinc 3 1, 3) := by decide +kernel
theorem dX10_resultRuns_48 : decode cX10_resultRuns 48 = .ok (.goto (-44), 3) := by decide +kernel
theorem dX10_resultRuns_51 : decode cX10_resultRuns 51 = .ok (.iload_n 2, 1) := by decide +kernel
theorem dX10_resultRuns_52 : decode cX10_resultRuns 52 = .ok (.ireturn, 1) := by decide +kernel
theorem dX10_cost_0 : decode cX10_cost 0 = .ok (.aload_n 0, 1) := by decide +kernel
theorem dX10_cost_1 : decode cX10_cost 1 = .ok (.getfield 24, 3) := by decide +kernel
theorem dX10_cost_4 : decode cX10_cost 4 = .ok (.iload_n 1, 1) := by decide +kernel
theorem dX10_cost_5 : decode cX10_cost 5 = .ok (.iaload, 1) := by decide +kernel
theorem dX10_cost_6 : decode cX10_cost 6 = .ok (.tableswitch 97 0 4 #[34, 36, 53, 53, 86], 34) := by decide +kernel
theorem dX10_cost_40 : decode cX10_cost 40 = .ok (.iconst 0, 1) := by decide +kernel
theorem dX10_cost_41 : decode cX10_cost 41 = .ok (.ireturn, 1) := by decide +kernel
theorem dX10_cost_42 : decode cX10_cost 42 = .ok (.aload_n 0, 1) := by decide +kernel
theorem dX10_cost_43 : decode cX10_cost 43 = .ok (.aload_n 0, 1) := by decide +kernel
theorem dX10_cost_44 : decode cX10_cost 44 = .ok (.getfield 27, 3) := by decide +kernel
theorem dX10_cost_47 : decode cX10_cost 47 = .ok (.iload_n 1, 1) := by decide +kernel
theorem dX10_cost_48 : decode cX10_cost 48 = .ok (.iaload, 1) := by decide +kernel
theorem dX10_cost_49 : decode cX10_cost 49 = .ok (.aload_n 0, 1) := by decide +kernel
theorem dX10_cost_50 : decode cX10_cost 50 = .ok (.getfield 30, 3) := by decide +kernel
theorem dX10_cost_53 : decode cX10_cost 53 = .ok (.iload_n 1, 1) := by decide +kernel
theorem dX10_cost_54 : decode cX10_cost 54 = .ok (.iaload, 1) := by decide +kernel
theorem dX10_cost_55 : decode cX10_cost 55 = .ok (.invokevirtual 78, 3) := by decide +kernel
theorem dX10_cost_58 : decode cX10_cost 58 = .ok (.ireturn, 1) := by decide +kernel
theorem dX10_cost_59 : decode cX10_cost 59 = .ok (.iconst 0, 1) := by decide +kernel
theorem dX10_cost_60 : decode cX10_cost 60 = .ok (.istore_n 2, 1) := by decide +kernel
theorem dX10_cost_61 : decode cX10_cost 61 = .ok (.bipush 16, 2) := by decide +kernel
theorem dX10_cost_63 : decode cX10_cost 63 = .ok (.istore_n 3, 1) := by decide +kernel
theorem dX10_cost_64 : decode cX10_cost 64 = .ok (.iload_n 3, 1) := by decide +kernel
theorem dX10_cost_65 : decode cX10_cost 65 = .ok (.bipush 20, 2) := by decide +kernel
theorem dX10_cost_67 : decode cX10_cost 67 = .ok (.if_icmp .ge 23, 3) := by decide +kernel
theorem dX10_cost_70 : decode cX10_cost 70 = .ok (.iload_n 2, 1) := by decide +kernel
theorem dX10_cost_71 : decode cX10_cost 71 = .ok (.aload_n 0, 1) := by decide +kernel
theorem dX10_cost_72 : decode cX10_cost 72 = .ok (.aload_n 0, 1) := by decide +kernel
theorem dX10_cost_73 : decode cX10_cost 73 = .ok (.getfield 27, 3) := by decide +kernel
theorem dX10_cost_76 : decode cX10_cost 76 = .ok (.iload_n 1, 1) := by decide +kernel
theorem dX10_cost_77 : decode cX10_cost 77 = .ok (.iaload, 1) := by decide +kernel
theorem dX10_cost_78 : decode cX10_cost 78 = .ok (.iload_n 3, 1) := by decide +kernel
theorem dX10_cost_79 : decode cX10_cost 79 = .ok (.invokevirtual 78, 3) := by decide +kernel
theorem dX10_cost_82 : decode cX10_cost 82 = .ok (.iadd, 1) := by decide +kernel
theorem dX10_cost_83 : decode cX10_cost 83 = .ok (.istore_n 2, 1) := by decide +kernel
theorem dX10_cost_84 : decode cX10_cost 84 = .ok (.iinc 3 1, 3) := by decide +kernel
theorem dX10_cost_87 : decode cX10_cost 87 = .ok (.goto (-23), 3) := by decide +kernel
theorem dX10_cost_90 : decode cX10_cost 90 = .ok (.iload_n 2, 1) := by decide +kernel
theorem dX10_cost_91 : decode cX10_cost 91 = .ok (.ireturn, 1) := by decide +kernel
theorem dX10_cost_92 : decode cX10_cost 92 = .ok (.aload_n 0, 1) := by decide +kernel
theorem dX10_cost_93 : decode cX10_cost 93 = .ok (.aload_n 0, 1) := by decide +kernel
theorem dX10_cost_94 : decode cX10_cost 94 = .ok (.getfield 36, 3) := by decide +kernel
theorem dX10_cost_97 : decode cX10_cost 97 = .ok (.iload_n 1, 1) := by decide +kernel
theorem dX10_cost_98 : decode cX10_cost 98 = .ok (.iaload, 1) := by decide +kernel
theorem dX10_cost_99 : decode cX10_cost 99 = .ok (.invokevirtual 150, 3) := by decide +kernel
theorem dX10_cost_102 : decode cX10_cost 102 = .ok (.ireturn, 1) := by decide +kernel
theorem dX10_cost_103 : decode cX10_cost 103 = .ok (.aload_n 0, 1) := by decide +kernel
theorem dX10_cost_104 : decode cX10_cost 104 = .ok (.aload_n 0, 1) := by decide +kernel
theorem dX10_cost_105 : decode cX10_cost 105 = .ok (.getfield 36, 3) := by decide +kernel
theorem dX10_cost_108 : decode cX10_cost 108 = .ok (.iload_n 1, 1) := by decide +kernel
theorem dX10_cost_109 : decode cX10_cost 109 = .ok (.iaload, 1) := by decide +kernel
theorem dX10_cost_110 : decode cX10_cost 110 = .ok (.invokevirtual 150, 3) := by decide +kernel
theorem dX10_cost_113 : decode cX10_cost 113 = .ok (.aload_n 0, 1) := by decide +kernel
theorem dX10_cost_114 : decode cX10_cost 114 = .ok (.aload_n 0, 1) := by decide +kernel
theorem dX10_cost_115 : decode cX10_cost 115 = .ok (.getfield 39, 3) := by decide +kernel
theorem dX10_cost_118 : decode cX10_cost 118 = .ok (.iload_n 1, 1) := by decide +kernel
theorem dX10_cost_119 : decode cX10_cost 119 = .ok (.iaload, 1) := by decide +kernel
theorem dX10_cost_120 : decode cX10_cost 120 = .ok (.invokevirtual 150, 3) := by decide +kernel
theorem dX10_cost_123 : decode cX10_cost 123 = .ok (.iadd, 1) := by decide +kernel
theorem dX10_cost_124 : decode cX10_cost 124 = .ok (.aload_n 0, 1) := by decide +kernel
theorem dX10_cost_125 : decode cX10_cost 125 = .ok (.aload_n 0, 1) := by decide +kernel
theorem dX10_cost_126 : decode cX10_cost 126 = .ok (.getfield 36, 3) := by decide +kernel
theorem dX10_cost_129 : decode cX10_cost 129 = .ok (.iload_n 1, 1) := by decide +kernel
theorem dX10_cost_130 : decode cX10_cost 130 = .ok (.iaload, 1) := by decide +kernel
theorem dX10_cost_131 : decode cX10_cost 131 = .ok (.invokevirtual 153, 3) := by decide +kernel
theorem dX10_cost_134 : decode cX10_cost 134 = .ok (.iadd, 1) := by decide +kernel
theorem dX10_cost_135 : decode cX10_cost 135 = .ok (.aload_n 0, 1) := by decide +kernel
theorem dX10_cost_136 : decode cX10_cost 136 = .ok (.aload_n 0, 1) := by decide +kernel
theorem dX10_cost_137 : decode cX10_cost 137 = .ok (.getfield 39, 3) := by decide +kernel
theorem dX10_cost_140 : decode cX10_cost 140 = .ok (.iload_n 1, 1) := by decide +kernel
theorem dX10_cost_141 : decode cX10_cost 141 = .ok (.iaload, 1) := by decide +kernel
theorem dX10_cost_142 : decode cX10_cost 142 = .ok (.invokevirtual 153, 3) := by decide +kernel
theorem dX10_cost_145 : decode cX10_cost 145 = .ok (.iadd, 1) := by decide +kernel
theorem dX10_cost_146 : decode cX10_cost 146 = .ok (.ireturn, 1) := by decide +kernel
theorem dX10_sortsIn_0 : decode cX10_sortsIn 0 = .ok (.aload_n 0, 1) := by decide +kernel
theorem dX10_sortsIn_1 : decode cX10_sortsIn 1 = .ok (.getfield 24, 3) := by decide +kernel
theorem dX10_sortsIn_4 : decode cX10_sortsIn 4 = .ok (.iload_n 1, 1) := by decide +kernel
theorem dX10_sortsIn_5 : decode cX10_sortsIn 5 = .ok (.iaload, 1) := by decide +kernel
theorem dX10_sortsIn_6 : decode cX10_sortsIn 6 = .ok (.istore_n 3, 1) := by decide +kernel
theorem dX10_sortsIn_7 : decode cX10_sortsIn 7 = .ok (.iload_n 3, 1) := by decide +kernel
theorem dX10_sortsIn_8 : decode cX10_sortsIn 8 = .ok (.iconst 3, 1) := by decide +kernel
theorem dX10_sortsIn_9 : decode cX10_sortsIn 9 = .ok (.if_icmp .gt 13, 3) := by decide +kernel
theorem dX10_sortsIn_12 : decode cX10_sortsIn 12 = .ok (.iload_n 2, 1) := by decide +kernel
theorem dX10_sortsIn_13 : decode cX10_sortsIn 13 = .ok (.ifCond .eq 7, 3) := by decide +kernel
theorem dX10_sortsIn_16 : decode cX10_sortsIn 16 = .ok (.iconst 0, 1) := by decide +kernel
theorem dX10_sortsIn_17 : decode cX10_sortsIn 17 = .ok (.goto 4, 3) := by decide +kernel
theorem dX10_sortsIn_20 : decode cX10_sortsIn 20 = .ok (.iconst 1, 1) := by decide +kernel
theorem dX10_sortsIn_21 : decode cX10_sortsIn 21 = .ok (.ireturn, 1) := by decide +kernel
theorem dX10_sortsIn_22 : decode cX10_sortsIn 22 = .ok (.iload_n 3, 1) := by decide +kernel
theorem dX10_sortsIn_23 : decode cX10_sortsIn 23 = .ok (.iconst 4, 1) := by decide +kernel
theorem dX10_sortsIn_24 : decode cX10_sortsIn 24 = .ok (.if_icmp .ne 11, 3) := by decide +kernel
theorem dX10_sortsIn_27 : decode cX10_sortsIn 27 = .ok (.iload_n 2, 1) := by decide +kernel
theorem dX10_sortsIn_28 : decode cX10_sortsIn 28 = .ok (.ifCond .eq 7, 3) := by decide +kernel
theorem dX10_sortsIn_31 : decode cX10_sortsIn 31 = .ok (.iconst 1, 1) := by decide +kernel
theorem dX10_sortsIn_32 : decode cX10_sortsIn 32 = .ok (.goto 4, 3) := by decide +kernel
theorem dX10_sortsIn_35 : decode cX10_sortsIn 35 = .ok (.iconst 0, 1) := by decide +kernel
theorem dX10_sortsIn_36 : decode cX10_sortsIn 36 = .ok (.istore 4, 2) := by decide +kernel
theorem dX10_sortsIn_38 : decode cX10_sortsIn 38 = .ok (.iload 4, 2) := by decide +kernel
theorem dX10_sortsIn_40 : decode cX10_sortsIn 40 = .ok (.aload_n 0, 1) := by decide +kernel
theorem dX10_sortsIn_41 : decode cX10_sortsIn 41 = .ok (.aload_n 0, 1) := by decide +kernel
theorem dX10_sortsIn_42 : decode cX10_sortsIn 42 = .ok (.getfield 36, 3) := by decide +kernel
theorem dX10_sortsIn_45 : decode cX10_sortsIn 45 = .ok (.iload_n 1, 1) := by decide +kernel
theorem dX10_sortsIn_46 : decode cX10_sortsIn 46 = .ok (.iaload, 1) := by decide +kernel
theorem dX10_sortsIn_47 : decode cX10_sortsIn 47 = .ok (.iload_n 2, 1) := by decide +kernel
theorem dX10_sortsIn_48 : decode cX10_sortsIn 48 = .ok (.invokevirtual 156, 3) := by decide +kernel
theorem dX10_sortsIn_51 : decode cX10_sortsIn 51 = .ok (.iadd, 1) := by decide +kernel
theorem dX10_sortsIn_52 : decode cX10_sortsIn 52 = .ok (.iload_n 3, 1) := by decide +kernel
theorem dX10_sortsIn_53 : decode cX10_sortsIn 53 = .ok (.iconst 4, 1) := by decide +kernel
theorem dX10_sortsIn_54 : decode cX10_sortsIn 54 = .ok (.if_icmp .ne 7, 3) := by decide +kernel
theorem dX10_sortsIn_57 : decode cX10_sortsIn 57 = .ok (.iconst 0, 1) := by decide +kernel
theorem dX10_sortsIn_58 : decode cX10_sortsIn 58 = .ok (.goto 14, 3) := by decide +kernel
theorem dX10_sortsIn_61 : decode cX10_sortsIn 61 = .ok (.aload_n 0, 1) := by decide +kernel
theorem dX10_sortsIn_62 : decode cX10_sortsIn 62 = .ok (.aload_n 0, 1) := by decide +kernel
theorem dX10_sortsIn_63 : decode cX10_sortsIn 63 = .ok (.getfield 39, 3) := by decide +kernel
theorem dX10_sortsIn_66 : decode cX10_sortsIn 66 = .ok (.iload_n 1, 1) := by decide +kernel
theorem dX10_sortsIn_67 : decode cX10_sortsIn 67 = .ok (.iaload, 1) := by decide +kernel
theorem dX10_sortsIn_68 : decode cX10_sortsIn 68 = .ok (.iload_n 2, 1) := by decide +kernel
theorem dX10_sortsIn_69 : decode cX10_sortsIn 69 = .ok (.invokevirtual 156, 3) := by decide +kernel
theorem dX10_sortsIn_72 : decode cX10_sortsIn 72 = .ok (.iadd, 1) := by decide +kernel
theorem dX10_sortsIn_73 : decode cX10_sortsIn 73 = .ok (.ireturn, 1) := by decide +kernel
theorem dX10_deepOf_0 : decode cX10_deepOf 0 = .ok (.aload_n 0, 1) := by decide +kernel
theorem dX10_deepOf_1 : decode cX10_deepOf 1 = .ok (.getfield 24, 3) := by decide +kernel
theorem dX10_deepOf_4 : decode cX10_deepOf 4 = .ok (.iload_n 1, 1) := by decide +kernel
theorem dX10_deepOf_5 : decode cX10_deepOf 5 = .ok (.iaload, 1) := by decide +kernel
theorem dX10_deepOf_6 : decode cX10_deepOf 6 = .ok (.iconst 3, 1) := by decide +kernel
theorem dX10_deepOf_7 : decode cX10_deepOf 7 = .ok (.if_icmp .gt 5, 3) := by decide +kernel
theorem dX10_deepOf_10 : decode cX10_deepOf 10 = .ok (.iconst 1, 1) := by decide +kernel
theorem dX10_deepOf_11 : decode cX10_deepOf 11 = .ok (.ireturn, 1) := by decide +kernel
theorem dX10_deepOf_12 : decode cX10_deepOf 12 = .ok (.aload_n 0, 1) := by decide +kernel
theorem dX10_deepOf_13 : decode cX10_deepOf 13 = .ok (.aload_n 0, 1) := by decide +kernel
theorem dX10_deepOf_14 : decode cX10_deepOf 14 = .ok (.getfield 36, 3) := by decide +kernel
theorem dX10_deepOf_17 : decode cX10_deepOf 17 = .ok (.iload_n 1, 1) := by decide +kernel
theorem dX10_deepOf_18 : decode cX10_deepOf 18 = .ok (.iaload, 1) := by decide +kernel
theorem dX10_deepOf_19 : decode cX10_deepOf 19 = .ok (.invokevirtual 160, 3) := by decide +kernel
theorem dX10_deepOf_22 : decode cX10_deepOf 22 = .ok (.istore_n 2, 1) := by decide +kernel
theorem dX10_deepOf_23 : decode cX10_deepOf 23 = .ok (.aload_n 0, 1) := by decide +kernel
theorem dX10_deepOf_24 : decode cX10_deepOf 24 = .ok (.getfield 24, 3) := by decide +kernel
theorem dX10_deepOf_27 : decode cX10_deepOf 27 = .ok (.iload_n 1, 1) := by decide +kernel
theorem dX10_deepOf_28 : decode cX10_deepOf 28 = .ok (.iaload, 1) := by decide +kernel
theorem dX10_deepOf_29 : decode cX10_deepOf 29 = .ok (.iconst 4, 1) := by decide +kernel
theorem dX10_deepOf_30 : decode cX10_deepOf 30 = .ok (.if_icmp .ne 7, 3) := by decide +kernel
theorem dX10_deepOf_33 : decode cX10_deepOf 33 = .ok (.iconst 0, 1) := by decide +kernel
theorem dX10_deepOf_34 : decode cX10_deepOf 34 = .ok (.goto 13, 3) := by decide +kernel
theorem dX10_deepOf_37 : decode cX10_deepOf 37 = .ok (.aload_n 0, 1) := by decide +kernel
theorem dX10_deepOf_38 : decode cX10_deepOf 38 = .ok (.aload_n 0, 1) := by decide +kernel
theorem dX10_deepOf_39 : decode cX10_deepOf 39 = .ok (.getfield 39, 3) := by decide +kernel
theorem dX10_deepOf_42 : decode cX10_deepOf 42 = .ok (.iload_n 1, 1) := by decide +kernel
theorem dX10_deepOf_43 : decode cX10_deepOf 43 = .ok (.iaload, 1) := by decide +kernel
theorem dX10_deepOf_44 : decode cX10_deepOf 44 = .ok (.invokevirtual 160, 3) := by decide +kernel
theorem dX10_deepOf_47 : decode cX10_deepOf 47 = .ok (.istore_n 3, 1) := by decide +kernel
theorem dX10_deepOf_48 : decode cX10_deepOf 48 = .ok (.iconst 1, 1) := by decide +kernel
theorem dX10_deepOf_49 : decode cX10_deepOf 49 = .ok (.iload_n 2, 1) := by decide +kernel
theorem dX10_deepOf_50 : decode cX10_deepOf 50 = .ok (.iload_n 3, 1) := by decide +kernel
theorem dX10_deepOf_51 : decode cX10_deepOf 51 = .ok (.if_icmp .le 7, 3) := by decide +kernel
theorem dX10_deepOf_54 : decode cX10_deepOf 54 = .ok (.iload_n 2, 1) := by decide +kernel
theorem dX10_deepOf_55 : decode cX10_deepOf 55 = .ok (.goto 4, 3) := by decide +kernel
theorem dX10_deepOf_58 : decode cX10_deepOf 58 = .ok (.iload_n 3, 1) := by decide +kernel
theorem dX10_deepOf_59 : decode cX10_deepOf 59 = .ok (.iadd, 1) := by decide +kernel
theorem dX10_deepOf_60 : decode cX10_deepOf 60 = .ok (.ireturn, 1) := by decide +kernel
theorem dX10_rowAt_0 : decode cX10_rowAt 0 = .ok (.iload_n 2, 1) := by decide +kernel
theorem dX10_rowAt_1 : decode cX10_rowAt 1 = .ok (.istore_n 3, 1) := by decide +kernel
theorem dX10_rowAt_2 : decode cX10_rowAt 2 = .ok (.iconst 0, 1) := by decide +kernel
theorem dX10_rowAt_3 : decode cX10_rowAt 3 = .ok (.istore 4, 2) := by decide +kernel
theorem dX10_rowAt_5 : decode cX10_rowAt 5 = .ok (.iload 4, 2) := by decide +kernel
theorem dX10_rowAt_7 : decode cX10_rowAt 7 = .ok (.aload_n 0, 1) := by decide +kernel
theorem dX10_rowAt_8 : decode cX10_rowAt 8 = .ok (.getfield 11, 3) := by decide +kernel
theorem dX10_rowAt_11 : decode cX10_rowAt 11 = .ok (.sipush 480, 3) := by decide +kernel
theorem dX10_rowAt_14 : decode cX10_rowAt 14 = .ok (.iaload, 1) := by decide +kernel
theorem dX10_rowAt_15 : decode cX10_rowAt 15 = .ok (.if_icmp .ge 29, 3) := by decide +kernel
theorem dX10_rowAt_18 : decode cX10_rowAt 18 = .ok (.aload_n 0, 1) := by decide +kernel
theorem dX10_rowAt_19 : decode cX10_rowAt 19 = .ok (.iload_n 1, 1) := by decide +kernel
theorem dX10_rowAt_20 : decode cX10_rowAt 20 = .ok (.iload 4, 2) := by decide +kernel
theorem dX10_rowAt_22 : decode cX10_rowAt 22 = .ok (.invokevirtual 146, 3) := by decide +kernel
theorem dX10_rowAt_25 : decode cX10_rowAt 25 = .ok (.ifCond .eq 13, 3) := by decide +kernel
theorem dX10_rowAt_28 : decode cX10_rowAt 28 = .ok (.iload_n 3, 1) := by decide +kernel
theorem dX10_rowAt_29 : decode cX10_rowAt 29 = .ok (.ifCond .ne 6, 3) := by decide +kernel
theorem dX10_rowAt_32 : decode cX10_rowAt 32 = .ok (.iload 4, 2) := by decide +kernel
theorem dX10_rowAt_34 : decode cX10_rowAt 34 = .ok (.ireturn, 1) := by decide +kernel
theorem dX10_rowAt_35 : decode cX10_rowAt 35 = .ok (.iinc 3 (-1), 3) := by decide +kernel
theorem dX10_rowAt_38 : decode cX10_rowAt 38 = .ok (.iinc 4 1, 3) := by decide +kernel
theorem dX10_rowAt_41 : decode cX10_rowAt 41 = .ok (.goto (-36), 3) := by decide +kernel
theorem dX10_rowAt_44 : decode cX10_rowAt 44 = .ok (.bipush (-5), 2) := by decide +kernel
theorem dX10_rowAt_46 : decode cX10_rowAt 46 = .ok (.ireturn, 1) := by decide +kernel
theorem dX10_of_0 : decode cX10_of 0 = .ok (.aload_n 0, 1) := by decide +kernel
theorem dX10_of_1 : decode cX10_of 1 = .ok (.iload_n 1, 1) := by decide +kernel
theorem dX10_of_2 : decode cX10_of 2 = .ok (.invokevirtual 163, 3) := by decide +kernel
theorem dX10_of_5 : decode cX10_of 5 = .ok (.ifCond .eq 13, 3) := by decide +kernel
theorem dX10_of_8 : decode cX10_of 8 = .ok (.iload_n 2, 1) := by decide +kernel
theorem dX10_of_9 : decode cX10_of 9 = .ok (.iconst 0, 1) := by decide +kernel
theorem dX10_of_10 : decode cX10_of 10 = .ok (.bipush 7, 2) := by decide +kernel
theorem dX10_of_12 : decode cX10_of 12 = .ok (.invokestatic 63, 3) := by decide +kernel
theorem dX10_of_15 : decode cX10_of 15 = .ok (.ifCond .ne 5, 3) := by decide +kernel
theorem dX10_of_18 : decode cX10_of 18 = .ok (.iconst (-1), 1) := by decide +kernel
theorem dX10_of_19 : decode cX10_of 19 = .ok (.ireturn, 1) := by decide +kernel
theorem dX10_of_20 : decode cX10_of 20 = .ok (.aload_n 0, 1) := by decide +kernel
theorem dX10_of_21 : decode cX10_of 21 = .ok (.getfield 21, 3) := by decide +kernel
theorem dX10_of_24 : decode cX10_of 24 = .ok (.iload_n 1, 1) := by decide +kernel
theorem dX10_of_25 : decode cX10_of 25 = .ok (.iaload, 1) := by decide +kernel
theorem dX10_of_26 : decode cX10_of 26 = .ok (.istore_n 3, 1) := by decide +kernel
theorem dX10_of_27 : decode cX10_of 27 = .ok (.iload_n 2, 1) := by decide +kernel
theorem dX10_of_28 : decode cX10_of 28 = .ok (.tableswitch 96 0 6 #[44, 50, 56, 62, 69, 82, 89], 44) := by decide +kernel
theorem dX10_of_72 : decode cX10_of 72 = .ok (.aload_n 0, 1) := by decide +kernel
theorem dX10_of_73 : decode cX10_of 73 = .ok (.iload_n 3, 1) := by decide +kernel
theorem dX10_of_74 : decode cX10_of 74 = .ok (.invokevirtual 166, 3) := by decide +kernel
theorem dX10_of_77 : decode cX10_of 77 = .ok (.ireturn, 1) := by decide +kernel
theorem dX10_of_78 : decode cX10_of 78 = .ok (.aload_n 0, 1) := by decide +kernel
theorem dX10_of_79 : decode cX10_of 79 = .ok (.iload_n 3, 1) := by decide +kernel
theorem dX10_of_80 : decode cX10_of 80 = .ok (.invokevirtual 153, 3) := by decide +kernel
theorem dX10_of_83 : decode cX10_of 83 = .ok (.ireturn, 1) := by decide +kernel
theorem dX10_of_84 : decode cX10_of 84 = .ok (.aload_n 0, 1) := by decide +kernel
theorem dX10_of_85 : decode cX10_of 85 = .ok (.iload_n 3, 1) := by decide +kernel
theorem dX10_of_86 : decode cX10_of 86 = .ok (.invokevirtual 150, 3) := by decide +kernel
theorem dX10_of_89 : decode cX10_of 89 = .ok (.ireturn, 1) := by decide +kernel
theorem dX10_of_90 : decode cX10_of 90 = .ok (.aload_n 0, 1) := by decide +kernel
theorem dX10_of_91 : decode cX10_of 91 = .ok (.iload_n 3, 1) := by decide +kernel
theorem dX10_of_92 : decode cX10_of 92 = .ok (.iconst 0, 1) := by decide +kernel
theorem dX10_of_93 : decode cX10_of 93 = .ok (.invokevirtual 169, 3) := by decide +kernel
theorem dX10_of_96 : decode cX10_of 96 = .ok (.ireturn, 1) := by decide +kernel
theorem dX10_of_97 : decode cX10_of 97 = .ok (.aload_n 0, 1) := by decide +kernel
theorem dX10_of_98 : decode cX10_of 98 = .ok (.iload_n 3, 1) := by decide +kernel
theorem dX10_of_99 : decode cX10_of 99 = .ok (.aload_n 0, 1) := by decide +kernel
theorem dX10_of_100 : decode cX10_of 100 = .ok (.iload_n 3, 1) := by decide +kernel
theorem dX10_of_101 : decode cX10_of 101 = .ok (.invokevirtual 166, 3) := by decide +kernel
theorem dX10_of_104 : decode cX10_of 104 = .ok (.iconst 1, 1) := by decide +kernel
theorem dX10_of_105 : decode cX10_of 105 = .ok (.isub, 1) := by decide +kernel
theorem dX10_of_106 : decode cX10_of 106 = .ok (.invokevirtual 169, 3) := by decide +kernel
theorem dX10_of_109 : decode cX10_of 109 = .ok (.ireturn, 1) := by decide +kernel
theorem dX10_of_110 : decode cX10_of 110 = .ok (.aload_n 0, 1) := by decide +kernel
theorem dX10_of_111 : decode cX10_of 111 = .ok (.iload_n 3, 1) := by decide +kernel
theorem dX10_of_112 : decode cX10_of 112 = .ok (.iconst 0, 1) := by decide +kernel
theorem dX10_of_113 : decode cX10_of 113 = .ok (.invokevirtual 156, 3) := by decide +kernel
theorem dX10_of_116 : decode cX10_of 116 = .ok (.ireturn, 1) := by decide +kernel
theorem dX10_of_117 : decode cX10_of 117 = .ok (.aload_n 0, 1) := by decide +kernel
theorem dX10_of_118 : decode cX10_of 118 = .ok (.iload_n 3, 1) := by decide +kernel
theorem dX10_of_119 : decode cX10_of 119 = .ok (.iconst 1, 1) := by decide +kernel
theorem dX10_of_120 : decode cX10_of 120 = .ok (.invokevirtual 156, 3) := by decide +kernel
theorem dX10_of_123 : decode cX10_of 123 = .ok (.ireturn, 1) := by decide +kernel
theorem dX10_of_124 : decode cX10_of 124 = .ok (.aload_n 0, 1) := by decide +kernel
theorem dX10_of_125 : decode cX10_of 125 = .ok (.iload_n 3, 1) := by decide +kernel
theorem dX10_of_126 : decode cX10_of 126 = .ok (.invokevirtual 160, 3) := by decide +kernel
theorem dX10_of_129 : decode cX10_of 129 = .ok (.ireturn, 1) := by decide +kernel
theorem dX10_row_0 : decode cX10_row 0 = .ok (.aload_n 0, 1) := by decide +kernel
theorem dX10_row_1 : decode cX10_row 1 = .ok (.iload_n 1, 1) := by decide +kernel
theorem dX10_row_2 : decode cX10_row 2 = .ok (.invokevirtual 163, 3) := by decide +kernel
theorem dX10_row_5 : decode cX10_row 5 = .ok (.ifCond .eq 21, 3) := by decide +kernel
theorem dX10_row_8 : decode cX10_row 8 = .ok (.iload_n 2, 1) := by decide +kernel
theorem dX10_row_9 : decode cX10_row 9 = .ok (.ifCond .lt 17, 3) := by decide +kernel
theorem dX10_row_12 : decode cX10_row 12 = .ok (.aload_n 0, 1) := by decide +kernel
theorem dX10_row_13 : decode cX10_row 13 = .ok (.aload_n 0, 1) := by decide +kernel
theorem dX10_row_14 : decode cX10_row 14 = .ok (.getfield 21, 3) := by decide +kernel
theorem dX10_row_17 : decode cX10_row 17 = .ok (.iload_n 1, 1) := by decide +kernel
theorem dX10_row_18 : decode cX10_row 18 = .ok (.iaload, 1) := by decide +kernel
theorem dX10_row_19 : decode cX10_row 19 = .ok (.iload_n 2, 1) := by decide +kernel
theorem dX10_row_20 : decode cX10_row 20 = .ok (.invokevirtual 169, 3) := by decide +kernel
theorem dX10_row_23 : decode cX10_row 23 = .ok (.goto 4, 3) := by decide +kernel
theorem dX10_row_26 : decode cX10_row 26 = .ok (.iconst (-1), 1) := by decide +kernel
theorem dX10_row_27 : decode cX10_row 27 = .ok (.ireturn, 1) := by decide +kernel
theorem dX10_grouped_0 : decode cX10_grouped 0 = .ok (.iconst 0, 1) := by decide +kernel
theorem dX10_grouped_1 : decode cX10_grouped 1 = .ok (.istore_n 3, 1) := by decide +kernel
theorem dX10_grouped_2 : decode cX10_grouped 2 = .ok (.iload_n 3, 1) := by decide +kernel
theorem dX10_grouped_3 : decode cX10_grouped 3 = .ok (.bipush 16, 2) := by decide +kernel
theorem dX10_grouped_5 : decode cX10_grouped 5 = .ok (.if_icmp .ge 16, 3) := by decide +kernel
theorem dX10_grouped_8 : decode cX10_grouped 8 = .ok (.aload_n 0, 1) := by decide +kernel
theorem dX10_grouped_9 : decode cX10_grouped 9 = .ok (.getfield 45, 3) := by decide +kernel
theorem dX10_grouped_12 : decode cX10_grouped 12 = .ok (.iload_n 3, 1) := by decide +kernel
theorem dX10_grouped_13 : decode cX10_grouped 13 = .ok (.iconst 0, 1) := by decide +kernel
theorem dX10_grouped_14 : decode cX10_grouped 14 = .ok (.iastore, 1) := by decide +kernel
theorem dX10_grouped_15 : decode cX10_grouped 15 = .ok (.iinc 3 1, 3) := by decide +kernel
theorem dX10_grouped_18 : decode cX10_grouped 18 = .ok (.goto (-16), 3) := by decide +kernel
theorem dX10_grouped_21 : decode cX10_grouped 21 = .ok (.iconst 0, 1) := by decide +kernel
theorem dX10_grouped_22 : decode cX10_grouped 22 = .ok (.istore_n 3, 1) := by decide +kernel
theorem dX10_grouped_23 : decode cX10_grouped 23 = .ok (.iload_n 3, 1) := by decide +kernel
theorem dX10_grouped_24 : decode cX10_grouped 24 = .ok (.aload_n 0, 1) := by decide +kernel
theorem dX10_grouped_25 : decode cX10_grouped 25 = .ok (.getfield 11, 3) := by decide +kernel
theorem dX10_grouped_28 : decode cX10_grouped 28 = .ok (.sipush 480, 3) := by decide +kernel
theorem dX10_grouped_31 : decode cX10_grouped 31 = .ok (.iaload, 1) := by decide +kernel
theorem dX10_grouped_32 : decode cX10_grouped 32 = .ok (.if_icmp .ge 41, 3) := by decide +kernel
theorem dX10_grouped_35 : decode cX10_grouped 35 = .ok (.aload_n 0, 1) := by decide +kernel
theorem dX10_grouped_36 : decode cX10_grouped 36 = .ok (.getfield 45, 3) := by decide +kernel
theorem dX10_grouped_39 : decode cX10_grouped 39 = .ok (.aload_n 0, 1) := by decide +kernel
theorem dX10_grouped_40 : decode cX10_grouped 40 = .ok (.getfield 11, 3) := by decide +kernel
theorem dX10_grouped_43 : decode cX10_grouped 43 = .ok (.iconst 4, 1) := by decide +kernel
theorem dX10_grouped_44 : decode cX10_grouped 44 = .ok (.iload_n 3, 1) := by decide +kernel
theorem dX10_grouped_45 : decode cX10_grouped 45 = .ok (.imul, 1) := by decide +kernel
theorem dX10_grouped_46 : decode cX10_grouped 46 = .ok (.iload_n 2, 1) := by decide +kernel
theorem dX10_grouped_47 : decode cX10_grouped 47 = .ok (.iadd, 1) := by decide +kernel
theorem dX10_grouped_48 : decode cX10_grouped 48 = .ok (.iaload, 1) := by decide +kernel
theorem dX10_grouped_49 : decode cX10_grouped 49 = .ok (.dup2, 1) := by decide +kernel
theorem dX10_grouped_50 : decode cX10_grouped 50 = .ok (.iaload, 1) := by decide +kernel
theorem dX10_grouped_51 : decode cX10_grouped 51 = .ok (.aload_n 0, 1) := by decide +kernel
theorem dX10_grouped_52 : decode cX10_grouped 52 = .ok (.iload_n 1, 1) := by decide +kernel
theorem dX10_grouped_53 : decode cX10_grouped 53 = .ok (.iload_n 3, 1) := by decide +kernel
theorem dX10_grouped_54 : decode cX10_grouped 54 = .ok (.invokevirtual 146, 3) := by decide +kernel
theorem dX10_grouped_57 : decode cX10_grouped 57 = .ok (.ifCond .eq 7, 3) := by decide +kernel
theorem dX10_grouped_60 : decode cX10_grouped 60 = .ok (.iconst 1, 1) := by decide +kernel
theorem dX10_grouped_61 : decode cX10_grouped 61 = .ok (.goto 4, 3) := by decide +kernel
theorem dX10_grouped_64 : decode cX10_grouped 64 = .ok (.iconst 0, 1) := by decide +kernel
theorem dX10_grouped_65 : decode cX10_grouped 65 = .ok (.iadd, 1) := by decide +kernel
theorem dX10_grouped_66 : decode cX10_grouped 66 = .ok (.iastore, 1) := by decide +kernel
theorem dX10_grouped_67 : decode cX10_grouped 67 = .ok (.iinc 3 1, 3) := by decide +kernel
theorem dX10_grouped_70 : decode cX10_grouped 70 = .ok (.goto (-47), 3) := by decide +kernel
theorem dX10_grouped_73 : decode cX10_grouped 73 = .ok (.return_, 1) := by decide +kernel
theorem dX10_group_0 : decode cX10_group 0 = .ok (.aload_n 0, 1) := by decide +kernel
theorem dX10_group_1 : decode cX10_group 1 = .ok (.iload_n 1, 1) := by decide +kernel
theorem dX10_group_2 : decode cX10_group 2 = .ok (.invokevirtual 163, 3) := by decide +kernel
theorem dX10_group_5 : decode cX10_group 5 = .ok (.ifCond .eq 22, 3) := by decide +kernel
theorem dX10_group_8 : decode cX10_group 8 = .ok (.iload_n 2, 1) := by decide +kernel
theorem dX10_group_9 : decode cX10_group 9 = .ok (.iconst 0, 1) := by decide +kernel
theorem dX10_group_10 : decode cX10_group 10 = .ok (.iconst 3, 1) := by decide +kernel
theorem dX10_group_11 : decode cX10_group 11 = .ok (.invokestatic 63, 3) := by decide +kernel
theorem dX10_group_14 : decode cX10_group 14 = .ok (.ifCond .eq 13, 3) := by decide +kernel
theorem dX10_group_17 : decode cX10_group 17 = .ok (.iload_n 3, 1) := by decide +kernel
theorem dX10_group_18 : decode cX10_group 18 = .ok (.iconst 0, 1) := by decide +kernel
theorem dX10_group_19 : decode cX10_group 19 = .ok (.bipush 15, 2) := by decide +kernel
theorem dX10_group_21 : decode cX10_group 21 = .ok (.invokestatic 63, 3) := by decide +kernel
theorem dX10_group_24 : decode cX10_group 24 = .ok (.ifCond .ne 5, 3) := by decide +kernel
theorem dX10_group_27 : decode cX10_group 27 = .ok (.iconst (-1), 1) := by decide +kernel
theorem dX10_group_28 : decode cX10_group 28 = .ok (.ireturn, 1) := by decide +kernel
theorem dX10_group_29 : decode cX10_group 29 = .ok (.aload_n 0, 1) := by decide +kernel
theorem dX10_group_30 : decode cX10_group 30 = .ok (.aload_n 0, 1) := by decide +kernel
theorem dX10_group_31 : decode cX10_group 31 = .ok (.getfield 21, 3) := by decide +kernel
theorem dX10_group_34 : decode cX10_group 34 = .ok (.iload_n 1, 1) := by decide +kernel
theorem dX10_group_35 : decode cX10_group 35 = .ok (.iaload, 1) := by decide +kernel
theorem dX10_group_36 : decode cX10_group 36 = .ok (.iload_n 2, 1) := by decide +kernel
theorem dX10_group_37 : decode cX10_group 37 = .ok (.invokevirtual 172, 3) := by decide +kernel
theorem dX10_group_40 : decode cX10_group 40 = .ok (.aload_n 0, 1) := by decide +kernel
theorem dX10_group_41 : decode cX10_group 41 = .ok (.getfield 45, 3) := by decide +kernel
theorem dX10_group_44 : decode cX10_group 44 = .ok (.iload_n 3, 1) := by decide +kernel
theorem dX10_group_45 : decode cX10_group 45 = .ok (.iaload, 1) := by decide +kernel
theorem dX10_group_46 : decode cX10_group 46 = .ok (.ireturn, 1) := by decide +kernel
theorem dX10_edge_0 : decode cX10_edge 0 = .ok (.aload_n 0, 1) := by decide +kernel
theorem dX10_edge_1 : decode cX10_edge 1 = .ok (.iload_n 1, 1) := by decide +kernel
theorem dX10_edge_2 : decode cX10_edge 2 = .ok (.invokevirtual 163, 3) := by decide +kernel
theorem dX10_edge_5 : decode cX10_edge 5 = .ok (.ifCond .eq 21, 3) := by decide +kernel
theorem dX10_edge_8 : decode cX10_edge 8 = .ok (.iload_n 2, 1) := by decide +kernel
theorem dX10_edge_9 : decode cX10_edge 9 = .ok (.iconst 0, 1) := by decide +kernel
theorem dX10_edge_10 : decode cX10_edge 10 = .ok (.iconst 3, 1) := by decide +kernel
theorem dX10_edge_11 : decode cX10_edge 11 = .ok (.invokestatic 63, 3) := by decide +kernel
theorem dX10_edge_14 : decode cX10_edge 14 = .ok (.ifCond .eq 12, 3) := by decide +kernel
theorem dX10_edge_17 : decode cX10_edge 17 = .ok (.iload_n 3, 1) := by decide +kernel
theorem dX10_edge_18 : decode cX10_edge 18 = .ok (.iconst 0, 1) := by decide +kernel
theorem dX10_edge_19 : decode cX10_edge 19 = .ok (.iconst 4, 1) := by decide +kernel
theorem dX10_edge_20 : decode cX10_edge 20 = .ok (.invokestatic 63, 3) := by decide +kernel
theorem dX10_edge_23 : decode cX10_edge 23 = .ok (.ifCond .ne 5, 3) := by decide +kernel
theorem dX10_edge_26 : decode cX10_edge 26 = .ok (.iconst (-1), 1) := by decide +kernel
theorem dX10_edge_27 : decode cX10_edge 27 = .ok (.ireturn, 1) := by decide +kernel
theorem dX10_edge_28 : decode cX10_edge 28 = .ok (.aload_n 0, 1) := by decide +kernel
theorem dX10_edge_29 : decode cX10_edge 29 = .ok (.aload_n 0, 1) := by decide +kernel
theorem dX10_edge_30 : decode cX10_edge 30 = .ok (.getfield 21, 3) := by decide +kernel
theorem dX10_edge_33 : decode cX10_edge 33 = .ok (.iload_n 1, 1) := by decide +kernel
theorem dX10_edge_34 : decode cX10_edge 34 = .ok (.iaload, 1) := by decide +kernel
theorem dX10_edge_35 : decode cX10_edge 35 = .ok (.iload_n 2, 1) := by decide +kernel
theorem dX10_edge_36 : decode cX10_edge 36 = .ok (.invokevirtual 172, 3) := by decide +kernel
theorem dX10_edge_39 : decode cX10_edge 39 = .ok (.aload_n 0, 1) := by decide +kernel
theorem dX10_edge_40 : decode cX10_edge 40 = .ok (.aload_n 0, 1) := by decide +kernel
theorem dX10_edge_41 : decode cX10_edge 41 = .ok (.getfield 21, 3) := by decide +kernel
theorem dX10_edge_44 : decode cX10_edge 44 = .ok (.iload_n 1, 1) := by decide +kernel
theorem dX10_edge_45 : decode cX10_edge 45 = .ok (.iaload, 1) := by decide +kernel
theorem dX10_edge_46 : decode cX10_edge 46 = .ok (.invokevirtual 166, 3) := by decide +kernel
theorem dX10_edge_49 : decode cX10_edge 49 = .ok (.istore 4, 2) := by decide +kernel
theorem dX10_edge_51 : decode cX10_edge 51 = .ok (.bipush (-5), 2) := by decide +kernel
theorem dX10_edge_53 : decode cX10_edge 53 = .ok (.istore 5, 2) := by decide +kernel
theorem dX10_edge_55 : decode cX10_edge 55 = .ok (.bipush (-5), 2) := by decide +kernel
theorem dX10_edge_57 : decode cX10_edge 57 = .ok (.istore 6, 2) := by decide +kernel
theorem dX10_edge_59 : decode cX10_edge 59 = .ok (.bipush (-5), 2) := by decide +kernel
theorem dX10_edge_61 : decode cX10_edge 61 = .ok (.istore 7, 2) := by decide +kernel
theorem dX10_edge_63 : decode cX10_edge 63 = .ok (.iconst 0, 1) := by decide +kernel
theorem dX10_edge_64 : decode cX10_edge 64 = .ok (.istore 8, 2) := by decide +kernel
theorem dX10_edge_66 : decode cX10_edge 66 = .ok (.bipush (-5), 2) := by decide +kernel
theorem dX10_edge_68 : decode cX10_edge 68 = .ok (.istore 9, 2) := by decide +kernel
theorem dX10_edge_70 : decode cX10_edge 70 = .ok (.iconst 0, 1) := by decide +kernel
theorem dX10_edge_71 : decode cX10_edge 71 = .ok (.istore 10, 2) := by decide +kernel
theorem dX10_edge_73 : decode cX10_edge 73 = .ok (.iconst 0, 1) := by decide +kernel
theorem dX10_edge_74 : decode cX10_edge 74 = .ok (.istore 11, 2) := by decide +kernel
theorem dX10_edge_76 : decode cX10_edge 76 = .ok (.iload 11, 2) := by decide +kernel
theorem dX10_edge_78 : decode cX10_edge 78 = .ok (.bipush 16, 2) := by decide +kernel
theorem dX10_edge_80 : decode cX10_edge 80 = .ok (.if_icmp .ge 106, 3) := by decide +kernel
theorem dX10_edge_83 : decode cX10_edge 83 = .ok (.aload_n 0, 1) := by decide +kernel
theorem dX10_edge_84 : decode cX10_edge 84 = .ok (.getfield 45, 3) := by decide +kernel
theorem dX10_edge_87 : decode cX10_edge 87 = .ok (.iload 11, 2) := by decide +kernel
theorem dX10_edge_89 : decode cX10_edge 89 = .ok (.iaload, 1) := by decide +kernel
theorem dX10_edge_90 : decode cX10_edge 90 = .ok (.ifCond .le 90, 3) := by decide +kernel
theorem dX10_edge_93 : decode cX10_edge 93 = .ok (.iload 10, 2) := by decide +kernel
theorem dX10_edge_95 : decode cX10_edge 95 = .ok (.aload_n 0, 1) := by decide +kernel
theorem dX10_edge_96 : decode cX10_edge 96 = .ok (.getfield 45, 3) := by decide +kernel
theorem dX10_edge_99 : decode cX10_edge 99 = .ok (.iload 11, 2) := by decide +kernel
theorem dX10_edge_101 : decode cX10_edge 101 = .ok (.iaload, 1) := by decide +kernel
theorem dX10_edge_102 : decode cX10_edge 102 = .ok (.iadd, 1) := by decide +kernel
theorem dX10_edge_103 : decode cX10_edge 103 = .ok (.istore 10, 2) := by decide +kernel
theorem dX10_edge_105 : decode cX10_edge 105 = .ok (.iload 5, 2) := by decide +kernel
theorem dX10_edge_107 : decode cX10_edge 107 = .ok (.ifCond .ge 8, 3) := by decide +kernel
theorem dX10_edge_110 : decode cX10_edge 110 = .ok (.iload 11, 2) := by decide +kernel
theorem dX10_edge_112 : decode cX10_edge 112 = .ok (.goto 5, 3) := by decide +kernel
theorem dX10_edge_115 : decode cX10_edge 115 = .ok (.iload 5, 2) := by decide +kernel
theorem dX10_edge_117 : decode cX10_edge 117 = .ok (.istore 5, 2) := by decide +kernel
theorem dX10_edge_119 : decode cX10_edge 119 = .ok (.iload 11, 2) := by decide +kernel
theorem dX10_edge_121 : decode cX10_edge 121 = .ok (.istore 6, 2) := by decide +kernel
theorem dX10_edge_123 : decode cX10_edge 123 = .ok (.iload 7, 2) := by decide +kernel
theorem dX10_edge_125 : decode cX10_edge 125 = .ok (.ifCond .ge 17, 3) := by decide +kernel
theorem dX10_edge_128 : decode cX10_edge 128 = .ok (.iconst 2, 1) := by decide +kernel
theorem dX10_edge_129 : decode cX10_edge 129 = .ok (.iload 10, 2) := by decide +kernel
theorem dX10_edge_131 : decode cX10_edge 131 = .ok (.imul, 1) := by decide +kernel
theorem dX10_edge_132 : decode cX10_edge 132 = .ok (.iload 4, 2) := by decide +kernel
theorem dX10_edge_134 : decode cX10_edge 134 = .ok (.if_icmp .lt 8, 3) := by decide +kernel
theorem dX10_edge_137 : decode cX10_edge 137 = .ok (.iload 11, 2) := by decide +kernel
theorem dX10_edge_139 : decode cX10_edge 139 = .ok (.goto 5, 3) := by decide +kernel
theorem dX10_edge_142 : decode cX10_edge 142 = .ok (.iload 7, 2) := by decide +kernel
theorem dX10_edge_144 : decode cX10_edge 144 = .ok (.istore 7, 2) := by decide +kernel
theorem dX10_edge_146 : decode cX10_edge 146 = .ok (.iinc 8 1, 3) := by decide +kernel
theorem dX10_edge_149 : decode cX10_edge 149 = .ok (.iload 9, 2) := by decide +kernel
theorem dX10_edge_151 : decode cX10_edge 151 = .ok (.ifCond .lt 20, 3) := by decide +kernel
theorem dX10_edge_154 : decode cX10_edge 154 = .ok (.aload_n 0, 1) := by decide +kernel
theorem dX10_edge_155 : decode cX10_edge 155 = .ok (.getfield 45, 3) := by decide +kernel
theorem dX10_edge_158 : decode cX10_edge 158 = .ok (.iload 11, 2) := by decide +kernel
theorem dX10_edge_160 : decode cX10_edge 160 = .ok (.iaload, 1) := by decide +kernel
theorem dX10_edge_161 : decode cX10_edge 161 = .ok (.aload_n 0, 1) := by decide +kernel
theorem dX10_edge_162 : decode cX10_edge 162 = .ok (.getfield 45, 3) := by decide +kernel
theorem dX10_edge_165 : decode cX10_edge 165 = .ok (.iload 9, 2) := by decide +kernel
theorem dX10_edge_167 : decode cX10_edge 167 = .ok (.iaload, 1) := by decide +kernel
theorem dX10_edge_168 : decode cX10_edge 168 = .ok (.if_icmp .le 8, 3) := by decide +kernel
theorem dX10_edge_171 : decode cX10_edge 171 = .ok (.iload 11, 2) := by decide +kernel
theorem dX10_edge_173 : decode cX10_edge 173 = .ok (.goto 5, 3) := by decide +kernel
theorem dX10_edge_176 : decode cX10_edge 176 = .ok (.iload 9, 2) := by decide +kernel
theorem dX10_edge_178 : decode cX10_edge 178 = .ok (.istore 9, 2) := by decide +kernel
theorem dX10_edge_180 : decode cX10_edge 180 = .ok (.iinc 11 1, 3) := by decide +kernel
theorem dX10_edge_183 : decode cX10_edge 183 = .ok (.goto (-107), 3) := by decide +kernel
theorem dX10_edge_186 : decode cX10_edge 186 = .ok (.iload_n 3, 1) := by decide +kernel
theorem dX10_edge_187 : decode cX10_edge 187 = .ok (.ifCond .ne 8, 3) := by decide +kernel
theorem dX10_edge_190 : decode cX10_edge 190 = .ok (.iload 5, 2) := by decide +kernel
theorem dX10_edge_192 : decode cX10_edge 192 = .ok (.goto 35, 3) := by decide +kernel
theorem dX10_edge_195 : decode cX10_edge 195 = .ok (.iload_n 3, 1) := by decide +kernel
theorem dX10_edge_196 : decode cX10_edge 196 = .ok (.iconst 1, 1) := by decide +kernel
theorem dX10_edge_197 : decode cX10_edge 197 = .ok (.if_icmp .ne 8, 3) := by decide +kernel
theorem dX10_edge_200 : decode cX10_edge 200 = .ok (.iload 6, 2) := by decide +kernel
theorem dX10_edge_202 : decode cX10_edge 202 = .ok (.goto 25, 3) := by decide +kernel
theorem dX10_edge_205 : decode cX10_edge 205 = .ok (.iload_n 3, 1) := by decide +kernel
theorem dX10_edge_206 : decode cX10_edge 206 = .ok (.iconst 2, 1) := by decide +kernel
theorem dX10_edge_207 : decode cX10_edge 207 = .ok (.if_icmp .ne 8, 3) := by decide +kernel
theorem dX10_edge_210 : decode cX10_edge 210 = .ok (.iload 7, 2) := by decide +kernel
theorem dX10_edge_212 : decode cX10_edge 212 = .ok (.goto 15, 3) := by decide +kernel
theorem dX10_edge_215 : decode cX10_edge 215 = .ok (.iload_n 3, 1) := by decide +kernel
theorem dX10_edge_216 : decode cX10_edge 216 = .ok (.iconst 3, 1) := by decide +kernel
theorem dX10_edge_217 : decode cX10_edge 217 = .ok (.if_icmp .ne 8, 3) := by decide +kernel
theorem dX10_edge_220 : decode cX10_edge 220 = .ok (.iload 8, 2) := by decide +kernel
theorem dX10_edge_222 : decode cX10_edge 222 = .ok (.goto 5, 3) := by decide +kernel
theorem dX10_edge_225 : decode cX10_edge 225 = .ok (.iload 9, 2) := by decide +kernel
theorem dX10_edge_227 : decode cX10_edge 227 = .ok (.ireturn, 1) := by decide +kernel
theorem dX10_two_0 : decode cX10_two 0 = .ok (.aload_n 0, 1) := by decide +kernel
theorem dX10_two_1 : decode cX10_two 1 = .ok (.iload_n 1, 1) := by decide +kernel
theorem dX10_two_2 : decode cX10_two 2 = .ok (.invokevirtual 163, 3) := by decide +kernel
theorem dX10_two_5 : decode cX10_two 5 = .ok (.ifCond .eq 20, 3) := by decide +kernel
theorem dX10_two_8 : decode cX10_two 8 = .ok (.aload_n 0, 1) := by decide +kernel
theorem dX10_two_9 : decode cX10_two 9 = .ok (.iload_n 2, 1) := by decide +kernel
theorem dX10_two_10 : decode cX10_two 10 = .ok (.invokevirtual 163, 3) := by decide +kernel
theorem dX10_two_13 : decode cX10_two 13 = .ok (.ifCond .eq 12, 3) := by decide +kernel
theorem dX10_two_16 : decode cX10_two 16 = .ok (.iload_n 3, 1) := by decide +kernel
theorem dX10_two_17 : decode cX10_two 17 = .ok (.iconst 0, 1) := by decide +kernel
theorem dX10_two_18 : decode cX10_two 18 = .ok (.iconst 4, 1) := by decide +kernel
theorem dX10_two_19 : decode cX10_two 19 = .ok (.invokestatic 63, 3) := by decide +kernel
theorem dX10_two_22 : decode cX10_two 22 = .ok (.ifCond .ne 5, 3) := by decide +kernel
theorem dX10_two_25 : decode cX10_two 25 = .ok (.iconst (-1), 1) := by decide +kernel
theorem dX10_two_26 : decode cX10_two 26 = .ok (.ireturn, 1) := by decide +kernel
theorem dX10_two_27 : decode cX10_two 27 = .ok (.iconst 0, 1) := by decide +kernel
theorem dX10_two_28 : decode cX10_two 28 = .ok (.istore 4, 2) := by decide +kernel
theorem dX10_two_30 : decode cX10_two 30 = .ok (.iconst 0, 1) := by decide +kernel
theorem dX10_two_31 : decode cX10_two 31 = .ok (.istore 5, 2) := by decide +kernel
theorem dX10_two_33 : decode cX10_two 33 = .ok (.iconst 0, 1) := by decide +kernel
theorem dX10_two_34 : decode cX10_two 34 = .ok (.istore 6, 2) := by decide +kernel
theorem dX10_two_36 : decode cX10_two 36 = .ok (.iconst 0, 1) := by decide +kernel
theorem dX10_two_37 : decode cX10_two 37 = .ok (.istore 7, 2) := by decide +kernel
theorem dX10_two_39 : decode cX10_two 39 = .ok (.iload 7, 2) := by decide +kernel
theorem dX10_two_41 : decode cX10_two 41 = .ok (.aload_n 0, 1) := by decide +kernel
theorem dX10_two_42 : decode cX10_two 42 = .ok (.getfield 11, 3) := by decide +kernel
theorem dX10_two_45 : decode cX10_two 45 = .ok (.sipush 480, 3) := by decide +kernel
theorem dX10_two_48 : decode cX10_two 48 = .ok (.iaload, 1) := by decide +kernel
theorem dX10_two_49 : decode cX10_two 49 = .ok (.if_icmp .ge 97, 3) := by decide +kernel
theorem dX10_two_52 : decode cX10_two 52 = .ok (.aload_n 0, 1) := by decide +kernel
theorem dX10_two_53 : decode cX10_two 53 = .ok (.aload_n 0, 1) := by decide +kernel
theorem dX10_two_54 : decode cX10_two 54 = .ok (.getfield 21, 3) := by decide +kernel
theorem dX10_two_57 : decode cX10_two 57 = .ok (.iload_n 1, 1) := by decide +kernel
theorem dX10_two_58 : decode cX10_two 58 = .ok (.iaload, 1) := by decide +kernel
theorem dX10_two_59 : decode cX10_two 59 = .ok (.iload 7, 2) := by decide +kernel
theorem dX10_two_61 : decode cX10_two 61 = .ok (.invokevirtual 146, 3) := by decide +kernel
theorem dX10_two_64 : decode cX10_two 64 = .ok (.istore 8, 2) := by decide +kernel
theorem dX10_two_66 : decode cX10_two 66 = .ok (.aload_n 0, 1) := by decide +kernel
theorem dX10_two_67 : decode cX10_two 67 = .ok (.aload_n 0, 1) := by decide +kernel
theorem dX10_two_68 : decode cX10_two 68 = .ok (.getfield 21, 3) := by decide +kernel
theorem dX10_two_71 : decode cX10_two 71 = .ok (.iload_n 2, 1) := by decide +kernel
theorem dX10_two_72 : decode cX10_two 72 = .ok (.iaload, 1) := by decide +kernel
theorem dX10_two_73 : decode cX10_two 73 = .ok (.iload 7, 2) := by decide +kernel
theorem dX10_two_75 : decode cX10_two 75 = .ok (.invokevirtual 146, 3) := by decide +kernel
theorem dX10_two_78 : decode cX10_two 78 = .ok (.istore 9, 2) := by decide +kernel
theorem dX10_two_80 : decode cX10_two 80 = .ok (.iload 4, 2) := by decide +kernel
theorem dX10_two_82 : decode cX10_two 82 = .ok (.iload 8, 2) := by decide +kernel
theorem dX10_two_84 : decode cX10_two 84 = .ok (.ifCond .eq 12, 3) := by decide +kernel
theorem dX10_two_87 : decode cX10_two 87 = .ok (.iload 9, 2) := by decide +kernel
theorem dX10_two_89 : decode cX10_two 89 = .ok (.ifCond .eq 7, 3) := by decide +kernel
theorem dX10_two_92 : decode cX10_two 92 = .ok (.iconst 1, 1) := by decide +kernel
theorem dX10_two_93 : decode cX10_two 93 = .ok (.goto 4, 3) := by decide +kernel
theorem dX10_two_96 : decode cX10_two 96 = .ok (.iconst 0, 1) := by decide +kernel
theorem dX10_two_97 : decode cX10_two 97 = .ok (.iadd, 1) := by decide +kernel
theorem dX10_two_98 : decode cX10_two 98 = .ok (.istore 4, 2) := by decide +kernel
theorem dX10_two_100 : decode cX10_two 100 = .ok (.iload 5, 2) := by decide +kernel
theorem dX10_two_102 : decode cX10_two 102 = .ok (.iload 8, 2) := by decide +kernel
theorem dX10_two_104 : decode cX10_two 104 = .ok (.ifCond .eq 12, 3) := by decide +kernel
theorem dX10_two_107 : decode cX10_two 107 = .ok (.iload 9, 2) := by decide +kernel
theorem dX10_two_109 : decode cX10_two 109 = .ok (.ifCond .ne 7, 3) := by decide +kernel
theorem dX10_two_112 : decode cX10_two 112 = .ok (.iconst 1, 1) := by decide +kernel
theorem dX10_two_113 : decode cX10_two 113 = .ok (.goto 4, 3) := by decide +kernel
theorem dX10_two_116 : decode cX10_two 116 = .ok (.iconst 0, 1) := by decide +kernel
theorem dX10_two_117 : decode cX10_two 117 = .ok (.iadd, 1) := by decide +kernel
theorem dX10_two_118 : decode cX10_two 118 = .ok (.istore 5, 2) := by decide +kernel
theorem dX10_two_120 : decode cX10_two 120 = .ok (.iload 6, 2) := by decide +kernel
theorem dX10_two_122 : decode cX10_two 122 = .ok (.iload 9, 2) := by decide +kernel
theorem dX10_two_124 : decode cX10_two 124 = .ok (.ifCond .eq 12, 3) := by decide +kernel
theorem dX10_two_127 : decode cX10_two 127 = .ok (.iload 8, 2) := by decide +kernel
theorem dX10_two_129 : decode cX10_two 129 = .ok (.ifCond .ne 7, 3) := by decide +kernel
theorem dX10_two_132 : decode cX10_two 132 = .ok (.iconst 1, 1) := by decide +kernel
theorem dX10_two_133 : decode cX10_two 133 = .ok (.goto 4, 3) := by decide +kernel
theorem dX10_two_136 : decode cX10_two 136 = .ok (.iconst 0, 1) := by decide +kernel
theorem dX10_two_137 : decode cX10_two 137 = .ok (.iadd, 1) := by decide +kernel
theorem dX10_two_138 : decode cX10_two 138 = .ok (.istore 6, 2) := by decide +kernel
theorem dX10_two_140 : decode cX10_two 140 = .ok (.iinc 7 1, 3) := by decide +kernel
theorem dX10_two_143 : decode cX10_two 143 = .ok (.goto (-104), 3) := by decide +kernel
theorem dX10_two_146 : decode cX10_two 146 = .ok (.iload_n 3, 1) := by decide +kernel
theorem dX10_two_147 : decode cX10_two 147 = .ok (.tableswitch 58 0 3 #[29, 32, 41, 44], 29) := by decide +kernel
theorem dX10_two_176 : decode cX10_two 176 = .ok (.iload 4, 2) := by decide +kernel
theorem dX10_two_178 : decode cX10_two 178 = .ok (.ireturn, 1) := by decide +kernel
theorem dX10_two_179 : decode cX10_two 179 = .ok (.iload 4, 2) := by decide +kernel
theorem dX10_two_181 : decode cX10_two 181 = .ok (.iload 5, 2) := by decide +kernel
theorem dX10_two_183 : decode cX10_two 183 = .ok (.iadd, 1) := by decide +kernel
theorem dX10_two_184 : decode cX10_two 184 = .ok (.iload 6, 2) := by decide +kernel
theorem dX10_two_186 : decode cX10_two 186 = .ok (.iadd, 1) := by decide +kernel
theorem dX10_two_187 : decode cX10_two 187 = .ok (.ireturn, 1) := by decide +kernel
theorem dX10_two_188 : decode cX10_two 188 = .ok (.iload 5, 2) := by decide +kernel
theorem dX10_two_190 : decode cX10_two 190 = .ok (.ireturn, 1) := by decide +kernel
theorem dX10_two_191 : decode cX10_two 191 = .ok (.iload 5, 2) := by decide +kernel
theorem dX10_two_193 : decode cX10_two 193 = .ok (.iload 6, 2) := by decide +kernel
theorem dX10_two_195 : decode cX10_two 195 = .ok (.iadd, 1) := by decide +kernel
theorem dX10_two_196 : decode cX10_two 196 = .ok (.ifCond .ne 7, 3) := by decide +kernel
theorem dX10_two_199 : decode cX10_two 199 = .ok (.iconst 1, 1) := by decide +kernel
theorem dX10_two_200 : decode cX10_two 200 = .ok (.goto 4, 3) := by decide +kernel
theorem dX10_two_203 : decode cX10_two 203 = .ok (.iconst 0, 1) := by decide +kernel
theorem dX10_two_204 : decode cX10_two 204 = .ok (.ireturn, 1) := by decide +kernel
theorem dX10_two_205 : decode cX10_two 205 = .ok (.iload 5, 2) := by decide +kernel
theorem dX10_two_207 : decode cX10_two 207 = .ok (.ifCond .ne 7, 3) := by decide +kernel
theorem dX10_two_210 : decode cX10_two 210 = .ok (.iconst 1, 1) := by decide +kernel
theorem dX10_two_211 : decode cX10_two 211 = .ok (.goto 4, 3) := by decide +kernel
theorem dX10_two_214 : decode cX10_two 214 = .ok (.iconst 0, 1) := by decide +kernel
theorem dX10_two_215 : decode cX10_two 215 = .ok (.ireturn, 1) := by decide +kernel
theorem dX10_see_0 : decode cX10_see 0 = .ok (.iload_n 1, 1) := by decide +kernel
theorem dX10_see_1 : decode cX10_see 1 = .ok (.iconst (-1), 1) := by decide +kernel
theorem dX10_see_2 : decode cX10_see 2 = .ok (.if_icmp .ne 14, 3) := by decide +kernel
theorem dX10_see_5 : decode cX10_see 5 = .ok (.aload_n 0, 1) := by decide +kernel
theorem dX10_see_6 : decode cX10_see 6 = .ok (.getfield 11, 3) := by decide +kernel
theorem dX10_see_9 : decode cX10_see 9 = .ok (.sipush 492, 3) := by decide +kernel
theorem dX10_see_12 : decode cX10_see 12 = .ok (.iconst 0, 1) := by decide +kernel
theorem dX10_see_13 : decode cX10_see 13 = .ok (.iastore, 1) := by decide +kernel
theorem dX10_see_14 : decode cX10_see 14 = .ok (.iconst 0, 1) := by decide +kernel
theorem dX10_see_15 : decode cX10_see 15 = .ok (.ireturn, 1) := by decide +kernel
theorem dX10_see_16 : decode cX10_see 16 = .ok (.aload_n 0, 1) := by decide +kernel
theorem dX10_see_17 : decode cX10_see 17 = .ok (.iload_n 1, 1) := by decide +kernel
theorem dX10_see_18 : decode cX10_see 18 = .ok (.invokevirtual 71, 3) := by decide +kernel
theorem dX10_see_21 : decode cX10_see 21 = .ok (.ifCond .ne 5, 3) := by decide +kernel
theorem dX10_see_24 : decode cX10_see 24 = .ok (.iconst (-1), 1) := by decide +kernel
theorem dX10_see_25 : decode cX10_see 25 = .ok (.ireturn, 1) := by decide +kernel
theorem dX10_see_26 : decode cX10_see 26 = .ok (.aload_n 0, 1) := by decide +kernel
theorem dX10_see_27 : decode cX10_see 27 = .ok (.getfield 11, 3) := by decide +kernel
theorem dX10_see_30 : decode cX10_see 30 = .ok (.sipush 492, 3) := by decide +kernel
theorem dX10_see_33 : decode cX10_see 33 = .ok (.iaload, 1) := by decide +kernel
theorem dX10_see_34 : decode cX10_see 34 = .ok (.bipush 6, 2) := by decide +kernel
theorem dX10_see_36 : decode cX10_see 36 = .ok (.if_icmp .ne 6, 3) := by decide +kernel
theorem dX10_see_39 : decode cX10_see 39 = .ok (.bipush (-4), 2) := by decide +kernel
theorem dX10_see_41 : decode cX10_see 41 = .ok (.ireturn, 1) := by decide +kernel
theorem dX10_see_42 : decode cX10_see 42 = .ok (.aload_n 0, 1) := by decide +kernel
theorem dX10_see_43 : decode cX10_see 43 = .ok (.getfield 11, 3) := by decide +kernel
theorem dX10_see_46 : decode cX10_see 46 = .ok (.sipush 493, 3) := by decide +kernel
theorem dX10_see_49 : decode cX10_see 49 = .ok (.iconst 2, 1) := by decide +kernel
theorem dX10_see_50 : decode cX10_see 50 = .ok (.aload_n 0, 1) := by decide +kernel
theorem dX10_see_51 : decode cX10_see 51 = .ok (.getfield 11, 3) := by decide +kernel
theorem dX10_see_54 : decode cX10_see 54 = .ok (.sipush 492, 3) := by decide +kernel
theorem dX10_see_57 : decode cX10_see 57 = .ok (.iaload, 1) := by decide +kernel
theorem dX10_see_58 : decode cX10_see 58 = .ok (.imul, 1) := by decide +kernel
theorem dX10_see_59 : decode cX10_see 59 = .ok (.iadd, 1) := by decide +kernel
theorem dX10_see_60 : decode cX10_see 60 = .ok (.iload_n 1, 1) := by decide +kernel
theorem dX10_see_61 : decode cX10_see 61 = .ok (.iastore, 1) := by decide +kernel
theorem dX10_see_62 : decode cX10_see 62 = .ok (.aload_n 0, 1) := by decide +kernel
theorem dX10_see_63 : decode cX10_see 63 = .ok (.getfield 11, 3) := by decide +kernel
theorem dX10_see_66 : decode cX10_see 66 = .ok (.sipush 493, 3) := by decide +kernel
theorem dX10_see_69 : decode cX10_see 69 = .ok (.iconst 2, 1) := by decide +kernel
theorem dX10_see_70 : decode cX10_see 70 = .ok (.aload_n 0, 1) := by decide +kernel
theorem dX10_see_71 : decode cX10_see 71 = .ok (.getfield 11, 3) := by decide +kernel
theorem dX10_see_74 : decode cX10_see 74 = .ok (.sipush 492, 3) := by decide +kernel
theorem dX10_see_77 : decode cX10_see 77 = .ok (.iaload, 1) := by decide +kernel
theorem dX10_see_78 : decode cX10_see 78 = .ok (.imul, 1) := by decide +kernel
theorem dX10_see_79 : decode cX10_see 79 = .ok (.iadd, 1) := by decide +kernel
theorem dX10_see_80 : decode cX10_see 80 = .ok (.iconst 1, 1) := by decide +kernel
theorem dX10_see_81 : decode cX10_see 81 = .ok (.iadd, 1) := by decide +kernel
theorem dX10_see_82 : decode cX10_see 82 = .ok (.iload_n 2, 1) := by decide +kernel
theorem dX10_see_83 : decode cX10_see 83 = .ok (.ifCond .eq 7, 3) := by decide +kernel
theorem dX10_see_86 : decode cX10_see 86 = .ok (.iconst 1, 1) := by decide +kernel
theorem dX10_see_87 : decode cX10_see 87 = .ok (.goto 4, 3) := by decide +kernel
theorem dX10_see_90 : decode cX10_see 90 = .ok (.iconst 0, 1) := by decide +kernel
theorem dX10_see_91 : decode cX10_see 91 = .ok (.iastore, 1) := by decide +kernel
theorem dX10_see_92 : decode cX10_see 92 = .ok (.aload_n 0, 1) := by decide +kernel
theorem dX10_see_93 : decode cX10_see 93 = .ok (.getfield 11, 3) := by decide +kernel
theorem dX10_see_96 : decode cX10_see 96 = .ok (.sipush 492, 3) := by decide +kernel
theorem dX10_see_99 : decode cX10_see 99 = .ok (.dup2, 1) := by decide +kernel
theorem dX10_see_100 : decode cX10_see 100 = .ok (.iaload, 1) := by decide +kernel
theorem dX10_see_101 : decode cX10_see 101 = .ok (.iconst 1, 1) := by decide +kernel
theorem dX10_see_102 : decode cX10_see 102 = .ok (.iadd, 1) := by decide +kernel
theorem dX10_see_103 : decode cX10_see 103 = .ok (.iastore, 1) := by decide +kernel
theorem dX10_see_104 : decode cX10_see 104 = .ok (.aload_n 0, 1) := by decide +kernel
theorem dX10_see_105 : decode cX10_see 105 = .ok (.getfield 11, 3) := by decide +kernel
theorem dX10_see_108 : decode cX10_see 108 = .ok (.sipush 492, 3) := by decide +kernel
theorem dX10_see_111 : decode cX10_see 111 = .ok (.iaload, 1) := by decide +kernel
theorem dX10_see_112 : decode cX10_see 112 = .ok (.ireturn, 1) := by decide +kernel
theorem dX10_isSeen_0 : decode cX10_isSeen 0 = .ok (.iconst 0, 1) := by decide +kernel
theorem dX10_isSeen_1 : decode cX10_isSeen 1 = .ok (.istore_n 3, 1) := by decide +kernel
theorem dX10_isSeen_2 : decode cX10_isSeen 2 = .ok (.iload_n 3, 1) := by decide +kernel
theorem dX10_isSeen_3 : decode cX10_isSeen 3 = .ok (.aload_n 0, 1) := by decide +kernel
theorem dX10_isSeen_4 : decode cX10_isSeen 4 = .ok (.getfield 11, 3) := by decide +kernel
theorem dX10_isSeen_7 : decode cX10_isSeen 7 = .ok (.sipush 492, 3) := by decide +kernel
theorem dX10_isSeen_10 : decode cX10_isSeen 10 = .ok (.iaload, 1) := by decide +kernel
theorem dX10_isSeen_11 : decode cX10_isSeen 11 = .ok (.if_icmp .ge 80, 3) := by decide +kernel
theorem dX10_isSeen_14 : decode cX10_isSeen 14 = .ok (.aload_n 0, 1) := by decide +kernel
theorem dX10_isSeen_15 : decode cX10_isSeen 15 = .ok (.getfield 11, 3) := by decide +kernel
theorem dX10_isSeen_18 : decode cX10_isSeen 18 = .ok (.sipush 493, 3) := by decide +kernel
theorem dX10_isSeen_21 : decode cX10_isSeen 21 = .ok (.iconst 2, 1) := by decide +kernel
theorem dX10_isSeen_22 : decode cX10_isSeen 22 = .ok (.iload_n 3, 1) := by decide +kernel
theorem dX10_isSeen_23 : decode cX10_isSeen 23 = .ok (.imul, 1) := by decide +kernel
theorem dX10_isSeen_24 : decode cX10_isSeen 24 = .ok (.iadd, 1) := by decide +kernel
theorem dX10_isSeen_25 : decode cX10_isSeen 25 = .ok (.iaload, 1) := by decide +kernel
theorem dX10_isSeen_26 : decode cX10_isSeen 26 = .ok (.istore 4, 2) := by decide +kernel
theorem dX10_isSeen_28 : decode cX10_isSeen 28 = .ok (.aload_n 0, 1) := by decide +kernel
theorem dX10_isSeen_29 : decode cX10_isSeen 29 = .ok (.iload 4, 2) := by decide +kernel
theorem dX10_isSeen_31 : decode cX10_isSeen 31 = .ok (.invokevirtual 71, 3) := by decide +kernel
theorem dX10_isSeen_34 : decode cX10_isSeen 34 = .ok (.ifCond .eq 49, 3) := by decide +kernel
theorem dX10_isSeen_37 : decode cX10_isSeen 37 = .ok (.aload_n 0, 1) := by decide +kernel
theorem dX10_isSeen_38 : decode cX10_isSeen 38 = .ok (.getfield 11, 3) := by decide +kernel
theorem dX10_isSeen_41 : decode cX10_isSeen 41 = .ok (.iconst 4, 1) := by decide +kernel
theorem dX10_isSeen_42 : decode cX10_isSeen 42 = .ok (.iload 4, 2) := by decide +kernel
theorem dX10_isSeen_44 : decode cX10_isSeen 44 = .ok (.imul, 1) := by decide +kernel
theorem dX10_isSeen_45 : decode cX10_isSeen 45 = .ok (.iload_n 1, 1) := by decide +kernel
theorem dX10_isSeen_46 : decode cX10_isSeen 46 = .ok (.iadd, 1) := by decide +kernel
theorem dX10_isSeen_47 : decode cX10_isSeen 47 = .ok (.iaload, 1) := by decide +kernel
theorem dX10_isSeen_48 : decode cX10_isSeen 48 = .ok (.iload_n 2, 1) := by decide +kernel
theorem dX10_isSeen_49 : decode cX10_isSeen 49 = .ok (.if_icmp .ge 7, 3) := by decide +kernel
theorem dX10_isSeen_52 : decode cX10_isSeen 52 = .ok (.iconst 1, 1) := by decide +kernel
theorem dX10_isSeen_53 : decode cX10_isSeen 53 = .ok (.goto 4, 3) := by decide +kernel
theorem dX10_isSeen_56 : decode cX10_isSeen 56 = .ok (.iconst 0, 1) := by decide +kernel
theorem dX10_isSeen_57 : decode cX10_isSeen 57 = .ok (.aload_n 0, 1) := by decide +kernel
theorem dX10_isSeen_58 : decode cX10_isSeen 58 = .ok (.getfield 11, 3) := by decide +kernel
theorem dX10_isSeen_61 : decode cX10_isSeen 61 = .ok (.sipush 493, 3) := by decide +kernel
theorem dX10_isSeen_64 : decode cX10_isSeen 64 = .ok (.iconst 2, 1) := by decide +kernel
theorem dX10_isSeen_65 : decode cX10_isSeen 65 = .ok (.iload_n 3, 1) := by decide +kernel
theorem dX10_isSeen_66 : decode cX10_isSeen 66 = .ok (.imul, 1) := by decide +kernel
theorem dX10_isSeen_67 : decode cX10_isSeen 67 = .ok (.iadd, 1) := by decide +kernel
theorem dX10_isSeen_68 : decode cX10_isSeen 68 = .ok (.iconst 1, 1) := by decide +kernel
theorem dX10_isSeen_69 : decode cX10_isSeen 69 = .ok (.iadd, 1) := by decide +kernel
theorem dX10_isSeen_70 : decode cX10_isSeen 70 = .ok (.iaload, 1) := by decide +kernel
theorem dX10_isSeen_71 : decode cX10_isSeen 71 = .ok (.iconst 1, 1) := by decide +kernel
theorem dX10_isSeen_72 : decode cX10_isSeen 72 = .ok (.if_icmp .ne 7, 3) := by decide +kernel
theorem dX10_isSeen_75 : decode cX10_isSeen 75 = .ok (.iconst 1, 1) := by decide +kernel
theorem dX10_isSeen_76 : decode cX10_isSeen 76 = .ok (.goto 4, 3) := by decide +kernel
theorem dX10_isSeen_79 : decode cX10_isSeen 79 = .ok (.iconst 0, 1) := by decide +kernel
theorem dX10_isSeen_80 : decode cX10_isSeen 80 = .ok (.if_icmp .eq 5, 3) := by decide +kernel
theorem dX10_isSeen_83 : decode cX10_isSeen 83 = .ok (.iconst 0, 1) := by decide +kernel
theorem dX10_isSeen_84 : decode cX10_isSeen 84 = .ok (.ireturn, 1) := by decide +kernel
theorem dX10_isSeen_85 : decode cX10_isSeen 85 = .ok (.iinc 3 1, 3) := by decide +kernel
theorem dX10_isSeen_88 : decode cX10_isSeen 88 = .ok (.goto (-86), 3) := by decide +kernel
theorem dX10_isSeen_91 : decode cX10_isSeen 91 = .ok (.iconst 1, 1) := by decide +kernel
theorem dX10_isSeen_92 : decode cX10_isSeen 92 = .ok (.ireturn, 1) := by decide +kernel
theorem dX10_bounds_0 : decode cX10_bounds 0 = .ok (.iload_n 1, 1) := by decide +kernel
theorem dX10_bounds_1 : decode cX10_bounds 1 = .ok (.iconst 0, 1) := by decide +kernel
theorem dX10_bounds_2 : decode cX10_bounds 2 = .ok (.iconst 3, 1) := by decide +kernel
theorem dX10_bounds_3 : decode cX10_bounds 3 = .ok (.invokestatic 63, 3) := by decide +kernel
theorem dX10_bounds_6 : decode cX10_bounds 6 = .ok (.ifCond .eq 12, 3) := by decide +kernel
theorem dX10_bounds_9 : decode cX10_bounds 9 = .ok (.iload_n 2, 1) := by decide +kernel
theorem dX10_bounds_10 : decode cX10_bounds 10 = .ok (.iconst 0, 1) := by decide +kernel
theorem dX10_bounds_11 : decode cX10_bounds 11 = .ok (.iconst 1, 1) := by decide +kernel
theorem dX10_bounds_12 : decode cX10_bounds 12 = .ok (.invokestatic 63, 3) := by decide +kernel
theorem dX10_bounds_15 : decode cX10_bounds 15 = .ok (.ifCond .ne 5, 3) := by decide +kernel
theorem dX10_bounds_18 : decode cX10_bounds 18 = .ok (.iconst (-1), 1) := by decide +kernel
theorem dX10_bounds_19 : decode cX10_bounds 19 = .ok (.ireturn, 1) := by decide +kernel
theorem dX10_bounds_20 : decode cX10_bounds 20 = .ok (.iconst 0, 1) := by decide +kernel
theorem dX10_bounds_21 : decode cX10_bounds 21 = .ok (.istore_n 3, 1) := by decide +kernel
theorem dX10_bounds_22 : decode cX10_bounds 22 = .ok (.bipush (-5), 2) := by decide +kernel
theorem dX10_bounds_24 : decode cX10_bounds 24 = .ok (.istore 4, 2) := by decide +kernel
theorem dX10_bounds_26 : decode cX10_bounds 26 = .ok (.bipush 15, 2) := by decide +kernel
theorem dX10_bounds_28 : decode cX10_bounds 28 = .ok (.istore 5, 2) := by decide +kernel
theorem dX10_bounds_30 : decode cX10_bounds 30 = .ok (.iload 5, 2) := by decide +kernel
theorem dX10_bounds_32 : decode cX10_bounds 32 = .ok (.ifCond .lt 26, 3) := by decide +kernel
theorem dX10_bounds_35 : decode cX10_bounds 35 = .ok (.aload_n 0, 1) := by decide +kernel
theorem dX10_bounds_36 : decode cX10_bounds 36 = .ok (.iload_n 1, 1) := by decide +kernel
theorem dX10_bounds_37 : decode cX10_bounds 37 = .ok (.iload 5, 2) := by decide +kernel
theorem dX10_bounds_39 : decode cX10_bounds 39 = .ok (.invokevirtual 176, 3) := by decide +kernel
theorem dX10_bounds_42 : decode cX10_bounds 42 = .ok (.ifCond .eq 10, 3) := by decide +kernel
theorem dX10_bounds_45 : decode cX10_bounds 45 = .ok (.iinc 3 1, 3) := by decide +kernel
theorem dX10_bounds_48 : decode cX10_bounds 48 = .ok (.iload 5, 2) := by decide +kernel
theorem dX10_bounds_50 : decode cX10_bounds 50 = .ok (.istore 4, 2) := by decide +kernel
theorem dX10_bounds_52 : decode cX10_bounds 52 = .ok (.iinc 5 (-1), 3) := by decide +kernel
theorem dX10_bounds_55 : decode cX10_bounds 55 = .ok (.goto (-25), 3) := by decide +kernel
theorem dX10_bounds_58 : decode cX10_bounds 58 = .ok (.iload_n 2, 1) := by decide +kernel
theorem dX10_bounds_59 : decode cX10_bounds 59 = .ok (.ifCond .ne 7, 3) := by decide +kernel
theorem dX10_bounds_62 : decode cX10_bounds 62 = .ok (.iload_n 3, 1) := by decide +kernel
theorem dX10_bounds_63 : decode cX10_bounds 63 = .ok (.goto 5, 3) := by decide +kernel
theorem dX10_bounds_66 : decode cX10_bounds 66 = .ok (.iload 4, 2) := by decide +kernel
theorem dX10_bounds_68 : decode cX10_bounds 68 = .ok (.ireturn, 1) := by decide +kernel
theorem dX10_common_0 : decode cX10_common 0 = .ok (.iload_n 0, 1) := by decide +kernel
theorem dX10_common_1 : decode cX10_common 1 = .ok (.istore_n 2, 1) := by decide +kernel
theorem dX10_common_2 : decode cX10_common 2 = .ok (.iload_n 1, 1) := by decide +kernel
theorem dX10_common_3 : decode cX10_common 3 = .ok (.istore_n 3, 1) := by decide +kernel
theorem dX10_common_4 : decode cX10_common 4 = .ok (.iload_n 3, 1) := by decide +kernel
theorem dX10_common_5 : decode cX10_common 5 = .ok (.ifCond .eq 16, 3) := by decide +kernel
theorem dX10_common_8 : decode cX10_common 8 = .ok (.iload_n 2, 1) := by decide +kernel
theorem dX10_common_9 : decode cX10_common 9 = .ok (.iload_n 3, 1) := by decide +kernel
theorem dX10_common_10 : decode cX10_common 10 = .ok (.irem, 1) := by decide +kernel
theorem dX10_common_11 : decode cX10_common 11 = .ok (.istore 4, 2) := by decide +kernel
theorem dX10_common_13 : decode cX10_common 13 = .ok (.iload_n 3, 1) := by decide +kernel
theorem dX10_common_14 : decode cX10_common 14 = .ok (.istore_n 2, 1) := by decide +kernel
theorem dX10_common_15 : decode cX10_common 15 = .ok (.iload 4, 2) := by decide +kernel
theorem dX10_common_17 : decode cX10_common 17 = .ok (.istore_n 3, 1) := by decide +kernel
theorem dX10_common_18 : decode cX10_common 18 = .ok (.goto (-14), 3) := by decide +kernel
theorem dX10_common_21 : decode cX10_common 21 = .ok (.iload_n 2, 1) := by decide +kernel
theorem dX10_common_22 : decode cX10_common 22 = .ok (.ireturn, 1) := by decide +kernel
theorem dX10_part_0 : decode cX10_part 0 = .ok (.iload_n 0, 1) := by decide +kernel
theorem dX10_part_1 : decode cX10_part 1 = .ok (.iload_n 1, 1) := by decide +kernel
theorem dX10_part_2 : decode cX10_part 2 = .ok (.invokestatic 179, 3) := by decide +kernel
theorem dX10_part_5 : decode cX10_part 5 = .ok (.istore_n 3, 1) := by decide +kernel
theorem dX10_part_6 : decode cX10_part 6 = .ok (.iload_n 2, 1) := by decide +kernel
theorem dX10_part_7 : decode cX10_part 7 = .ok (.ifCond .ne 10, 3) := by decide +kernel
theorem dX10_part_10 : decode cX10_part 10 = .ok (.iload_n 0, 1) := by decide +kernel
theorem dX10_part_11 : decode cX10_part 11 = .ok (.iload_n 3, 1) := by decide +kernel
theorem dX10_part_12 : decode cX10_part 12 = .ok (.idiv, 1) := by decide +kernel
theorem dX10_part_13 : decode cX10_part 13 = .ok (.i2l, 1) := by decide +kernel
theorem dX10_part_14 : decode cX10_part 14 = .ok (.goto 7, 3) := by decide +kernel
theorem dX10_part_17 : decode cX10_part 17 = .ok (.iload_n 1, 1) := by decide +kernel
theorem dX10_part_18 : decode cX10_part 18 = .ok (.iload_n 3, 1) := by decide +kernel
theorem dX10_part_19 : decode cX10_part 19 = .ok (.idiv, 1) := by decide +kernel
theorem dX10_part_20 : decode cX10_part 20 = .ok (.i2l, 1) := by decide +kernel
theorem dX10_part_21 : decode cX10_part 21 = .ok (.lreturn, 1) := by decide +kernel
theorem dX10_odds_0 : decode cX10_odds 0 = .ok (.aload_n 0, 1) := by decide +kernel
theorem dX10_odds_1 : decode cX10_odds 1 = .ok (.iload_n 1, 1) := by decide +kernel
theorem dX10_odds_2 : decode cX10_odds 2 = .ok (.invokevirtual 163, 3) := by decide +kernel
theorem dX10_odds_5 : decode cX10_odds 5 = .ok (.ifCond .eq 23, 3) := by decide +kernel
theorem dX10_odds_8 : decode cX10_odds 8 = .ok (.iload_n 2, 1) := by decide +kernel
theorem dX10_odds_9 : decode cX10_odds 9 = .ok (.iconst 0, 1) := by decide +kernel
theorem dX10_odds_10 : decode cX10_odds 10 = .ok (.iconst 1, 1) := by decide +kernel
theorem dX10_odds_11 : decode cX10_odds 11 = .ok (.invokestatic 63, 3) := by decide +kernel
theorem dX10_odds_14 : decode cX10_odds 14 = .ok (.ifCond .eq 14, 3) := by decide +kernel
theorem dX10_odds_17 : decode cX10_odds 17 = .ok (.aload_n 0, 1) := by decide +kernel
theorem dX10_odds_18 : decode cX10_odds 18 = .ok (.getfield 11, 3) := by decide +kernel
theorem dX10_odds_21 : decode cX10_odds 21 = .ok (.sipush 480, 3) := by decide +kernel
theorem dX10_odds_24 : decode cX10_odds 24 = .ok (.iaload, 1) := by decide +kernel
theorem dX10_odds_25 : decode cX10_odds 25 = .ok (.ifCond .ne 7, 3) := by decide +kernel
theorem dX10_odds_28 : decode cX10_odds 28 = .ok (.ldc2_w 182, 3) := by decide +kernel
theorem dX10_odds_31 : decode cX10_odds 31 = .ok (.lreturn, 1) := by decide +kernel
theorem dX10_odds_32 : decode cX10_odds 32 = .ok (.aload_n 0, 1) := by decide +kernel
theorem dX10_odds_33 : decode cX10_odds 33 = .ok (.aload_n 0, 1) := by decide +kernel
theorem dX10_odds_34 : decode cX10_odds 34 = .ok (.getfield 21, 3) := by decide +kernel
theorem dX10_odds_37 : decode cX10_odds 37 = .ok (.iload_n 1, 1) := by decide +kernel
theorem dX10_odds_38 : decode cX10_odds 38 = .ok (.iaload, 1) := by decide +kernel
theorem dX10_odds_39 : decode cX10_odds 39 = .ok (.invokevirtual 166, 3) := by decide +kernel
theorem dX10_odds_42 : decode cX10_odds 42 = .ok (.aload_n 0, 1) := by decide +kernel
theorem dX10_odds_43 : decode cX10_odds 43 = .ok (.getfield 11, 3) := by decide +kernel
theorem dX10_odds_46 : decode cX10_odds 46 = .ok (.sipush 480, 3) := by decide +kernel
theorem dX10_odds_49 : decode cX10_odds 49 = .ok (.iaload, 1) := by decide +kernel
theorem dX10_odds_50 : decode cX10_odds 50 = .ok (.iload_n 2, 1) := by decide +kernel
theorem dX10_odds_51 : decode cX10_odds 51 = .ok (.invokestatic 184, 3) := by decide +kernel
theorem dX10_odds_54 : decode cX10_odds 54 = .ok (.lreturn, 1) := by decide +kernel
theorem dX10_mean_0 : decode cX10_mean 0 = .ok (.aload_n 0, 1) := by decide +kernel
theorem dX10_mean_1 : decode cX10_mean 1 = .ok (.iload_n 1, 1) := by decide +kernel
theorem dX10_mean_2 : decode cX10_mean 2 = .ok (.invokevirtual 163, 3) := by decide +kernel
theorem dX10_mean_5 : decode cX10_mean 5 = .ok (.ifCond .eq 21, 3) := by decide +kernel
theorem dX10_mean_8 : decode cX10_mean 8 = .ok (.iload_n 2, 1) := by decide +kernel
theorem dX10_mean_9 : decode cX10_mean 9 = .ok (.iconst 0, 1) := by decide +kernel
theorem dX10_mean_10 : decode cX10_mean 10 = .ok (.iconst 3, 1) := by decide +kernel
theorem dX10_mean_11 : decode cX10_mean 11 = .ok (.invokestatic 63, 3) := by decide +kernel
theorem dX10_mean_14 : decode cX10_mean 14 = .ok (.ifCond .eq 12, 3) := by decide +kernel
theorem dX10_mean_17 : decode cX10_mean 17 = .ok (.iload_n 3, 1) := by decide +kernel
theorem dX10_mean_18 : decode cX10_mean 18 = .ok (.iconst 0, 1) := by decide +kernel
theorem dX10_mean_19 : decode cX10_mean 19 = .ok (.iconst 1, 1) := by decide +kernel
theorem dX10_mean_20 : decode cX10_mean 20 = .ok (.invokestatic 63, 3) := by decide +kernel
theorem dX10_mean_23 : decode cX10_mean 23 = .ok (.ifCond .ne 7, 3) := by decide +kernel
theorem dX10_mean_26 : decode cX10_mean 26 = .ok (.ldc2_w 182, 3) := by decide +kernel
theorem dX10_mean_29 : decode cX10_mean 29 = .ok (.lreturn, 1) := by decide +kernel
theorem dX10_mean_30 : decode cX10_mean 30 = .ok (.aload_n 0, 1) := by decide +kernel
theorem dX10_mean_31 : decode cX10_mean 31 = .ok (.aload_n 0, 1) := by decide +kernel
theorem dX10_mean_32 : decode cX10_mean 32 = .ok (.getfield 21, 3) := by decide +kernel
theorem dX10_mean_35 : decode cX10_mean 35 = .ok (.iload_n 1, 1) := by decide +kernel
theorem dX10_mean_36 : decode cX10_mean 36 = .ok (.iaload, 1) := by decide +kernel
theorem dX10_mean_37 : decode cX10_mean 37 = .ok (.iload_n 2, 1) := by decide +kernel
theorem dX10_mean_38 : decode cX10_mean 38 = .ok (.invokevirtual 172, 3) := by decide +kernel
theorem dX10_mean_41 : decode cX10_mean 41 = .ok (.iconst 0, 1) := by decide +kernel
theorem dX10_mean_42 : decode cX10_mean 42 = .ok (.istore 4, 2) := by decide +kernel
theorem dX10_mean_44 : decode cX10_mean 44 = .ok (.iconst 0, 1) := by decide +kernel
theorem dX10_mean_45 : decode cX10_mean 45 = .ok (.istore 5, 2) := by decide +kernel
theorem dX10_mean_47 : decode cX10_mean 47 = .ok (.iconst 0, 1) := by decide +kernel
theorem dX10_mean_48 : decode cX10_mean 48 = .ok (.istore 6, 2) := by decide +kernel
theorem dX10_mean_50 : decode cX10_mean 50 = .ok (.iload 6, 2) := by decide +kernel
theorem dX10_mean_52 : decode cX10_mean 52 = .ok (.bipush 16, 2) := by decide +kernel
theorem dX10_mean_54 : decode cX10_mean 54 = .ok (.if_icmp .ge 36, 3) := by decide +kernel
theorem dX10_mean_57 : decode cX10_mean 57 = .ok (.iload 4, 2) := by decide +kernel
theorem dX10_mean_59 : decode cX10_mean 59 = .ok (.aload_n 0, 1) := by decide +kernel
theorem dX10_mean_60 : decode cX10_mean 60 = .ok (.getfield 45, 3) := by decide +kernel
theorem dX10_mean_63 : decode cX10_mean 63 = .ok (.iload 6, 2) := by decide +kernel
theorem dX10_mean_65 : decode cX10_mean 65 = .ok (.iaload, 1) := by decide +kernel
theorem dX10_mean_66 : decode cX10_mean 66 = .ok (.iadd, 1) := by decide +kernel
theorem dX10_mean_67 : decode cX10_mean 67 = .ok (.istore 4, 2) := by decide +kernel
theorem dX10_mean_69 : decode cX10_mean 69 = .ok (.iload 5, 2) := by decide +kernel
theorem dX10_mean_71 : decode cX10_mean 71 = .ok (.iload 6, 2) := by decide +kernel
theorem dX10_mean_73 : decode cX10_mean 73 = .ok (.aload_n 0, 1) := by decide +kernel
theorem dX10_mean_74 : decode cX10_mean 74 = .ok (.getfield 45, 3) := by decide +kernel
theorem dX10_mean_77 : decode cX10_mean 77 = .ok (.iload 6, 2) := by decide +kernel
theorem dX10_mean_79 : decode cX10_mean 79 = .ok (.iaload, 1) := by decide +kernel
theorem dX10_mean_80 : decode cX10_mean 80 = .ok (.imul, 1) := by decide +kernel
theorem dX10_mean_81 : decode cX10_mean 81 = .ok (.iadd, 1) := by decide +kernel
theorem dX10_mean_82 : decode cX10_mean 82 = .ok (.istore 5, 2) := by decide +kernel
theorem dX10_mean_84 : decode cX10_mean 84 = .ok (.iinc 6 1, 3) := by decide +kernel
theorem dX10_mean_87 : decode cX10_mean 87 = .ok (.goto (-37), 3) := by decide +kernel
theorem dX10_mean_90 : decode cX10_mean 90 = .ok (.iload 4, 2) := by decide +kernel
theorem dX10_mean_92 : decode cX10_mean 92 = .ok (.ifCond .ne 9, 3) := by decide +kernel
theorem dX10_mean_95 : decode cX10_mean 95 = .ok (.ldc2_w 182, 3) := by decide +kernel
theorem dX10_mean_98 : decode cX10_mean 98 = .ok (.goto 11, 3) := by decide +kernel
theorem dX10_mean_101 : decode cX10_mean 101 = .ok (.iload 5, 2) := by decide +kernel
theorem dX10_mean_103 : decode cX10_mean 103 = .ok (.iload 4, 2) := by decide +kernel
theorem dX10_mean_105 : decode cX10_mean 105 = .ok (.iload_n 3, 1) := by decide +kernel
theorem dX10_mean_106 : decode cX10_mean 106 = .ok (.invokestatic 184, 3) := by decide +kernel
theorem dX10_mean_109 : decode cX10_mean 109 = .ok (.lreturn, 1) := by decide +kernel
theorem dX10_plan_0 : decode cX10_plan 0 = .ok (.iload_n 1, 1) := by decide +kernel
theorem dX10_plan_1 : decode cX10_plan 1 = .ok (.iconst (-1), 1) := by decide +kernel
theorem dX10_plan_2 : decode cX10_plan 2 = .ok (.if_icmp .ne 14, 3) := by decide +kernel
theorem dX10_plan_5 : decode cX10_plan 5 = .ok (.aload_n 0, 1) := by decide +kernel
theorem dX10_plan_6 : decode cX10_plan 6 = .ok (.getfield 11, 3) := by decide +kernel
theorem dX10_plan_9 : decode cX10_plan 9 = .ok (.sipush 505, 3) := by decide +kernel
theorem dX10_plan_12 : decode cX10_plan 12 = .ok (.iconst 0, 1) := by decide +kernel
theorem dX10_plan_13 : decode cX10_plan 13 = .ok (.iastore, 1) := by decide +kernel
theorem dX10_plan_14 : decode cX10_plan 14 = .ok (.iconst 0, 1) := by decide +kernel
theorem dX10_plan_15 : decode cX10_plan 15 = .ok (.ireturn, 1) := by decide +kernel
theorem dX10_plan_16 : decode cX10_plan 16 = .ok (.iload_n 1, 1) := by decide +kernel
theorem dX10_plan_17 : decode cX10_plan 17 = .ok (.iconst 0, 1) := by decide +kernel
theorem dX10_plan_18 : decode cX10_plan 18 = .ok (.iconst 2, 1) := by decide +kernel
theorem dX10_plan_19 : decode cX10_plan 19 = .ok (.invokestatic 63, 3) := by decide +kernel
theorem dX10_plan_22 : decode cX10_plan 22 = .ok (.ifCond .eq 39, 3) := by decide +kernel
theorem dX10_plan_25 : decode cX10_plan 25 = .ok (.iload_n 1, 1) := by decide +kernel
theorem dX10_plan_26 : decode cX10_plan 26 = .ok (.iconst 1, 1) := by decide +kernel
theorem dX10_plan_27 : decode cX10_plan 27 = .ok (.if_icmp .ne 11, 3) := by decide +kernel
theorem dX10_plan_30 : decode cX10_plan 30 = .ok (.aload_n 0, 1) := by decide +kernel
theorem dX10_plan_31 : decode cX10_plan 31 = .ok (.iload_n 2, 1) := by decide +kernel
theorem dX10_plan_32 : decode cX10_plan 32 = .ok (.invokevirtual 71, 3) := by decide +kernel
theorem dX10_plan_35 : decode cX10_plan 35 = .ok (.ifCond .eq 26, 3) := by decide +kernel
theorem dX10_plan_38 : decode cX10_plan 38 = .ok (.iload_n 1, 1) := by decide +kernel
theorem dX10_plan_39 : decode cX10_plan 39 = .ok (.iconst 2, 1) := by decide +kernel
theorem dX10_plan_40 : decode cX10_plan 40 = .ok (.if_icmp .ne 23, 3) := by decide +kernel
theorem dX10_plan_43 : decode cX10_plan 43 = .ok (.iload_n 2, 1) := by decide +kernel
theorem dX10_plan_44 : decode cX10_plan 44 = .ok (.iconst 0, 1) := by decide +kernel
theorem dX10_plan_45 : decode cX10_plan 45 = .ok (.aload_n 0, 1) := by decide +kernel
theorem dX10_plan_46 : decode cX10_plan 46 = .ok (.getfield 11, 3) := by decide +kernel
theorem dX10_plan_49 : decode cX10_plan 49 = .ok (.sipush 481, 3) := by decide +kernel
theorem dX10_plan_52 : decode cX10_plan 52 = .ok (.iaload, 1) := by decide +kernel
theorem dX10_plan_53 : decode cX10_plan 53 = .ok (.iconst 1, 1) := by decide +kernel
theorem dX10_plan_54 : decode cX10_plan 54 = .ok (.isub, 1) := by decide +kernel
theorem dX10_plan_55 : decode cX10_plan 55 = .ok (.invokestatic 63, 3) := by decide +kernel
theorem dX10_plan_58 : decode cX10_plan 58 = .ok (.ifCond .ne 5, 3) := by decide +kernel
theorem dX10_plan_61 : decode cX10_plan 61 = .ok (.iconst (-1), 1) := by decide +kernel
theorem dX10_plan_62 : decode cX10_plan 62 = .ok (.ireturn, 1) := by decide +kernel
theorem dX10_plan_63 : decode cX10_plan 63 = .ok (.aload_n 0, 1) := by decide +kernel
theorem dX10_plan_64 : decode cX10_plan 64 = .ok (.getfield 11, 3) := by decide +kernel
theorem dX10_plan_67 : decode cX10_plan 67 = .ok (.sipush 505, 3) := by decide +kernel
theorem dX10_plan_70 : decode cX10_plan 70 = .ok (.iaload, 1) := by decide +kernel
theorem dX10_plan_71 : decode cX10_plan 71 = .ok (.bipush 10, 2) := by decide +kernel
theorem dX10_plan_73 : decode cX10_plan 73 = .ok (.if_icmp .ne 6, 3) := by decide +kernel
theorem dX10_plan_76 : decode cX10_plan 76 = .ok (.bipush (-4), 2) := by decide +kernel
theorem dX10_plan_78 : decode cX10_plan 78 = .ok (.ireturn, 1) := by decide +kernel
theorem dX10_plan_79 : decode cX10_plan 79 = .ok (.aload_n 0, 1) := by decide +kernel
theorem dX10_plan_80 : decode cX10_plan 80 = .ok (.getfield 11, 3) := by decide +kernel
theorem dX10_plan_83 : decode cX10_plan 83 = .ok (.sipush 506, 3) := by decide +kernel
theorem dX10_plan_86 : decode cX10_plan 86 = .ok (.iconst 2, 1) := by decide +kernel
theorem dX10_plan_87 : decode cX10_plan 87 = .ok (.aload_n 0, 1) := by decide +kernel
theorem dX10_plan_88 : decode cX10_plan 88 = .ok (.getfield 11, 3) := by decide +kernel
theorem dX10_plan_91 : decode cX10_plan 91 = .ok (.sipush 505, 3) := by decide +kernel
theorem dX10_plan_94 : decode cX10_plan 94 = .ok (.iaload, 1) := by decide +kernel
theorem dX10_plan_95 : decode cX10_plan 95 = .ok (.imul, 1) := by decide +kernel
theorem dX10_plan_96 : decode cX10_plan 96 = .ok (.iadd, 1) := by decide +kernel
theorem dX10_plan_97 : decode cX10_plan 97 = .ok (.iload_n 1, 1) := by decide +kernel
theorem dX10_plan_98 : decode cX10_plan 98 = .ok (.iastore, 1) := by decide +kernel
theorem dX10_plan_99 : decode cX10_plan 99 = .ok (.aload_n 0, 1) := by decide +kernel
theorem dX10_plan_100 : decode cX10_plan 100 = .ok (.getfield 11, 3) := by decide +kernel
theorem dX10_plan_103 : decode cX10_plan 103 = .ok (.sipush 506, 3) := by decide +kernel
theorem dX10_plan_106 : decode cX10_plan 106 = .ok (.iconst 2, 1) := by decide +kernel
theorem dX10_plan_107 : decode cX10_plan 107 = .ok (.aload_n 0, 1) := by decide +kernel
theorem dX10_plan_108 : decode cX10_plan 108 = .ok (.getfield 11, 3) := by decide +kernel
theorem dX10_plan_111 : decode cX10_plan 111 = .ok (.sipush 505, 3) := by decide +kernel
theorem dX10_plan_114 : decode cX10_plan 114 = .ok (.iaload, 1) := by decide +kernel
theorem dX10_plan_115 : decode cX10_plan 115 = .ok (.imul, 1) := by decide +kernel
theorem dX10_plan_116 : decode cX10_plan 116 = .ok (.iadd, 1) := by decide +kernel
theorem dX10_plan_117 : decode cX10_plan 117 = .ok (.iconst 1, 1) := by decide +kernel
theorem dX10_plan_118 : decode cX10_plan 118 = .ok (.iadd, 1) := by decide +kernel
theorem dX10_plan_119 : decode cX10_plan 119 = .ok (.iload_n 2, 1) := by decide +kernel
theorem dX10_plan_120 : decode cX10_plan 120 = .ok (.iastore, 1) := by decide +kernel
theorem dX10_plan_121 : decode cX10_plan 121 = .ok (.aload_n 0, 1) := by decide +kernel
theorem dX10_plan_122 : decode cX10_plan 122 = .ok (.getfield 11, 3) := by decide +kernel
theorem dX10_plan_125 : decode cX10_plan 125 = .ok (.sipush 505, 3) := by decide +kernel
theorem dX10_plan_128 : decode cX10_plan 128 = .ok (.dup2, 1) := by decide +kernel
theorem dX10_plan_129 : decode cX10_plan 129 = .ok (.iaload, 1) := by decide +kernel
theorem dX10_plan_130 : decode cX10_plan 130 = .ok (.iconst 1, 1) := by decide +kernel
theorem dX10_plan_131 : decode cX10_plan 131 = .ok (.iadd, 1) := by decide +kernel
theorem dX10_plan_132 : decode cX10_plan 132 = .ok (.iastore, 1) := by decide +kernel
theorem dX10_plan_133 : decode cX10_plan 133 = .ok (.aload_n 0, 1) := by decide +kernel
theorem dX10_plan_134 : decode cX10_plan 134 = .ok (.getfield 11, 3) := by decide +kernel
theorem dX10_plan_137 : decode cX10_plan 137 = .ok (.sipush 505, 3) := by decide +kernel
theorem dX10_plan_140 : decode cX10_plan 140 = .ok (.iaload, 1) := by decide +kernel
theorem dX10_plan_141 : decode cX10_plan 141 = .ok (.ireturn, 1) := by decide +kernel
theorem dX10_does_0 : decode cX10_does 0 = .ok (.iload_n 1, 1) := by decide +kernel
theorem dX10_does_1 : decode cX10_does 1 = .ok (.ifCond .ne 33, 3) := by decide +kernel
theorem dX10_does_4 : decode cX10_does 4 = .ok (.aload_n 0, 1) := by decide +kernel
theorem dX10_does_5 : decode cX10_does 5 = .ok (.getfield 11, 3) := by decide +kernel
theorem dX10_does_8 : decode cX10_does 8 = .ok (.sipush 480, 3) := by decide +kernel
theorem dX10_does_11 : decode cX10_does 11 = .ok (.dup2, 1) := by decide +kernel
theorem dX10_does_12 : decode cX10_does 12 = .ok (.iaload, 1) := by decide +kernel
theorem dX10_does_13 : decode cX10_does 13 = .ok (.aload_n 0, 1) := by decide +kernel
theorem dX10_does_14 : decode cX10_does 14 = .ok (.getfield 11, 3) := by decide +kernel
theorem dX10_does_17 : decode cX10_does 17 = .ok (.sipush 480, 3) := by decide +kernel
theorem dX10_does_20 : decode cX10_does 20 = .ok (.iaload, 1) := by decide +kernel
theorem dX10_does_21 : decode cX10_does 21 = .ok (.ifCond .le 7, 3) := by decide +kernel
theorem dX10_does_24 : decode cX10_does 24 = .ok (.iconst 1, 1) := by decide +kernel
theorem dX10_does_25 : decode cX10_does 25 = .ok (.goto 4, 3) := by decide +kernel
theorem dX10_does_28 : decode cX10_does 28 = .ok (.iconst 0, 1) := by decide +kernel
theorem dX10_does_29 : decode cX10_does 29 = .ok (.isub, 1) := by decide +kernel
theorem dX10_does_30 : decode cX10_does 30 = .ok (.iastore, 1) := by decide +kernel
theorem dX10_does_31 : decode cX10_does 31 = .ok (.goto 132, 3) := by decide +kernel
theorem dX10_does_34 : decode cX10_does 34 = .ok (.iload_n 1, 1) := by decide +kernel
theorem dX10_does_35 : decode cX10_does 35 = .ok (.iconst 1, 1) := by decide +kernel
theorem dX10_does_36 : decode cX10_does 36 = .ok (.if_icmp .ne 70, 3) := by decide +kernel
theorem dX10_does_39 : decode cX10_does 39 = .ok (.aload_n 0, 1) := by decide +kernel
theorem dX10_does_40 : decode cX10_does 40 = .ok (.iload_n 2, 1) := by decide +kernel
theorem dX10_does_41 : decode cX10_does 41 = .ok (.invokevirtual 71, 3) := by decide +kernel
theorem dX10_does_44 : decode cX10_does 44 = .ok (.ifCond .eq 119, 3) := by decide +kernel
theorem dX10_does_47 : decode cX10_does 47 = .ok (.aload_n 0, 1) := by decide +kernel
theorem dX10_does_48 : decode cX10_does 48 = .ok (.getfield 11, 3) := by decide +kernel
theorem dX10_does_51 : decode cX10_does 51 = .ok (.sipush 480, 3) := by decide +kernel
theorem dX10_does_54 : decode cX10_does 54 = .ok (.iaload, 1) := by decide +kernel
theorem dX10_does_55 : decode cX10_does 55 = .ok (.bipush 120, 2) := by decide +kernel
theorem dX10_does_57 : decode cX10_does 57 = .ok (.if_icmp .ge 106, 3) := by decide +kernel
theorem dX10_does_60 : decode cX10_does 60 = .ok (.aload_n 0, 1) := by decide +kernel
theorem dX10_does_61 : decode cX10_does 61 = .ok (.aload_n 0, 1) := by decide +kernel
theorem dX10_does_62 : decode cX10_does 62 = .ok (.getfield 11, 3) := by decide +kernel
theorem dX10_does_65 : decode cX10_does 65 = .ok (.iconst 4, 1) := by decide +kernel
theorem dX10_does_66 : decode cX10_does 66 = .ok (.iload_n 2, 1) := by decide +kernel
theorem dX10_does_67 : decode cX10_does 67 = .ok (.imul, 1) := by decide +kernel
theorem dX10_does_68 : decode cX10_does 68 = .ok (.iaload, 1) := by decide +kernel
theorem dX10_does_69 : decode cX10_does 69 = .ok (.aload_n 0, 1) := by decide +kernel
theorem dX10_does_70 : decode cX10_does 70 = .ok (.getfield 11, 3) := by decide +kernel
theorem dX10_does_73 : decode cX10_does 73 = .ok (.iconst 4, 1) := by decide +kernel
theorem dX10_does_74 : decode cX10_does 74 = .ok (.iload_n 2, 1) := by decide +kernel
theorem dX10_does_75 : decode cX10_does 75 = .ok (.imul, 1) := by decide +kernel
theorem dX10_does_76 : decode cX10_does 76 = .ok (.iconst 1, 1) := by decide +kernel
theorem dX10_does_77 : decode cX10_does 77 = .ok (.iadd, 1) := by decide +kernel
theorem dX10_does_78 : decode cX10_does 78 = .ok (.iaload, 1) := by decide +kernel
theorem dX10_does_79 : decode cX10_does 79 = .ok (.aload_n 0, 1) := by decide +kernel
theorem dX10_does_80 : decode cX10_does 80 = .ok (.getfield 11, 3) := by decide +kernel
theorem dX10_does_83 : decode cX10_does 83 = .ok (.iconst 4, 1) := by decide +kernel
theorem dX10_does_84 : decode cX10_does 84 = .ok (.iload_n 2, 1) := by decide +kernel
theorem dX10_does_85 : decode cX10_does 85 = .ok (.imul, 1) := by decide +kernel
theorem dX10_does_86 : decode cX10_does 86 = .ok (.iconst 2, 1) := by decide +kernel
theorem dX10_does_87 : decode cX10_does 87 = .ok (.iadd, 1) := by decide +kernel
theorem dX10_does_88 : decode cX10_does 88 = .ok (.iaload, 1) := by decide +kernel
theorem dX10_does_89 : decode cX10_does 89 = .ok (.aload_n 0, 1) := by decide +kernel
theorem dX10_does_90 : decode cX10_does 90 = .ok (.getfield 11, 3) := by decide +kernel
theorem dX10_does_93 : decode cX10_does 93 = .ok (.iconst 4, 1) := by decide +kernel
theorem dX10_does_94 : decode cX10_does 94 = .ok (.iload_n 2, 1) := by decide +kernel
theorem dX10_does_95 : decode cX10_does 95 = .ok (.imul, 1) := by decide +kernel
theorem dX10_does_96 : decode cX10_does 96 = .ok (.iconst 3, 1) := by decide +kernel
theorem dX10_does_97 : decode cX10_does 97 = .ok (.iadd, 1) := by decide +kernel
theorem dX10_does_98 : decode cX10_does 98 = .ok (.iaload, 1) := by decide +kernel
theorem dX10_does_99 : decode cX10_does 99 = .ok (.invokevirtual 67, 3) := by decide +kernel
theorem dX10_does_102 : decode cX10_does 102 = .ok (.pop, 1) := by decide +kernel
theorem dX10_does_103 : decode cX10_does 103 = .ok (.goto 60, 3) := by decide +kernel
theorem dX10_does_106 : decode cX10_does 106 = .ok (.iload_n 2, 1) := by decide +kernel
theorem dX10_does_107 : decode cX10_does 107 = .ok (.iconst 0, 1) := by decide +kernel
theorem dX10_does_108 : decode cX10_does 108 = .ok (.aload_n 0, 1) := by decide +kernel
theorem dX10_does_109 : decode cX10_does 109 = .ok (.getfield 11, 3) := by decide +kernel
theorem dX10_does_112 : decode cX10_does 112 = .ok (.sipush 481, 3) := by decide +kernel
theorem dX10_does_115 : decode cX10_does 115 = .ok (.iaload, 1) := by decide +kernel
theorem dX10_does_116 : decode cX10_does 116 = .ok (.iconst 1, 1) := by decide +kernel
theorem dX10_does_117 : decode cX10_does 117 = .ok (.isub, 1) := by decide +kernel
theorem dX10_does_118 : decode cX10_does 118 = .ok (.invokestatic 63, 3) := by decide +kernel
theorem dX10_does_121 : decode cX10_does 121 = .ok (.ifCond .eq 42, 3) := by decide +kernel
theorem dX10_does_124 : decode cX10_does 124 = .ok (.aload_n 0, 1) := by decide +kernel
theorem dX10_does_125 : decode cX10_does 125 = .ok (.getfield 11, 3) := by decide +kernel
theorem dX10_does_128 : decode cX10_does 128 = .ok (.sipush 482, 3) := by decide +kernel
theorem dX10_does_131 : decode cX10_does 131 = .ok (.iload_n 2, 1) := by decide +kernel
theorem dX10_does_132 : decode cX10_does 132 = .ok (.iadd, 1) := by decide +kernel
theorem dX10_does_133 : decode cX10_does 133 = .ok (.iaload, 1) := by decide +kernel
theorem dX10_does_134 : decode cX10_does 134 = .ok (.aload_n 0, 1) := by decide +kernel
theorem dX10_does_135 : decode cX10_does 135 = .ok (.getfield 11, 3) := by decide +kernel
theorem dX10_does_138 : decode cX10_does 138 = .ok (.sipush 480, 3) := by decide +kernel
theorem dX10_does_141 : decode cX10_does 141 = .ok (.iaload, 1) := by decide +kernel
theorem dX10_does_142 : decode cX10_does 142 = .ok (.if_icmp .ge 21, 3) := by decide +kernel
theorem dX10_does_145 : decode cX10_does 145 = .ok (.aload_n 0, 1) := by decide +kernel
theorem dX10_does_146 : decode cX10_does 146 = .ok (.getfield 11, 3) := by decide +kernel
theorem dX10_does_149 : decode cX10_does 149 = .ok (.sipush 480, 3) := by decide +kernel
theorem dX10_does_152 : decode cX10_does 152 = .ok (.aload_n 0, 1) := by decide +kernel
theorem dX10_does_153 : decode cX10_does 153 = .ok (.getfield 11, 3) := by decide +kernel
theorem dX10_does_156 : decode cX10_does 156 = .ok (.sipush 482, 3) := by decide +kernel
theorem dX10_does_159 : decode cX10_does 159 = .ok (.iload_n 2, 1) := by decide +kernel
theorem dX10_does_160 : decode cX10_does 160 = .ok (.iadd, 1) := by decide +kernel
theorem dX10_does_161 : decode cX10_does 161 = .ok (.iaload, 1) := by decide +kernel
theorem dX10_does_162 : decode cX10_does 162 = .ok (.iastore, 1) := by decide +kernel
theorem dX10_does_163 : decode cX10_does 163 = .ok (.return_, 1) := by decide +kernel
theorem dX10_ends_0 : decode cX10_ends 0 = .ok (.aload_n 0, 1) := by decide +kernel
theorem dX10_ends_1 : decode cX10_ends 1 = .ok (.iload_n 1, 1) := by decide +kernel
theorem dX10_ends_2 : decode cX10_ends 2 = .ok (.invokevirtual 163, 3) := by decide +kernel
theorem dX10_ends_5 : decode cX10_ends 5 = .ok (.ifCond .eq 12, 3) := by decide +kernel
theorem dX10_ends_8 : decode cX10_ends 8 = .ok (.iload_n 2, 1) := by decide +kernel
theorem dX10_ends_9 : decode cX10_ends 9 = .ok (.iconst 0, 1) := by decide +kernel
theorem dX10_ends_10 : decode cX10_ends 10 = .ok (.iconst 1, 1) := by decide +kernel
theorem dX10_ends_11 : decode cX10_ends 11 = .ok (.invokestatic 63, 3) := by decide +kernel
theorem dX10_ends_14 : decode cX10_ends 14 = .ok (.ifCond .ne 5, 3) := by decide +kernel
theorem dX10_ends_17 : decode cX10_ends 17 = .ok (.iconst (-1), 1) := by decide +kernel
theorem dX10_ends_18 : decode cX10_ends 18 = .ok (.ireturn, 1) := by decide +kernel
theorem dX10_ends_19 : decode cX10_ends 19 = .ok (.aload_n 0, 1) := by decide +kernel
theorem dX10_ends_20 : decode cX10_ends 20 = .ok (.getfield 11, 3) := by decide +kernel
theorem dX10_ends_23 : decode cX10_ends 23 = .ok (.aload_n 0, 1) := by decide +kernel
theorem dX10_ends_24 : decode cX10_ends 24 = .ok (.getfield 15, 3) := by decide +kernel
theorem dX10_ends_27 : decode cX10_ends 27 = .ok (.invokestatic 188, 3) := by decide +kernel
theorem dX10_ends_30 : decode cX10_ends 30 = .ok (.iconst 0, 1) := by decide +kernel
theorem dX10_ends_31 : decode cX10_ends 31 = .ok (.istore_n 3, 1) := by decide +kernel
theorem dX10_ends_32 : decode cX10_ends 32 = .ok (.iload_n 3, 1) := by decide +kernel
theorem dX10_ends_33 : decode cX10_ends 33 = .ok (.aload_n 0, 1) := by decide +kernel
theorem dX10_ends_34 : decode cX10_ends 34 = .ok (.getfield 15, 3) := by decide +kernel
theorem dX10_ends_37 : decode cX10_ends 37 = .ok (.sipush 505, 3) := by decide +kernel
theorem dX10_ends_40 : decode cX10_ends 40 = .ok (.iaload, 1) := by decide +kernel
theorem dX10_ends_41 : decode cX10_ends 41 = .ok (.if_icmp .ge 39, 3) := by decide +kernel
theorem dX10_ends_44 : decode cX10_ends 44 = .ok (.aload_n 0, 1) := by decide +kernel
theorem dX10_ends_45 : decode cX10_ends 45 = .ok (.aload_n 0, 1) := by decide +kernel
theorem dX10_ends_46 : decode cX10_ends 46 = .ok (.getfield 15, 3) := by decide +kernel
theorem dX10_ends_49 : decode cX10_ends 49 = .ok (.sipush 506, 3) := by decide +kernel
theorem dX10_ends_52 : decode cX10_ends 52 = .ok (.iconst 2, 1) := by decide +kernel
theorem dX10_ends_53 : decode cX10_ends 53 = .ok (.iload_n 3, 1) := by decide +kernel
theorem dX10_ends_54 : decode cX10_ends 54 = .ok (.imul, 1) := by decide +kernel
theorem dX10_ends_55 : decode cX10_ends 55 = .ok (.iadd, 1) := by decide +kernel
theorem dX10_ends_56 : decode cX10_ends 56 = .ok (.iaload, 1) := by decide +kernel
theorem dX10_ends_57 : decode cX10_ends 57 = .ok (.aload_n 0, 1) := by decide +kernel
theorem dX10_ends_58 : decode cX10_ends 58 = .ok (.getfield 15, 3) := by decide +kernel
theorem dX10_ends_61 : decode cX10_ends 61 = .ok (.sipush 506, 3) := by decide +kernel
theorem dX10_ends_64 : decode cX10_ends 64 = .ok (.iconst 2, 1) := by decide +kernel
theorem dX10_ends_65 : decode cX10_ends 65 = .ok (.iload_n 3, 1) := by decide +kernel
theorem dX10_ends_66 : decode cX10_ends 66 = .ok (.imul, 1) := by decide +kernel
theorem dX10_ends_67 : decode cX10_ends 67 = .ok (.iadd, 1) := by decide +kernel
theorem dX10_ends_68 : decode cX10_ends 68 = .ok (.iconst 1, 1) := by decide +kernel
theorem dX10_ends_69 : decode cX10_ends 69 = .ok (.iadd, 1) := by decide +kernel
theorem dX10_ends_70 : decode cX10_ends 70 = .ok (.iaload, 1) := by decide +kernel
theorem dX10_ends_71 : decode cX10_ends 71 = .ok (.invokevirtual 192, 3) := by decide +kernel
theorem dX10_ends_74 : decode cX10_ends 74 = .ok (.iinc 3 1, 3) := by decide +kernel
theorem dX10_ends_77 : decode cX10_ends 77 = .ok (.goto (-45), 3) := by decide +kernel
theorem dX10_ends_80 : decode cX10_ends 80 = .ok (.iload_n 2, 1) := by decide +kernel
theorem dX10_ends_81 : decode cX10_ends 81 = .ok (.ifCond .ne 16, 3) := by decide +kernel
theorem dX10_ends_84 : decode cX10_ends 84 = .ok (.aload_n 0, 1) := by decide +kernel
theorem dX10_ends_85 : decode cX10_ends 85 = .ok (.aload_n 0, 1) := by decide +kernel
theorem dX10_ends_86 : decode cX10_ends 86 = .ok (.getfield 21, 3) := by decide +kernel
theorem dX10_ends_89 : decode cX10_ends 89 = .ok (.iload_n 1, 1) := by decide +kernel
theorem dX10_ends_90 : decode cX10_ends 90 = .ok (.iaload, 1) := by decide +kernel
theorem dX10_ends_91 : decode cX10_ends 91 = .ok (.invokevirtual 166, 3) := by decide +kernel
theorem dX10_ends_94 : decode cX10_ends 94 = .ok (.goto 13, 3) := by decide +kernel
theorem dX10_ends_97 : decode cX10_ends 97 = .ok (.aload_n 0, 1) := by decide +kernel
theorem dX10_ends_98 : decode cX10_ends 98 = .ok (.aload_n 0, 1) := by decide +kernel
theorem dX10_ends_99 : decode cX10_ends 99 = .ok (.getfield 21, 3) := by decide +kernel
theorem dX10_ends_102 : decode cX10_ends 102 = .ok (.iload_n 1, 1) := by decide +kernel
theorem dX10_ends_103 : decode cX10_ends 103 = .ok (.iaload, 1) := by decide +kernel
theorem dX10_ends_104 : decode cX10_ends 104 = .ok (.invokevirtual 153, 3) := by decide +kernel
theorem dX10_ends_107 : decode cX10_ends 107 = .ok (.istore_n 3, 1) := by decide +kernel
theorem dX10_ends_108 : decode cX10_ends 108 = .ok (.aload_n 0, 1) := by decide +kernel
theorem dX10_ends_109 : decode cX10_ends 109 = .ok (.getfield 15, 3) := by decide +kernel
theorem dX10_ends_112 : decode cX10_ends 112 = .ok (.aload_n 0, 1) := by decide +kernel
theorem dX10_ends_113 : decode cX10_ends 113 = .ok (.getfield 11, 3) := by decide +kernel
theorem dX10_ends_116 : decode cX10_ends 116 = .ok (.invokestatic 188, 3) := by decide +kernel
theorem dX10_ends_119 : decode cX10_ends 119 = .ok (.iload_n 3, 1) := by decide +kernel
theorem dX10_ends_120 : decode cX10_ends 120 = .ok (.ireturn, 1) := by decide +kernel
theorem dX10_book_0 : decode cX10_book 0 = .ok (.iload_n 1, 1) := by decide +kernel
theorem dX10_book_1 : decode cX10_book 1 = .ok (.iconst (-1), 1) := by decide +kernel
theorem dX10_book_2 : decode cX10_book 2 = .ok (.if_icmp .ne 14, 3) := by decide +kernel
theorem dX10_book_5 : decode cX10_book 5 = .ok (.aload_n 0, 1) := by decide +kernel
theorem dX10_book_6 : decode cX10_book 6 = .ok (.getfield 11, 3) := by decide +kernel
theorem dX10_book_9 : decode cX10_book 9 = .ok (.sipush 526, 3) := by decide +kernel
theorem dX10_book_12 : decode cX10_book 12 = .ok (.iconst 0, 1) := by decide +kernel
theorem dX10_book_13 : decode cX10_book 13 = .ok (.iastore, 1) := by decide +kernel
theorem dX10_book_14 : decode cX10_book 14 = .ok (.iconst 0, 1) := by decide +kernel
theorem dX10_book_15 : decode cX10_book 15 = .ok (.ireturn, 1) := by decide +kernel
theorem dX10_book_16 : decode cX10_book 16 = .ok (.aload_n 0, 1) := by decide +kernel
theorem dX10_book_17 : decode cX10_book 17 = .ok (.iload_n 1, 1) := by decide +kernel
theorem dX10_book_18 : decode cX10_book 18 = .ok (.invokevirtual 163, 3) := by decide +kernel
theorem dX10_book_21 : decode cX10_book 21 = .ok (.ifCond .ne 5, 3) := by decide +kernel
theorem dX10_book_24 : decode cX10_book 24 = .ok (.iconst (-1), 1) := by decide +kernel
theorem dX10_book_25 : decode cX10_book 25 = .ok (.ireturn, 1) := by decide +kernel
theorem dX10_book_26 : decode cX10_book 26 = .ok (.iload_n 2, 1) := by decide +kernel
theorem dX10_book_27 : decode cX10_book 27 = .ok (.iconst 0, 1) := by decide +kernel
theorem dX10_book_28 : decode cX10_book 28 = .ok (.bipush 120, 2) := by decide +kernel
theorem dX10_book_30 : decode cX10_book 30 = .ok (.invokestatic 63, 3) := by decide +kernel
theorem dX10_book_33 : decode cX10_book 33 = .ok (.ifCond .ne 6, 3) := by decide +kernel
theorem dX10_book_36 : decode cX10_book 36 = .ok (.bipush (-2), 2) := by decide +kernel
theorem dX10_book_38 : decode cX10_book 38 = .ok (.ireturn, 1) := by decide +kernel
theorem dX10_book_39 : decode cX10_book 39 = .ok (.aload_n 0, 1) := by decide +kernel
theorem dX10_book_40 : decode cX10_book 40 = .ok (.getfield 11, 3) := by decide +kernel
theorem dX10_book_43 : decode cX10_book 43 = .ok (.sipush 526, 3) := by decide +kernel
theorem dX10_book_46 : decode cX10_book 46 = .ok (.iaload, 1) := by decide +kernel
theorem dX10_book_47 : decode cX10_book 47 = .ok (.bipush 8, 2) := by decide +kernel
theorem dX10_book_49 : decode cX10_book 49 = .ok (.if_icmp .ne 6, 3) := by decide +kernel
theorem dX10_book_52 : decode cX10_book 52 = .ok (.bipush (-4), 2) := by decide +kernel
theorem dX10_book_54 : decode cX10_book 54 = .ok (.ireturn, 1) := by decide +kernel
theorem dX10_book_55 : decode cX10_book 55 = .ok (.aload_n 0, 1) := by decide +kernel
theorem dX10_book_56 : decode cX10_book 56 = .ok (.getfield 11, 3) := by decide +kernel
theorem dX10_book_59 : decode cX10_book 59 = .ok (.sipush 527, 3) := by decide +kernel
theorem dX10_book_62 : decode cX10_book 62 = .ok (.iconst 2, 1) := by decide +kernel
theorem dX10_book_63 : decode cX10_book 63 = .ok (.aload_n 0, 1) := by decide +kernel
theorem dX10_book_64 : decode cX10_book 64 = .ok (.getfield 11, 3) := by decide +kernel
theorem dX10_book_67 : decode cX10_book 67 = .ok (.sipush 526, 3) := by decide +kernel
theorem dX10_book_70 : decode cX10_book 70 = .ok (.iaload, 1) := by decide +kernel
theorem dX10_book_71 : decode cX10_book 71 = .ok (.imul, 1) := by decide +kernel
theorem dX10_book_72 : decode cX10_book 72 = .ok (.iadd, 1) := by decide +kernel
theorem dX10_book_73 : decode cX10_book 73 = .ok (.iload_n 1, 1) := by decide +kernel
theorem dX10_book_74 : decode cX10_book 74 = .ok (.iastore, 1) := by decide +kernel
theorem dX10_book_75 : decode cX10_book 75 = .ok (.aload_n 0, 1) := by decide +kernel
theorem dX10_book_76 : decode cX10_book 76 = .ok (.getfield 11, 3) := by decide +kernel
theorem dX10_book_79 : decode cX10_book 79 = .ok (.sipush 527, 3) := by decide +kernel
theorem dX10_book_82 : decode cX10_book 82 = .ok (.iconst 2, 1) := by decide +kernel
theorem dX10_book_83 : decode cX10_book 83 = .ok (.aload_n 0, 1) := by decide +kernel
theorem dX10_book_84 : decode cX10_book 84 = .ok (.getfield 11, 3) := by decide +kernel
theorem dX10_book_87 : decode cX10_book 87 = .ok (.sipush 526, 3) := by decide +kernel
theorem dX10_book_90 : decode cX10_book 90 = .ok (.iaload, 1) := by decide +kernel
theorem dX10_book_91 : decode cX10_book 91 = .ok (.imul, 1) := by decide +kernel
theorem dX10_book_92 : decode cX10_book 92 = .ok (.iadd, 1) := by decide +kernel
theorem dX10_book_93 : decode cX10_book 93 = .ok (.iconst 1, 1) := by decide +kernel
theorem dX10_book_94 : decode cX10_book 94 = .ok (.iadd, 1) := by decide +kernel
theorem dX10_book_95 : decode cX10_book 95 = .ok (.iload_n 2, 1) := by decide +kernel
theorem dX10_book_96 : decode cX10_book 96 = .ok (.iastore, 1) := by decide +kernel
theorem dX10_book_97 : decode cX10_book 97 = .ok (.aload_n 0, 1) := by decide +kernel
theorem dX10_book_98 : decode cX10_book 98 = .ok (.getfield 11, 3) := by decide +kernel
theorem dX10_book_101 : decode cX10_book 101 = .ok (.sipush 526, 3) := by decide +kernel
theorem dX10_book_104 : decode cX10_book 104 = .ok (.dup2, 1) := by decide +kernel
theorem dX10_book_105 : decode cX10_book 105 = .ok (.iaload, 1) := by decide +kernel
theorem dX10_book_106 : decode cX10_book 106 = .ok (.iconst 1, 1) := by decide +kernel
theorem dX10_book_107 : decode cX10_book 107 = .ok (.iadd, 1) := by decide +kernel
theorem dX10_book_108 : decode cX10_book 108 = .ok (.iastore, 1) := by decide +kernel
theorem dX10_book_109 : decode cX10_book 109 = .ok (.aload_n 0, 1) := by decide +kernel
theorem dX10_book_110 : decode cX10_book 110 = .ok (.getfield 11, 3) := by decide +kernel
theorem dX10_book_113 : decode cX10_book 113 = .ok (.sipush 526, 3) := by decide +kernel
theorem dX10_book_116 : decode cX10_book 116 = .ok (.iaload, 1) := by decide +kernel
theorem dX10_book_117 : decode cX10_book 117 = .ok (.ireturn, 1) := by decide +kernel
theorem dX10_looked_0 : decode cX10_looked 0 = .ok (.iconst 0, 1) := by decide +kernel
theorem dX10_looked_1 : decode cX10_looked 1 = .ok (.istore_n 1, 1) := by decide +kernel
theorem dX10_looked_2 : decode cX10_looked 2 = .ok (.iload_n 1, 1) := by decide +kernel
theorem dX10_looked_3 : decode cX10_looked 3 = .ok (.aload_n 0, 1) := by decide +kernel
theorem dX10_looked_4 : decode cX10_looked 4 = .ok (.getfield 11, 3) := by decide +kernel
theorem dX10_looked_7 : decode cX10_looked 7 = .ok (.sipush 526, 3) := by decide +kernel
theorem dX10_looked_10 : decode cX10_looked 10 = .ok (.iaload, 1) := by decide +kernel
theorem dX10_looked_11 : decode cX10_looked 11 = .ok (.if_icmp .ge 49, 3) := by decide +kernel
theorem dX10_looked_14 : decode cX10_looked 14 = .ok (.aload_n 0, 1) := by decide +kernel
theorem dX10_looked_15 : decode cX10_looked 15 = .ok (.aload_n 0, 1) := by decide +kernel
theorem dX10_looked_16 : decode cX10_looked 16 = .ok (.getfield 21, 3) := by decide +kernel
theorem dX10_looked_19 : decode cX10_looked 19 = .ok (.aload_n 0, 1) := by decide +kernel
theorem dX10_looked_20 : decode cX10_looked 20 = .ok (.getfield 11, 3) := by decide +kernel
theorem dX10_looked_23 : decode cX10_looked 23 = .ok (.sipush 527, 3) := by decide +kernel
theorem dX10_looked_26 : decode cX10_looked 26 = .ok (.iconst 2, 1) := by decide +kernel
theorem dX10_looked_27 : decode cX10_looked 27 = .ok (.iload_n 1, 1) := by decide +kernel
theorem dX10_looked_28 : decode cX10_looked 28 = .ok (.imul, 1) := by decide +kernel
theorem dX10_looked_29 : decode cX10_looked 29 = .ok (.iadd, 1) := by decide +kernel
theorem dX10_looked_30 : decode cX10_looked 30 = .ok (.iaload, 1) := by decide +kernel
theorem dX10_looked_31 : decode cX10_looked 31 = .ok (.iaload, 1) := by decide +kernel
theorem dX10_looked_32 : decode cX10_looked 32 = .ok (.invokevirtual 166, 3) := by decide +kernel
theorem dX10_looked_35 : decode cX10_looked 35 = .ok (.aload_n 0, 1) := by decide +kernel
theorem dX10_looked_36 : decode cX10_looked 36 = .ok (.getfield 11, 3) := by decide +kernel
theorem dX10_looked_39 : decode cX10_looked 39 = .ok (.sipush 527, 3) := by decide +kernel
theorem dX10_looked_42 : decode cX10_looked 42 = .ok (.iconst 2, 1) := by decide +kernel
theorem dX10_looked_43 : decode cX10_looked 43 = .ok (.iload_n 1, 1) := by decide +kernel
theorem dX10_looked_44 : decode cX10_looked 44 = .ok (.imul, 1) := by decide +kernel
theorem dX10_looked_45 : decode cX10_looked 45 = .ok (.iadd, 1) := by decide +kernel
theorem dX10_looked_46 : decode cX10_looked 46 = .ok (.iconst 1, 1) := by decide +kernel
theorem dX10_looked_47 : decode cX10_looked 47 = .ok (.iadd, 1) := by decide +kernel
theorem dX10_looked_48 : decode cX10_looked 48 = .ok (.iaload, 1) := by decide +kernel
theorem dX10_looked_49 : decode cX10_looked 49 = .ok (.if_icmp .eq 5, 3) := by decide +kernel
theorem dX10_looked_52 : decode cX10_looked 52 = .ok (.iload_n 1, 1) := by decide +kernel
theorem dX10_looked_53 : decode cX10_looked 53 = .ok (.ireturn, 1) := by decide +kernel
theorem dX10_looked_54 : decode cX10_looked 54 = .ok (.iinc 1 1, 3) := by decide +kernel
theorem dX10_looked_57 : decode cX10_looked 57 = .ok (.goto (-55), 3) := by decide +kernel
theorem dX10_looked_60 : decode cX10_looked 60 = .ok (.bipush (-5), 2) := by decide +kernel
theorem dX10_looked_62 : decode cX10_looked 62 = .ok (.ireturn, 1) := by decide +kernel
theorem dX10_isTape_0 : decode cX10_isTape 0 = .ok (.iload_n 0, 1) := by decide +kernel
theorem dX10_isTape_1 : decode cX10_isTape 1 = .ok (.iconst 0, 1) := by decide +kernel
theorem dX10_isTape_2 : decode cX10_isTape 2 = .ok (.iconst 5, 1) := by decide +kernel
theorem dX10_isTape_3 : decode cX10_isTape 3 = .ok (.invokestatic 63, 3) := by decide +kernel
theorem dX10_isTape_6 : decode cX10_isTape 6 = .ok (.ireturn, 1) := by decide +kernel
theorem dX10_judge_0 : decode cX10_judge 0 = .ok (.aload_n 0, 1) := by decide +kernel
theorem dX10_judge_1 : decode cX10_judge 1 = .ok (.iload_n 1, 1) := by decide +kernel
theorem dX10_judge_2 : decode cX10_judge 2 = .ok (.invokevirtual 163, 3) := by decide +kernel
theorem dX10_judge_5 : decode cX10_judge 5 = .ok (.ifCond .eq 10, 3) := by decide +kernel
theorem dX10_judge_8 : decode cX10_judge 8 = .ok (.iload_n 2, 1) := by decide +kernel
theorem dX10_judge_9 : decode cX10_judge 9 = .ok (.invokestatic 195, 3) := by decide +kernel
theorem dX10_judge_12 : decode cX10_judge 12 = .ok (.ifCond .ne 5, 3) := by decide +kernel
theorem dX10_judge_15 : decode cX10_judge 15 = .ok (.iconst (-1), 1) := by decide +kernel
theorem dX10_judge_16 : decode cX10_judge 16 = .ok (.ireturn, 1) := by decide +kernel
theorem dX10_judge_17 : decode cX10_judge 17 = .ok (.aload_n 0, 1) := by decide +kernel
theorem dX10_judge_18 : decode cX10_judge 18 = .ok (.getfield 48, 3) := by decide +kernel
theorem dX10_judge_21 : decode cX10_judge 21 = .ok (.iload_n 2, 1) := by decide +kernel
theorem dX10_judge_22 : decode cX10_judge 22 = .ok (.iaload, 1) := by decide +kernel
theorem dX10_judge_23 : decode cX10_judge 23 = .ok (.ifCond .lt 16, 3) := by decide +kernel
theorem dX10_judge_26 : decode cX10_judge 26 = .ok (.aload_n 0, 1) := by decide +kernel
theorem dX10_judge_27 : decode cX10_judge 27 = .ok (.getfield 48, 3) := by decide +kernel
theorem dX10_judge_30 : decode cX10_judge 30 = .ok (.iload_n 2, 1) := by decide +kernel
theorem dX10_judge_31 : decode cX10_judge 31 = .ok (.iaload, 1) := by decide +kernel
theorem dX10_judge_32 : decode cX10_judge 32 = .ok (.iconst 4, 1) := by decide +kernel
theorem dX10_judge_33 : decode cX10_judge 33 = .ok (.if_icmp .eq 6, 3) := by decide +kernel
theorem dX10_judge_36 : decode cX10_judge 36 = .ok (.bipush (-12), 2) := by decide +kernel
theorem dX10_judge_38 : decode cX10_judge 38 = .ok (.ireturn, 1) := by decide +kernel
theorem dX10_judge_39 : decode cX10_judge 39 = .ok (.iconst 0, 1) := by decide +kernel
theorem dX10_judge_40 : decode cX10_judge 40 = .ok (.istore 4, 2) := by decide +kernel
theorem dX10_judge_42 : decode cX10_judge 42 = .ok (.iload 4, 2) := by decide +kernel
theorem dX10_judge_44 : decode cX10_judge 44 = .ok (.aload_n 0, 1) := by decide +kernel
theorem dX10_judge_45 : decode cX10_judge 45 = .ok (.getfield 11, 3) := by decide +kernel
theorem dX10_judge_48 : decode cX10_judge 48 = .ok (.sipush 480, 3) := by decide +kernel
theorem dX10_judge_51 : decode cX10_judge 51 = .ok (.iaload, 1) := by decide +kernel
theorem dX10_judge_52 : decode cX10_judge 52 = .ok (.if_icmp .ge 81, 3) := by decide +kernel
theorem dX10_judge_55 : decode cX10_judge 55 = .ok (.aload_n 0, 1) := by decide +kernel
theorem dX10_judge_56 : decode cX10_judge 56 = .ok (.getfield 48, 3) := by decide +kernel
theorem dX10_judge_59 : decode cX10_judge 59 = .ok (.iload_n 2, 1) := by decide +kernel
theorem dX10_judge_60 : decode cX10_judge 60 = .ok (.iaload, 1) := by decide +kernel
theorem dX10_judge_61 : decode cX10_judge 61 = .ok (.ifCond .lt 20, 3) := by decide +kernel
theorem dX10_judge_64 : decode cX10_judge 64 = .ok (.iload_n 3, 1) := by decide +kernel
theorem dX10_judge_65 : decode cX10_judge 65 = .ok (.ifCond .lt 16, 3) := by decide +kernel
theorem dX10_judge_68 : decode cX10_judge 68 = .ok (.iload_n 3, 1) := by decide +kernel
theorem dX10_judge_69 : decode cX10_judge 69 = .ok (.aload_n 0, 1) := by decide +kernel
theorem dX10_judge_70 : decode cX10_judge 70 = .ok (.getfield 51, 3) := by decide +kernel
theorem dX10_judge_73 : decode cX10_judge 73 = .ok (.iload_n 2, 1) := by decide +kernel
theorem dX10_judge_74 : decode cX10_judge 74 = .ok (.iaload, 1) := by decide +kernel
theorem dX10_judge_75 : decode cX10_judge 75 = .ok (.iload 4, 2) := by decide +kernel
theorem dX10_judge_77 : decode cX10_judge 77 = .ok (.isub, 1) := by decide +kernel
theorem dX10_judge_78 : decode cX10_judge 78 = .ok (.if_icmp .lt 10, 3) := by decide +kernel
theorem dX10_judge_81 : decode cX10_judge 81 = .ok (.sipush 1000, 3) := by decide +kernel
theorem dX10_judge_84 : decode cX10_judge 84 = .ok (.iload 4, 2) := by decide +kernel
theorem dX10_judge_86 : decode cX10_judge 86 = .ok (.iadd, 1) := by decide +kernel
theorem dX10_judge_87 : decode cX10_judge 87 = .ok (.ireturn, 1) := by decide +kernel
theorem dX10_judge_88 : decode cX10_judge 88 = .ok (.aload_n 0, 1) := by decide +kernel
theorem dX10_judge_89 : decode cX10_judge 89 = .ok (.getfield 56, 3) := by decide +kernel
theorem dX10_judge_92 : decode cX10_judge 92 = .ok (.iload_n 2, 1) := by decide +kernel
theorem dX10_judge_93 : decode cX10_judge 93 = .ok (.aaload, 1) := by decide +kernel
theorem dX10_judge_94 : decode cX10_judge 94 = .ok (.iload_n 3, 1) := by decide +kernel
theorem dX10_judge_95 : decode cX10_judge 95 = .ok (.iload 4, 2) := by decide +kernel
theorem dX10_judge_97 : decode cX10_judge 97 = .ok (.iadd, 1) := by decide +kernel
theorem dX10_judge_98 : decode cX10_judge 98 = .ok (.laload, 1) := by decide +kernel
theorem dX10_judge_99 : decode cX10_judge 99 = .ok (.lconst 1, 1) := by decide +kernel
theorem dX10_judge_100 : decode cX10_judge 100 = .ok (.lcmp, 1) := by decide +kernel
theorem dX10_judge_101 : decode cX10_judge 101 = .ok (.ifCond .ne 7, 3) := by decide +kernel
theorem dX10_judge_104 : decode cX10_judge 104 = .ok (.iconst 1, 1) := by decide +kernel
theorem dX10_judge_105 : decode cX10_judge 105 = .ok (.goto 4, 3) := by decide +kernel
theorem dX10_judge_108 : decode cX10_judge 108 = .ok (.iconst 0, 1) := by decide +kernel
theorem dX10_judge_109 : decode cX10_judge 109 = .ok (.aload_n 0, 1) := by decide +kernel
theorem dX10_judge_110 : decode cX10_judge 110 = .ok (.aload_n 0, 1) := by decide +kernel
theorem dX10_judge_111 : decode cX10_judge 111 = .ok (.getfield 21, 3) := by decide +kernel
theorem dX10_judge_114 : decode cX10_judge 114 = .ok (.iload_n 1, 1) := by decide +kernel
theorem dX10_judge_115 : decode cX10_judge 115 = .ok (.iaload, 1) := by decide +kernel
theorem dX10_judge_116 : decode cX10_judge 116 = .ok (.iload 4, 2) := by decide +kernel
theorem dX10_judge_118 : decode cX10_judge 118 = .ok (.invokevirtual 146, 3) := by decide +kernel
theorem dX10_judge_121 : decode cX10_judge 121 = .ok (.if_icmp .eq 6, 3) := by decide +kernel
theorem dX10_judge_124 : decode cX10_judge 124 = .ok (.iload 4, 2) := by decide +kernel
theorem dX10_judge_126 : decode cX10_judge 126 = .ok (.ireturn, 1) := by decide +kernel
theorem dX10_judge_127 : decode cX10_judge 127 = .ok (.iinc 4 1, 3) := by decide +kernel
theorem dX10_judge_130 : decode cX10_judge 130 = .ok (.goto (-88), 3) := by decide +kernel
theorem dX10_judge_133 : decode cX10_judge 133 = .ok (.bipush (-5), 2) := by decide +kernel
theorem dX10_judge_135 : decode cX10_judge 135 = .ok (.ireturn, 1) := by decide +kernel
theorem dX10_image_0 : decode cX10_image 0 = .ok (.aload_n 0, 1) := by decide +kernel
theorem dX10_image_1 : decode cX10_image 1 = .ok (.getfield 11, 3) := by decide +kernel
theorem dX10_image_4 : decode cX10_image 4 = .ok (.aload_n 0, 1) := by decide +kernel
theorem dX10_image_5 : decode cX10_image 5 = .ok (.getfield 18, 3) := by decide +kernel
theorem dX10_image_8 : decode cX10_image 8 = .ok (.invokestatic 188, 3) := by decide +kernel
theorem dX10_image_11 : decode cX10_image 11 = .ok (.aload_n 0, 1) := by decide +kernel
theorem dX10_image_12 : decode cX10_image 12 = .ok (.iconst 1, 1) := by decide +kernel
theorem dX10_image_13 : decode cX10_image 13 = .ok (.putfield 198, 3) := by decide +kernel
theorem dX10_image_16 : decode cX10_image 16 = .ok (.aload_n 0, 1) := by decide +kernel
theorem dX10_image_17 : decode cX10_image 17 = .ok (.getfield 11, 3) := by decide +kernel
theorem dX10_image_20 : decode cX10_image 20 = .ok (.sipush 480, 3) := by decide +kernel
theorem dX10_image_23 : decode cX10_image 23 = .ok (.iaload, 1) := by decide +kernel
theorem dX10_image_24 : decode cX10_image 24 = .ok (.ireturn, 1) := by decide +kernel
theorem dX10_undo_0 : decode cX10_undo 0 = .ok (.aload_n 0, 1) := by decide +kernel
theorem dX10_undo_1 : decode cX10_undo 1 = .ok (.getfield 198, 3) := by decide +kernel
theorem dX10_undo_4 : decode cX10_undo 4 = .ok (.ifCond .ne 6, 3) := by decide +kernel
theorem dX10_undo_7 : decode cX10_undo 7 = .ok (.bipush (-3), 2) := by decide +kernel
theorem dX10_undo_9 : decode cX10_undo 9 = .ok (.ireturn, 1) := by decide +kernel
theorem dX10_undo_10 : decode cX10_undo 10 = .ok (.aload_n 0, 1) := by decide +kernel
theorem dX10_undo_11 : decode cX10_undo 11 = .ok (.getfield 18, 3) := by decide +kernel
theorem dX10_undo_14 : decode cX10_undo 14 = .ok (.aload_n 0, 1) := by decide +kernel
theorem dX10_undo_15 : decode cX10_undo 15 = .ok (.getfield 11, 3) := by decide +kernel
theorem dX10_undo_18 : decode cX10_undo 18 = .ok (.invokestatic 188, 3) := by decide +kernel
theorem dX10_undo_21 : decode cX10_undo 21 = .ok (.aload_n 0, 1) := by decide +kernel
theorem dX10_undo_22 : decode cX10_undo 22 = .ok (.getfield 11, 3) := by decide +kernel
theorem dX10_undo_25 : decode cX10_undo 25 = .ok (.sipush 480, 3) := by decide +kernel
theorem dX10_undo_28 : decode cX10_undo 28 = .ok (.iaload, 1) := by decide +kernel
theorem dX10_undo_29 : decode cX10_undo 29 = .ok (.ireturn, 1) := by decide +kernel
theorem dX10_taken_0 : decode cX10_taken 0 = .ok (.iload_n 2, 1) := by decide +kernel
theorem dX10_taken_1 : decode cX10_taken 1 = .ok (.iconst 0, 1) := by decide +kernel
theorem dX10_taken_2 : decode cX10_taken 2 = .ok (.bipush 6, 2) := by decide +kernel
theorem dX10_taken_4 : decode cX10_taken 4 = .ok (.invokestatic 63, 3) := by decide +kernel
theorem dX10_taken_7 : decode cX10_taken 7 = .ok (.ifCond .ne 6, 3) := by decide +kernel
theorem dX10_taken_10 : decode cX10_taken 10 = .ok (.bipush (-2), 2) := by decide +kernel
theorem dX10_taken_12 : decode cX10_taken 12 = .ok (.ireturn, 1) := by decide +kernel
theorem dX10_taken_13 : decode cX10_taken 13 = .ok (.aload_n 0, 1) := by decide +kernel
theorem dX10_taken_14 : decode cX10_taken 14 = .ok (.iload_n 1, 1) := by decide +kernel
theorem dX10_taken_15 : decode cX10_taken 15 = .ok (.invokevirtual 163, 3) := by decide +kernel
theorem dX10_taken_18 : decode cX10_taken 18 = .ok (.ifCond .ne 6, 3) := by decide +kernel
theorem dX10_taken_21 : decode cX10_taken 21 = .ok (.bipush (-11), 2) := by decide +kernel
theorem dX10_taken_23 : decode cX10_taken 23 = .ok (.ireturn, 1) := by decide +kernel
theorem dX10_taken_24 : decode cX10_taken 24 = .ok (.aload_n 0, 1) := by decide +kernel
theorem dX10_taken_25 : decode cX10_taken 25 = .ok (.getfield 24, 3) := by decide +kernel
theorem dX10_taken_28 : decode cX10_taken 28 = .ok (.aload_n 0, 1) := by decide +kernel
theorem dX10_taken_29 : decode cX10_taken 29 = .ok (.getfield 21, 3) := by decide +kernel
theorem dX10_taken_32 : decode cX10_taken 32 = .ok (.iload_n 1, 1) := by decide +kernel
theorem dX10_taken_33 : decode cX10_taken 33 = .ok (.iaload, 1) := by decide +kernel
theorem dX10_taken_34 : decode cX10_taken 34 = .ok (.iaload, 1) := by decide +kernel
theorem dX10_taken_35 : decode cX10_taken 35 = .ok (.iload_n 2, 1) := by decide +kernel
theorem dX10_taken_36 : decode cX10_taken 36 = .ok (.if_icmp .ne 7, 3) := by decide +kernel
theorem dX10_taken_39 : decode cX10_taken 39 = .ok (.iload_n 2, 1) := by decide +kernel
theorem dX10_taken_40 : decode cX10_taken 40 = .ok (.goto 5, 3) := by decide +kernel
theorem dX10_taken_43 : decode cX10_taken 43 = .ok (.bipush (-12), 2) := by decide +kernel
theorem dX10_taken_45 : decode cX10_taken 45 = .ok (.ireturn, 1) := by decide +kernel
theorem dX10_count_0 : decode cX10_count 0 = .ok (.iload_n 1, 1) := by decide +kernel
theorem dX10_count_1 : decode cX10_count 1 = .ok (.tableswitch 98 0 6 #[43, 52, 61, 66, 75, 84, 93], 43) := by decide +kernel
theorem dX10_count_44 : decode cX10_count 44 = .ok (.aload_n 0, 1) := by decide +kernel
theorem dX10_count_45 : decode cX10_count 45 = .ok (.getfield 11, 3) := by decide +kernel
theorem dX10_count_48 : decode cX10_count 48 = .ok (.sipush 480, 3) := by decide +kernel
theorem dX10_count_51 : decode cX10_count 51 = .ok (.iaload, 1) := by decide +kernel
theorem dX10_count_52 : decode cX10_count 52 = .ok (.ireturn, 1) := by decide +kernel
theorem dX10_count_53 : decode cX10_count 53 = .ok (.aload_n 0, 1) := by decide +kernel
theorem dX10_count_54 : decode cX10_count 54 = .ok (.getfield 11, 3) := by decide +kernel
theorem dX10_count_57 : decode cX10_count 57 = .ok (.sipush 481, 3) := by decide +kernel
theorem dX10_count_60 : decode cX10_count 60 = .ok (.iaload, 1) := by decide +kernel
theorem dX10_count_61 : decode cX10_count 61 = .ok (.ireturn, 1) := by decide +kernel
theorem dX10_count_62 : decode cX10_count 62 = .ok (.aload_n 0, 1) := by decide +kernel
theorem dX10_count_63 : decode cX10_count 63 = .ok (.getfield 114, 3) := by decide +kernel
theorem dX10_count_66 : decode cX10_count 66 = .ok (.ireturn, 1) := by decide +kernel
theorem dX10_count_67 : decode cX10_count 67 = .ok (.aload_n 0, 1) := by decide +kernel
theorem dX10_count_68 : decode cX10_count 68 = .ok (.getfield 11, 3) := by decide +kernel
theorem dX10_count_71 : decode cX10_count 71 = .ok (.sipush 492, 3) := by decide +kernel
theorem dX10_count_74 : decode cX10_count 74 = .ok (.iaload, 1) := by decide +kernel
theorem dX10_count_75 : decode cX10_count 75 = .ok (.ireturn, 1) := by decide +kernel
theorem dX10_count_76 : decode cX10_count 76 = .ok (.aload_n 0, 1) := by decide +kernel
theorem dX10_count_77 : decode cX10_count 77 = .ok (.getfield 11, 3) := by decide +kernel
theorem dX10_count_80 : decode cX10_count 80 = .ok (.sipush 505, 3) := by decide +kernel
theorem dX10_count_83 : decode cX10_count 83 = .ok (.iaload, 1) := by decide +kernel
theorem dX10_count_84 : decode cX10_count 84 = .ok (.ireturn, 1) := by decide +kernel
theorem dX10_count_85 : decode cX10_count 85 = .ok (.aload_n 0, 1) := by decide +kernel
theorem dX10_count_86 : decode cX10_count 86 = .ok (.getfield 11, 3) := by decide +kernel
theorem dX10_count_89 : decode cX10_count 89 = .ok (.sipush 526, 3) := by decide +kernel
theorem dX10_count_92 : decode cX10_count 92 = .ok (.iaload, 1) := by decide +kernel
theorem dX10_count_93 : decode cX10_count 93 = .ok (.ireturn, 1) := by decide +kernel
theorem dX10_count_94 : decode cX10_count 94 = .ok (.aload_n 0, 1) := by decide +kernel
theorem dX10_count_95 : decode cX10_count 95 = .ok (.getfield 85, 3) := by decide +kernel
theorem dX10_count_98 : decode cX10_count 98 = .ok (.ireturn, 1) := by decide +kernel
theorem dX10_count_99 : decode cX10_count 99 = .ok (.bipush (-2), 2) := by decide +kernel
theorem dX10_count_101 : decode cX10_count 101 = .ok (.ireturn, 1) := by decide +kernel
theorem dX10_tape_0 : decode cX10_tape 0 = .ok (.iload_n 1, 1) := by decide +kernel
theorem dX10_tape_1 : decode cX10_tape 1 = .ok (.invokestatic 195, 3) := by decide +kernel
theorem dX10_tape_4 : decode cX10_tape 4 = .ok (.ifCond .ne 5, 3) := by decide +kernel
theorem dX10_tape_7 : decode cX10_tape 7 = .ok (.iconst (-1), 1) := by decide +kernel
theorem dX10_tape_8 : decode cX10_tape 8 = .ok (.ireturn, 1) := by decide +kernel
theorem dX10_tape_9 : decode cX10_tape 9 = .ok (.iload_n 2, 1) := by decide +kernel
theorem dX10_tape_10 : decode cX10_tape 10 = .ok (.iconst (-1), 1) := by decide +kernel
theorem dX10_tape_11 : decode cX10_tape 11 = .ok (.iconst 4, 1) := by decide +kernel
theorem dX10_tape_12 : decode cX10_tape 12 = .ok (.invokestatic 63, 3) := by decide +kernel
theorem dX10_tape_15 : decode cX10_tape 15 = .ok (.ifCond .eq 13, 3) := by decide +kernel
theorem dX10_tape_18 : decode cX10_tape 18 = .ok (.iload_n 2, 1) := by decide +kernel
theorem dX10_tape_19 : decode cX10_tape 19 = .ok (.ifCond .lt 12, 3) := by decide +kernel
theorem dX10_tape_22 : decode cX10_tape 22 = .ok (.iload_n 3, 1) := by decide +kernel
theorem dX10_tape_23 : decode cX10_tape 23 = .ok (.bipush 60, 2) := by decide +kernel
theorem dX10_tape_25 : decode cX10_tape 25 = .ok (.if_icmp .le 6, 3) := by decide +kernel
theorem dX10_tape_28 : decode cX10_tape 28 = .ok (.bipush (-2), 2) := by decide +kernel
theorem dX10_tape_30 : decode cX10_tape 30 = .ok (.ireturn, 1) := by decide +kernel
theorem dX10_tape_31 : decode cX10_tape 31 = .ok (.iload_n 2, 1) := by decide +kernel
theorem dX10_tape_32 : decode cX10_tape 32 = .ok (.ifCond .lt 10, 3) := by decide +kernel
theorem dX10_tape_35 : decode cX10_tape 35 = .ok (.iload_n 3, 1) := by decide +kernel
theorem dX10_tape_36 : decode cX10_tape 36 = .ok (.ifCond .ge 6, 3) := by decide +kernel
theorem dX10_tape_39 : decode cX10_tape 39 = .ok (.bipush (-14), 2) := by decide +kernel
theorem dX10_tape_41 : decode cX10_tape 41 = .ok (.ireturn, 1) := by decide +kernel
theorem dX10_tape_42 : decode cX10_tape 42 = .ok (.aload_n 0, 1) := by decide +kernel
theorem dX10_tape_43 : decode cX10_tape 43 = .ok (.getfield 48, 3) := by decide +kernel
theorem dX10_tape_46 : decode cX10_tape 46 = .ok (.iload_n 1, 1) := by decide +kernel
theorem dX10_tape_47 : decode cX10_tape 47 = .ok (.iload_n 2, 1) := by decide +kernel
theorem dX10_tape_48 : decode cX10_tape 48 = .ok (.iastore, 1) := by decide +kernel
theorem dX10_tape_49 : decode cX10_tape 49 = .ok (.aload_n 0, 1) := by decide +kernel
theorem dX10_tape_50 : decode cX10_tape 50 = .ok (.getfield 51, 3) := by decide +kernel
theorem dX10_tape_53 : decode cX10_tape 53 = .ok (.iload_n 1, 1) := by decide +kernel
theorem dX10_tape_54 : decode cX10_tape 54 = .ok (.iload_n 2, 1) := by decide +kernel
theorem dX10_tape_55 : decode cX10_tape 55 = .ok (.ifCond .ge 7, 3) := by decide +kernel
theorem dX10_tape_58 : decode cX10_tape 58 = .ok (.iconst 0, 1) := by decide +kernel
theorem dX10_tape_59 : decode cX10_tape 59 = .ok (.goto 4, 3) := by decide +kernel
theorem dX10_tape_62 : decode cX10_tape 62 = .ok (.iload_n 3, 1) := by decide +kernel
theorem dX10_tape_63 : decode cX10_tape 63 = .ok (.iastore, 1) := by decide +kernel
theorem dX10_tape_64 : decode cX10_tape 64 = .ok (.iconst 0, 1) := by decide +kernel
theorem dX10_tape_65 : decode cX10_tape 65 = .ok (.istore 4, 2) := by decide +kernel
theorem dX10_tape_67 : decode cX10_tape 67 = .ok (.iload 4, 2) := by decide +kernel
theorem dX10_tape_69 : decode cX10_tape 69 = .ok (.bipush 60, 2) := by decide +kernel
theorem dX10_tape_71 : decode cX10_tape 71 = .ok (.if_icmp .ge 19, 3) := by decide +kernel
theorem dX10_tape_74 : decode cX10_tape 74 = .ok (.aload_n 0, 1) := by decide +kernel
theorem dX10_tape_75 : decode cX10_tape 75 = .ok (.getfield 56, 3) := by decide +kernel
theorem dX10_tape_78 : decode cX10_tape 78 = .ok (.iload_n 1, 1) := by decide +kernel
theorem dX10_tape_79 : decode cX10_tape 79 = .ok (.aaload, 1) := by decide +kernel
theorem dX10_tape_80 : decode cX10_tape 80 = .ok (.iload 4, 2) := by decide +kernel
theorem dX10_tape_82 : decode cX10_tape 82 = .ok (.lconst 0, 1) := by decide +kernel
theorem dX10_tape_83 : decode cX10_tape 83 = .ok (.lastore, 1) := by decide +kernel
theorem dX10_tape_84 : decode cX10_tape 84 = .ok (.iinc 4 1, 3) := by decide +kernel
theorem dX10_tape_87 : decode cX10_tape 87 = .ok (.goto (-20), 3) := by decide +kernel
theorem dX10_tape_90 : decode cX10_tape 90 = .ok (.iconst 1, 1) := by decide +kernel
theorem dX10_tape_91 : decode cX10_tape 91 = .ok (.ireturn, 1) := by decide +kernel
theorem dX10_fit_0 : decode cX10_fit 0 = .ok (.iload_n 0, 1) := by decide +kernel
theorem dX10_fit_1 : decode cX10_fit 1 = .ok (.tableswitch 47 0 3 #[31, 36, 41, 45], 31) := by decide +kernel
theorem dX10_fit_32 : decode cX10_fit 32 = .ok (.lload_n 1, 1) := by decide +kernel
theorem dX10_fit_33 : decode cX10_fit 33 = .ok (.l2i, 1) := by decide +kernel
theorem dX10_fit_34 : decode cX10_fit 34 = .ok (.i2b, 1) := by decide +kernel
theorem dX10_fit_35 : decode cX10_fit 35 = .ok (.i2l, 1) := by decide +kernel
theorem dX10_fit_36 : decode cX10_fit 36 = .ok (.lreturn, 1) := by decide +kernel
theorem dX10_fit_37 : decode cX10_fit 37 = .ok (.lload_n 1, 1) := by decide +kernel
theorem dX10_fit_38 : decode cX10_fit 38 = .ok (.l2i, 1) := by decide +kernel
theorem dX10_fit_39 : decode cX10_fit 39 = .ok (.i2s, 1) := by decide +kernel
theorem dX10_fit_40 : decode cX10_fit 40 = .ok (.i2l, 1) := by decide +kernel
theorem dX10_fit_41 : decode cX10_fit 41 = .ok (.lreturn, 1) := by decide +kernel
theorem dX10_fit_42 : decode cX10_fit 42 = .ok (.lload_n 1, 1) := by decide +kernel
theorem dX10_fit_43 : decode cX10_fit 43 = .ok (.l2i, 1) := by decide +kernel
theorem dX10_fit_44 : decode cX10_fit 44 = .ok (.i2l, 1) := by decide +kernel
theorem dX10_fit_45 : decode cX10_fit 45 = .ok (.lreturn, 1) := by decide +kernel
theorem dX10_fit_46 : decode cX10_fit 46 = .ok (.lload_n 1, 1) := by decide +kernel
theorem dX10_fit_47 : decode cX10_fit 47 = .ok (.lreturn, 1) := by decide +kernel
theorem dX10_fit_48 : decode cX10_fit 48 = .ok (.lload_n 1, 1) := by decide +kernel
theorem dX10_fit_49 : decode cX10_fit 49 = .ok (.lconst 0, 1) := by decide +kernel
theorem dX10_fit_50 : decode cX10_fit 50 = .ok (.lcmp, 1) := by decide +kernel
theorem dX10_fit_51 : decode cX10_fit 51 = .ok (.ifCond .eq 7, 3) := by decide +kernel
theorem dX10_fit_54 : decode cX10_fit 54 = .ok (.lconst 1, 1) := by decide +kernel
theorem dX10_fit_55 : decode cX10_fit 55 = .ok (.goto 4, 3) := by decide +kernel
theorem dX10_fit_58 : decode cX10_fit 58 = .ok (.lconst 0, 1) := by decide +kernel
theorem dX10_fit_59 : decode cX10_fit 59 = .ok (.lreturn, 1) := by decide +kernel
theorem dX10_item_0 : decode cX10_item 0 = .ok (.iload_n 1, 1) := by decide +kernel
theorem dX10_item_1 : decode cX10_item 1 = .ok (.invokestatic 195, 3) := by decide +kernel
theorem dX10_item_4 : decode cX10_item 4 = .ok (.ifCond .ne 5, 3) := by decide +kernel
theorem dX10_item_7 : decode cX10_item 7 = .ok (.iconst (-1), 1) := by decide +kernel
theorem dX10_item_8 : decode cX10_item 8 = .ok (.ireturn, 1) := by decide +kernel
theorem dX10_item_9 : decode cX10_item 9 = .ok (.aload_n 0, 1) := by decide +kernel
theorem dX10_item_10 : decode cX10_item 10 = .ok (.getfield 48, 3) := by decide +kernel
theorem dX10_item_13 : decode cX10_item 13 = .ok (.iload_n 1, 1) := by decide +kernel
theorem dX10_item_14 : decode cX10_item 14 = .ok (.iaload, 1) := by decide +kernel
theorem dX10_item_15 : decode cX10_item 15 = .ok (.ifCond .ge 6, 3) := by decide +kernel
theorem dX10_item_18 : decode cX10_item 18 = .ok (.bipush (-11), 2) := by decide +kernel
theorem dX10_item_20 : decode cX10_item 20 = .ok (.ireturn, 1) := by decide +kernel
theorem dX10_item_21 : decode cX10_item 21 = .ok (.iload_n 2, 1) := by decide +kernel
theorem dX10_item_22 : decode cX10_item 22 = .ok (.iconst 0, 1) := by decide +kernel
theorem dX10_item_23 : decode cX10_item 23 = .ok (.aload_n 0, 1) := by decide +kernel
theorem dX10_item_24 : decode cX10_item 24 = .ok (.getfield 51, 3) := by decide +kernel
theorem dX10_item_27 : decode cX10_item 27 = .ok (.iload_n 1, 1) := by decide +kernel
theorem dX10_item_28 : decode cX10_item 28 = .ok (.iaload, 1) := by decide +kernel
theorem dX10_item_29 : decode cX10_item 29 = .ok (.iconst 1, 1) := by decide +kernel
theorem dX10_item_30 : decode cX10_item 30 = .ok (.isub, 1) := by decide +kernel
theorem dX10_item_31 : decode cX10_item 31 = .ok (.invokestatic 63, 3) := by decide +kernel
theorem dX10_item_34 : decode cX10_item 34 = .ok (.ifCond .ne 6, 3) := by decide +kernel
theorem dX10_item_37 : decode cX10_item 37 = .ok (.bipush (-13), 2) := by decide +kernel
theorem dX10_item_39 : decode cX10_item 39 = .ok (.ireturn, 1) := by decide +kernel
theorem dX10_item_40 : decode cX10_item 40 = .ok (.aload_n 0, 1) := by decide +kernel
theorem dX10_item_41 : decode cX10_item 41 = .ok (.getfield 56, 3) := by decide +kernel
theorem dX10_item_44 : decode cX10_item 44 = .ok (.iload_n 1, 1) := by decide +kernel
theorem dX10_item_45 : decode cX10_item 45 = .ok (.aaload, 1) := by decide +kernel
theorem dX10_item_46 : decode cX10_item 46 = .ok (.iload_n 2, 1) := by decide +kernel
theorem dX10_item_47 : decode cX10_item 47 = .ok (.aload_n 0, 1) := by decide +kernel
theorem dX10_item_48 : decode cX10_item 48 = .ok (.getfield 48, 3) := by decide +kernel
theorem dX10_item_51 : decode cX10_item 51 = .ok (.iload_n 1, 1) := by decide +kernel
theorem dX10_item_52 : decode cX10_item 52 = .ok (.iaload, 1) := by decide +kernel
theorem dX10_item_53 : decode cX10_item 53 = .ok (.lload_n 3, 1) := by decide +kernel
theorem dX10_item_54 : decode cX10_item 54 = .ok (.invokestatic 202, 3) := by decide +kernel
theorem dX10_item_57 : decode cX10_item 57 = .ok (.lastore, 1) := by decide +kernel
theorem dX10_item_58 : decode cX10_item 58 = .ok (.iconst 1, 1) := by decide +kernel
theorem dX10_item_59 : decode cX10_item 59 = .ok (.ireturn, 1) := by decide +kernel
theorem dX10_read_0 : decode cX10_read 0 = .ok (.iload_n 1, 1) := by decide +kernel
theorem dX10_read_1 : decode cX10_read 1 = .ok (.invokestatic 195, 3) := by decide +kernel
theorem dX10_read_4 : decode cX10_read 4 = .ok (.ifCond .eq 39, 3) := by decide +kernel
theorem dX10_read_7 : decode cX10_read 7 = .ok (.aload_n 0, 1) := by decide +kernel
theorem dX10_read_8 : decode cX10_read 8 = .ok (.getfield 48, 3) := by decide +kernel
theorem dX10_read_11 : decode cX10_read 11 = .ok (.iload_n 1, 1) := by decide +kernel
theorem dX10_read_12 : decode cX10_read 12 = .ok (.iaload, 1) := by decide +kernel
theorem dX10_read_13 : decode cX10_read 13 = .ok (.ifCond .lt 30, 3) := by decide +kernel
theorem dX10_read_16 : decode cX10_read 16 = .ok (.iload_n 2, 1) := by decide +kernel
theorem dX10_read_17 : decode cX10_read 17 = .ok (.iconst 0, 1) := by decide +kernel
theorem dX10_read_18 : decode cX10_read 18 = .ok (.aload_n 0, 1) := by decide +kernel
theorem dX10_read_19 : decode cX10_read 19 = .ok (.getfield 51, 3) := by decide +kernel
theorem dX10_read_22 : decode cX10_read 22 = .ok (.iload_n 1, 1) := by decide +kernel
theorem dX10_read_23 : decode cX10_read 23 = .ok (.iaload, 1) := by decide +kernel
theorem dX10_read_24 : decode cX10_read 24 = .ok (.iconst 1, 1) := by decide +kernel
theorem dX10_read_25 : decode cX10_read 25 = .ok (.isub, 1) := by decide +kernel
theorem dX10_read_26 : decode cX10_read 26 = .ok (.invokestatic 63, 3) := by decide +kernel
theorem dX10_read_29 : decode cX10_read 29 = .ok (.ifCond .eq 14, 3) := by decide +kernel
theorem dX10_read_32 : decode cX10_read 32 = .ok (.aload_n 0, 1) := by decide +kernel
theorem dX10_read_33 : decode cX10_read 33 = .ok (.getfield 56, 3) := by decide +kernel
theorem dX10_read_36 : decode cX10_read 36 = .ok (.iload_n 1, 1) := by decide +kernel
theorem dX10_read_37 : decode cX10_read 37 = .ok (.aaload, 1) := by decide +kernel
theorem dX10_read_38 : decode cX10_read 38 = .ok (.iload_n 2, 1) := by decide +kernel
theorem dX10_read_39 : decode cX10_read 39 = .ok (.laload, 1) := by decide +kernel
theorem dX10_read_40 : decode cX10_read 40 = .ok (.goto 6, 3) := by decide +kernel
theorem dX10_read_43 : decode cX10_read 43 = .ok (.ldc2_w 182, 3) := by decide +kernel
theorem dX10_read_46 : decode cX10_read 46 = .ok (.lreturn, 1) := by decide +kernel
theorem dX10_shift_0 : decode cX10_shift 0 = .ok (.iload_n 1, 1) := by decide +kernel
theorem dX10_shift_1 : decode cX10_shift 1 = .ok (.invokestatic 195, 3) := by decide +kernel
theorem dX10_shift_4 : decode cX10_shift 4 = .ok (.ifCond .eq 10, 3) := by decide +kernel
theorem dX10_shift_7 : decode cX10_shift 7 = .ok (.iload_n 3, 1) := by decide +kernel
theorem dX10_shift_8 : decode cX10_shift 8 = .ok (.invokestatic 195, 3) := by decide +kernel
theorem dX10_shift_11 : decode cX10_shift 11 = .ok (.ifCond .ne 5, 3) := by decide +kernel
theorem dX10_shift_14 : decode cX10_shift 14 = .ok (.iconst (-1), 1) := by decide +kernel
theorem dX10_shift_15 : decode cX10_shift 15 = .ok (.ireturn, 1) := by decide +kernel
theorem dX10_shift_16 : decode cX10_shift 16 = .ok (.aload_n 0, 1) := by decide +kernel
theorem dX10_shift_17 : decode cX10_shift 17 = .ok (.getfield 48, 3) := by decide +kernel
theorem dX10_shift_20 : decode cX10_shift 20 = .ok (.iload_n 1, 1) := by decide +kernel
theorem dX10_shift_21 : decode cX10_shift 21 = .ok (.iaload, 1) := by decide +kernel
theorem dX10_shift_22 : decode cX10_shift 22 = .ok (.ifCond .lt 12, 3) := by decide +kernel
theorem dX10_shift_25 : decode cX10_shift 25 = .ok (.aload_n 0, 1) := by decide +kernel
theorem dX10_shift_26 : decode cX10_shift 26 = .ok (.getfield 48, 3) := by decide +kernel
theorem dX10_shift_29 : decode cX10_shift 29 = .ok (.iload_n 3, 1) := by decide +kernel
theorem dX10_shift_30 : decode cX10_shift 30 = .ok (.iaload, 1) := by decide +kernel
theorem dX10_shift_31 : decode cX10_shift 31 = .ok (.ifCond .ge 6, 3) := by decide +kernel
theorem dX10_shift_34 : decode cX10_shift 34 = .ok (.bipush (-11), 2) := by decide +kernel
theorem dX10_shift_36 : decode cX10_shift 36 = .ok (.ireturn, 1) := by decide +kernel
theorem dX10_shift_37 : decode cX10_shift 37 = .ok (.aload_n 0, 1) := by decide +kernel
theorem dX10_shift_38 : decode cX10_shift 38 = .ok (.getfield 48, 3) := by decide +kernel
theorem dX10_shift_41 : decode cX10_shift 41 = .ok (.iload_n 1, 1) := by decide +kernel
theorem dX10_shift_42 : decode cX10_shift 42 = .ok (.iaload, 1) := by decide +kernel
theorem dX10_shift_43 : decode cX10_shift 43 = .ok (.aload_n 0, 1) := by decide +kernel
theorem dX10_shift_44 : decode cX10_shift 44 = .ok (.getfield 48, 3) := by decide +kernel
theorem dX10_shift_47 : decode cX10_shift 47 = .ok (.iload_n 3, 1) := by decide +kernel
theorem dX10_shift_48 : decode cX10_shift 48 = .ok (.iaload, 1) := by decide +kernel
theorem dX10_shift_49 : decode cX10_shift 49 = .ok (.if_icmp .eq 6, 3) := by decide +kernel
theorem dX10_shift_52 : decode cX10_shift 52 = .ok (.bipush (-12), 2) := by decide +kernel
theorem dX10_shift_54 : decode cX10_shift 54 = .ok (.ireturn, 1) := by decide +kernel
theorem dX10_shift_55 : decode cX10_shift 55 = .ok (.iload 5, 2) := by decide +kernel
theorem dX10_shift_57 : decode cX10_shift 57 = .ok (.ifCond .lt 61, 3) := by decide +kernel
theorem dX10_shift_60 : decode cX10_shift 60 = .ok (.iload_n 2, 1) := by decide +kernel
theorem dX10_shift_61 : decode cX10_shift 61 = .ok (.ifCond .lt 57, 3) := by decide +kernel
theorem dX10_shift_64 : decode cX10_shift 64 = .ok (.iload 4, 2) := by decide +kernel
theorem dX10_shift_66 : decode cX10_shift 66 = .ok (.ifCond .lt 52, 3) := by decide +kernel
theorem dX10_shift_69 : decode cX10_shift 69 = .ok (.iload 5, 2) := by decide +kernel
theorem dX10_shift_71 : decode cX10_shift 71 = .ok (.aload_n 0, 1) := by decide +kernel
theorem dX10_shift_72 : decode cX10_shift 72 = .ok (.getfield 51, 3) := by decide +kernel
theorem dX10_shift_75 : decode cX10_shift 75 = .ok (.iload_n 1, 1) := by decide +kernel
theorem dX10_shift_76 : decode cX10_shift 76 = .ok (.iaload, 1) := by decide +kernel
theorem dX10_shift_77 : decode cX10_shift 77 = .ok (.if_icmp .gt 41, 3) := by decide +kernel
theorem dX10_shift_80 : decode cX10_shift 80 = .ok (.iload 5, 2) := by decide +kernel
theorem dX10_shift_82 : decode cX10_shift 82 = .ok (.aload_n 0, 1) := by decide +kernel
theorem dX10_shift_83 : decode cX10_shift 83 = .ok (.getfield 51, 3) := by decide +kernel
theorem dX10_shift_86 : decode cX10_shift 86 = .ok (.iload_n 3, 1) := by decide +kernel
theorem dX10_shift_87 : decode cX10_shift 87 = .ok (.iaload, 1) := by decide +kernel
theorem dX10_shift_88 : decode cX10_shift 88 = .ok (.if_icmp .gt 30, 3) := by decide +kernel
theorem dX10_shift_91 : decode cX10_shift 91 = .ok (.iload_n 2, 1) := by decide +kernel
theorem dX10_shift_92 : decode cX10_shift 92 = .ok (.aload_n 0, 1) := by decide +kernel
theorem dX10_shift_93 : decode cX10_shift 93 = .ok (.getfield 51, 3) := by decide +kernel
theorem dX10_shift_96 : decode cX10_shift 96 = .ok (.iload_n 1, 1) := by decide +kernel
theorem dX10_shift_97 : decode cX10_shift 97 = .ok (.iaload, 1) := by decide +kernel
theorem dX10_shift_98 : decode cX10_shift 98 = .ok (.iload 5, 2) := by decide +kernel
theorem dX10_shift_100 : decode cX10_shift 100 = .ok (.isub, 1) := by decide +kernel
theorem dX10_shift_101 : decode cX10_shift 101 = .ok (.if_icmp .gt 17, 3) := by decide +kernel
theorem dX10_shift_104 : decode cX10_shift 104 = .ok (.iload 4, 2) := by decide +kernel
theorem dX10_shift_106 : decode cX10_shift 106 = .ok (.aload_n 0, 1) := by decide +kernel
theorem dX10_shift_107 : decode cX10_shift 107 = .ok (.getfield 51, 3) := by decide +kernel
theorem dX10_shift_110 : decode cX10_shift 110 = .ok (.iload_n 3, 1) := by decide +kernel
theorem dX10_shift_111 : decode cX10_shift 111 = .ok (.iaload, 1) := by decide +kernel
theorem dX10_shift_112 : decode cX10_shift 112 = .ok (.iload 5, 2) := by decide +kernel
theorem dX10_shift_114 : decode cX10_shift 114 = .ok (.isub, 1) := by decide +kernel
theorem dX10_shift_115 : decode cX10_shift 115 = .ok (.if_icmp .le 6, 3) := by decide +kernel
theorem dX10_shift_118 : decode cX10_shift 118 = .ok (.bipush (-13), 2) := by decide +kernel
theorem dX10_shift_120 : decode cX10_shift 120 = .ok (.ireturn, 1) := by decide +kernel
theorem dX10_shift_121 : decode cX10_shift 121 = .ok (.iconst 0, 1) := by decide +kernel
theorem dX10_shift_122 : decode cX10_shift 122 = .ok (.istore 6, 2) := by decide +kernel
theorem dX10_shift_124 : decode cX10_shift 124 = .ok (.iload 6, 2) := by decide +kernel
theorem dX10_shift_126 : decode cX10_shift 126 = .ok (.iload 5, 2) := by decide +kernel
theorem dX10_shift_128 : decode cX10_shift 128 = .ok (.if_icmp .ge 27, 3) := by decide +kernel
theorem dX10_shift_131 : decode cX10_shift 131 = .ok (.aload_n 0, 1) := by decide +kernel
theorem dX10_shift_132 : decode cX10_shift 132 = .ok (.getfield 59, 3) := by decide +kernel
theorem dX10_shift_135 : decode cX10_shift 135 = .ok (.iload 6, 2) := by decide +kernel
theorem dX10_shift_137 : decode cX10_shift 137 = .ok (.aload_n 0, 1) := by decide +kernel
theorem dX10_shift_138 : decode cX10_shift 138 = .ok (.getfield 56, 3) := by decide +kernel
theorem dX10_shift_141 : decode cX10_shift 141 = .ok (.iload_n 1, 1) := by decide +kernel
theorem dX10_shift_142 : decode cX10_shift 142 = .ok (.aaload, 1) := by decide +kernel
theorem dX10_shift_143 : decode cX10_shift 143 = .ok (.iload_n 2, 1) := by decide +kernel
theorem dX10_shift_144 : decode cX10_shift 144 = .ok (.iload 6, 2) := by decide +kernel
theorem dX10_shift_146 : decode cX10_shift 146 = .ok (.iadd, 1) := by decide +kernel
theorem dX10_shift_147 : decode cX10_shift 147 = .ok (.laload, 1) := by decide +kernel
theorem dX10_shift_148 : decode cX10_shift 148 = .ok (.lastore, 1) := by decide +kernel
theorem dX10_shift_149 : decode cX10_shift 149 = .ok (.iinc 6 1, 3) := by decide +kernel
theorem dX10_shift_152 : decode cX10_shift 152 = .ok (.goto (-28), 3) := by decide +kernel
theorem dX10_shift_155 : decode cX10_shift 155 = .ok (.iconst 0, 1) := by decide +kernel
theorem dX10_shift_156 : decode cX10_shift 156 = .ok (.istore 6, 2) := by decide +kernel
theorem dX10_shift_158 : decode cX10_shift 158 = .ok (.iload 6, 2) := by decide +kernel
theorem dX10_shift_160 : decode cX10_shift 160 = .ok (.iload 5, 2) := by decide +kernel
theorem dX10_shift_162 : decode cX10_shift 162 = .ok (.if_icmp .ge 28, 3) := by decide +kernel
theorem dX10_shift_165 : decode cX10_shift 165 = .ok (.aload_n 0, 1) := by decide +kernel
theorem dX10_shift_166 : decode cX10_shift 166 = .ok (.getfield 56, 3) := by decide +kernel
theorem dX10_shift_169 : decode cX10_shift 169 = .ok (.iload_n 3, 1) := by decide +kernel
theorem dX10_shift_170 : decode cX10_shift 170 = .ok (.aaload, 1) := by decide +kernel
theorem dX10_shift_171 : decode cX10_shift 171 = .ok (.iload 4, 2) := by decide +kernel
theorem dX10_shift_173 : decode cX10_shift 173 = .ok (.iload 6, 2) := by decide +kernel
theorem dX10_shift_175 : decode cX10_shift 175 = .ok (.iadd, 1) := by decide +kernel
theorem dX10_shift_176 : decode cX10_shift 176 = .ok (.aload_n 0, 1) := by decide +kernel
theorem dX10_shift_177 : decode cX10_shift 177 = .ok (.getfield 59, 3) := by decide +kernel
theorem dX10_shift_180 : decode cX10_shift 180 = .ok (.iload 6, 2) := by decide +kernel
theorem dX10_shift_182 : decode cX10_shift 182 = .ok (.laload, 1) := by decide +kernel
theorem dX10_shift_183 : decode cX10_shift 183 = .ok (.lastore, 1) := by decide +kernel
theorem dX10_shift_184 : decode cX10_shift 184 = .ok (.iinc 6 1, 3) := by decide +kernel
theorem dX10_shift_187 : decode cX10_shift 187 = .ok (.goto (-29), 3) := by decide +kernel
theorem dX10_shift_190 : decode cX10_shift 190 = .ok (.iload 5, 2) := by decide +kernel
theorem dX10_shift_192 : decode cX10_shift 192 = .ok (.ireturn, 1) := by decide +kernel
