/-! decode rows (printed by wip/whole/gen/mk04.py) -/
theorem dX9_init_0 : decode cX9_init 0 = .ok (.aload_n 0, 1) := by decide +kernel
theorem dX9_init_1 : decode cX9_init 1 = .ok (.invokespecial 5, 3) := by decide +kernel
theorem dX9_init_4 : decode cX9_init 4 = .ok (.aload_n 0, 1) := by decide +kernel
theorem dX9_init_5 : decode cX9_init 5 = .ok (.new 11, 3) := by decide +kernel
theorem dX9_init_8 : decode cX9_init 8 = .ok (.dup, 1) := by decide +kernel
theorem dX9_init_9 : decode cX9_init 9 = .ok (.invokespecial 13, 3) := by decide +kernel
theorem dX9_init_12 : decode cX9_init 12 = .ok (.putfield 14, 3) := by decide +kernel
theorem dX9_init_15 : decode cX9_init 15 = .ok (.aload_n 0, 1) := by decide +kernel
theorem dX9_init_16 : decode cX9_init 16 = .ok (.new 11, 3) := by decide +kernel
theorem dX9_init_19 : decode cX9_init 19 = .ok (.dup, 1) := by decide +kernel
theorem dX9_init_20 : decode cX9_init 20 = .ok (.invokespecial 13, 3) := by decide +kernel
theorem dX9_init_23 : decode cX9_init 23 = .ok (.putfield 18, 3) := by decide +kernel
theorem dX9_init_26 : decode cX9_init 26 = .ok (.aload_n 0, 1) := by decide +kernel
theorem dX9_init_27 : decode cX9_init 27 = .ok (.iconst 0, 1) := by decide +kernel
theorem dX9_init_28 : decode cX9_init 28 = .ok (.putfield 21, 3) := by decide +kernel
theorem dX9_init_31 : decode cX9_init 31 = .ok (.aload_n 0, 1) := by decide +kernel
theorem dX9_init_32 : decode cX9_init 32 = .ok (.new 25, 3) := by decide +kernel
theorem dX9_init_35 : decode cX9_init 35 = .ok (.dup, 1) := by decide +kernel
theorem dX9_init_36 : decode cX9_init 36 = .ok (.invokespecial 27, 3) := by decide +kernel
theorem dX9_init_39 : decode cX9_init 39 = .ok (.putfield 28, 3) := by decide +kernel
theorem dX9_init_42 : decode cX9_init 42 = .ok (.aload_n 0, 1) := by decide +kernel
theorem dX9_init_43 : decode cX9_init 43 = .ok (.bipush 8, 2) := by decide +kernel
theorem dX9_init_45 : decode cX9_init 45 = .ok (.anewarray 32, 3) := by decide +kernel
theorem dX9_init_48 : decode cX9_init 48 = .ok (.putfield 34, 3) := by decide +kernel
theorem dX9_init_51 : decode cX9_init 51 = .ok (.aload_n 0, 1) := by decide +kernel
theorem dX9_init_52 : decode cX9_init 52 = .ok (.iconst 0, 1) := by decide +kernel
theorem dX9_init_53 : decode cX9_init 53 = .ok (.putfield 38, 3) := by decide +kernel
theorem dX9_init_56 : decode cX9_init 56 = .ok (.aload_n 0, 1) := by decide +kernel
theorem dX9_init_57 : decode cX9_init 57 = .ok (.bipush 6, 2) := by decide +kernel
theorem dX9_init_59 : decode cX9_init 59 = .ok (.anewarray 42, 3) := by decide +kernel
theorem dX9_init_62 : decode cX9_init 62 = .ok (.putfield 44, 3) := by decide +kernel
theorem dX9_init_65 : decode cX9_init 65 = .ok (.aload_n 0, 1) := by decide +kernel
theorem dX9_init_66 : decode cX9_init 66 = .ok (.new 48, 3) := by decide +kernel
theorem dX9_init_69 : decode cX9_init 69 = .ok (.dup, 1) := by decide +kernel
theorem dX9_init_70 : decode cX9_init 70 = .ok (.invokespecial 50, 3) := by decide +kernel
theorem dX9_init_73 : decode cX9_init 73 = .ok (.putfield 51, 3) := by decide +kernel
theorem dX9_init_76 : decode cX9_init 76 = .ok (.aload_n 0, 1) := by decide +kernel
theorem dX9_init_77 : decode cX9_init 77 = .ok (.new 48, 3) := by decide +kernel
theorem dX9_init_80 : decode cX9_init 80 = .ok (.dup, 1) := by decide +kernel
theorem dX9_init_81 : decode cX9_init 81 = .ok (.invokespecial 50, 3) := by decide +kernel
theorem dX9_init_84 : decode cX9_init 84 = .ok (.putfield 55, 3) := by decide +kernel
theorem dX9_init_87 : decode cX9_init 87 = .ok (.aload_n 0, 1) := by decide +kernel
theorem dX9_init_88 : decode cX9_init 88 = .ok (.new 58, 3) := by decide +kernel
theorem dX9_init_91 : decode cX9_init 91 = .ok (.dup, 1) := by decide +kernel
theorem dX9_init_92 : decode cX9_init 92 = .ok (.invokespecial 60, 3) := by decide +kernel
theorem dX9_init_95 : decode cX9_init 95 = .ok (.putfield 61, 3) := by decide +kernel
theorem dX9_init_98 : decode cX9_init 98 = .ok (.aload_n 0, 1) := by decide +kernel
theorem dX9_init_99 : decode cX9_init 99 = .ok (.new 65, 3) := by decide +kernel
theorem dX9_init_102 : decode cX9_init 102 = .ok (.dup, 1) := by decide +kernel
theorem dX9_init_103 : decode cX9_init 103 = .ok (.invokespecial 67, 3) := by decide +kernel
theorem dX9_init_106 : decode cX9_init 106 = .ok (.putfield 68, 3) := by decide +kernel
theorem dX9_init_109 : decode cX9_init 109 = .ok (.aload_n 0, 1) := by decide +kernel
theorem dX9_init_110 : decode cX9_init 110 = .ok (.new 72, 3) := by decide +kernel
theorem dX9_init_113 : decode cX9_init 113 = .ok (.dup, 1) := by decide +kernel
theorem dX9_init_114 : decode cX9_init 114 = .ok (.invokespecial 74, 3) := by decide +kernel
theorem dX9_init_117 : decode cX9_init 117 = .ok (.putfield 75, 3) := by decide +kernel
theorem dX9_init_120 : decode cX9_init 120 = .ok (.iconst 0, 1) := by decide +kernel
theorem dX9_init_121 : decode cX9_init 121 = .ok (.istore_n 1, 1) := by decide +kernel
theorem dX9_init_122 : decode cX9_init 122 = .ok (.iload_n 1, 1) := by decide +kernel
theorem dX9_init_123 : decode cX9_init 123 = .ok (.bipush 8, 2) := by decide +kernel
theorem dX9_init_125 : decode cX9_init 125 = .ok (.if_icmp .ge 22, 3) := by decide +kernel
theorem dX9_init_128 : decode cX9_init 128 = .ok (.aload_n 0, 1) := by decide +kernel
theorem dX9_init_129 : decode cX9_init 129 = .ok (.getfield 34, 3) := by decide +kernel
theorem dX9_init_132 : decode cX9_init 132 = .ok (.iload_n 1, 1) := by decide +kernel
theorem dX9_init_133 : decode cX9_init 133 = .ok (.new 32, 3) := by decide +kernel
theorem dX9_init_136 : decode cX9_init 136 = .ok (.dup, 1) := by decide +kernel
theorem dX9_init_137 : decode cX9_init 137 = .ok (.invokespecial 79, 3) := by decide +kernel
theorem dX9_init_140 : decode cX9_init 140 = .ok (.aastore, 1) := by decide +kernel
theorem dX9_init_141 : decode cX9_init 141 = .ok (.iinc 1 1, 3) := by decide +kernel
theorem dX9_init_144 : decode cX9_init 144 = .ok (.goto (-22), 3) := by decide +kernel
theorem dX9_init_147 : decode cX9_init 147 = .ok (.iconst 0, 1) := by decide +kernel
theorem dX9_init_148 : decode cX9_init 148 = .ok (.istore_n 1, 1) := by decide +kernel
theorem dX9_init_149 : decode cX9_init 149 = .ok (.iload_n 1, 1) := by decide +kernel
theorem dX9_init_150 : decode cX9_init 150 = .ok (.bipush 6, 2) := by decide +kernel
theorem dX9_init_152 : decode cX9_init 152 = .ok (.if_icmp .ge 22, 3) := by decide +kernel
theorem dX9_init_155 : decode cX9_init 155 = .ok (.aload_n 0, 1) := by decide +kernel
theorem dX9_init_156 : decode cX9_init 156 = .ok (.getfield 44, 3) := by decide +kernel
theorem dX9_init_159 : decode cX9_init 159 = .ok (.iload_n 1, 1) := by decide +kernel
theorem dX9_init_160 : decode cX9_init 160 = .ok (.new 42, 3) := by decide +kernel
theorem dX9_init_163 : decode cX9_init 163 = .ok (.dup, 1) := by decide +kernel
theorem dX9_init_164 : decode cX9_init 164 = .ok (.invokespecial 80, 3) := by decide +kernel
theorem dX9_init_167 : decode cX9_init 167 = .ok (.aastore, 1) := by decide +kernel
theorem dX9_init_168 : decode cX9_init 168 = .ok (.iinc 1 1, 3) := by decide +kernel
theorem dX9_init_171 : decode cX9_init 171 = .ok (.goto (-22), 3) := by decide +kernel
theorem dX9_init_174 : decode cX9_init 174 = .ok (.return_, 1) := by decide +kernel
theorem dX9_add_0 : decode cX9_add 0 = .ok (.iload_n 1, 1) := by decide +kernel
theorem dX9_add_1 : decode cX9_add 1 = .ok (.invokestatic 81, 3) := by decide +kernel
theorem dX9_add_4 : decode cX9_add 4 = .ok (.ifCond .eq 25, 3) := by decide +kernel
theorem dX9_add_7 : decode cX9_add 7 = .ok (.iload_n 2, 1) := by decide +kernel
theorem dX9_add_8 : decode cX9_add 8 = .ok (.invokestatic 81, 3) := by decide +kernel
theorem dX9_add_11 : decode cX9_add 11 = .ok (.ifCond .eq 18, 3) := by decide +kernel
theorem dX9_add_14 : decode cX9_add 14 = .ok (.iload_n 3, 1) := by decide +kernel
theorem dX9_add_15 : decode cX9_add 15 = .ok (.invokestatic 81, 3) := by decide +kernel
theorem dX9_add_18 : decode cX9_add 18 = .ok (.ifCond .eq 11, 3) := by decide +kernel
theorem dX9_add_21 : decode cX9_add 21 = .ok (.iload 4, 2) := by decide +kernel
theorem dX9_add_23 : decode cX9_add 23 = .ok (.invokestatic 81, 3) := by decide +kernel
theorem dX9_add_26 : decode cX9_add 26 = .ok (.ifCond .ne 6, 3) := by decide +kernel
theorem dX9_add_29 : decode cX9_add 29 = .ok (.bipush (-2), 2) := by decide +kernel
theorem dX9_add_31 : decode cX9_add 31 = .ok (.ireturn, 1) := by decide +kernel
theorem dX9_add_32 : decode cX9_add 32 = .ok (.aload_n 0, 1) := by decide +kernel
theorem dX9_add_33 : decode cX9_add 33 = .ok (.getfield 14, 3) := by decide +kernel
theorem dX9_add_36 : decode cX9_add 36 = .ok (.getfield 85, 3) := by decide +kernel
theorem dX9_add_39 : decode cX9_add 39 = .ok (.invokevirtual 88, 3) := by decide +kernel
theorem dX9_add_42 : decode cX9_add 42 = .ok (.ifCond .eq 6, 3) := by decide +kernel
theorem dX9_add_45 : decode cX9_add 45 = .ok (.bipush (-4), 2) := by decide +kernel
theorem dX9_add_47 : decode cX9_add 47 = .ok (.ireturn, 1) := by decide +kernel
theorem dX9_add_48 : decode cX9_add 48 = .ok (.aload_n 0, 1) := by decide +kernel
theorem dX9_add_49 : decode cX9_add 49 = .ok (.getfield 14, 3) := by decide +kernel
theorem dX9_add_52 : decode cX9_add 52 = .ok (.getfield 85, 3) := by decide +kernel
theorem dX9_add_55 : decode cX9_add 55 = .ok (.iload_n 1, 1) := by decide +kernel
theorem dX9_add_56 : decode cX9_add 56 = .ok (.iload_n 2, 1) := by decide +kernel
theorem dX9_add_57 : decode cX9_add 57 = .ok (.iload_n 3, 1) := by decide +kernel
theorem dX9_add_58 : decode cX9_add 58 = .ok (.iload 4, 2) := by decide +kernel
theorem dX9_add_60 : decode cX9_add 60 = .ok (.invokevirtual 92, 3) := by decide +kernel
theorem dX9_add_63 : decode cX9_add 63 = .ok (.aload_n 0, 1) := by decide +kernel
theorem dX9_add_64 : decode cX9_add 64 = .ok (.getfield 14, 3) := by decide +kernel
theorem dX9_add_67 : decode cX9_add 67 = .ok (.getfield 85, 3) := by decide +kernel
theorem dX9_add_70 : decode cX9_add 70 = .ok (.getfield 96, 3) := by decide +kernel
theorem dX9_add_73 : decode cX9_add 73 = .ok (.iconst 1, 1) := by decide +kernel
theorem dX9_add_74 : decode cX9_add 74 = .ok (.isub, 1) := by decide +kernel
theorem dX9_add_75 : decode cX9_add 75 = .ok (.ireturn, 1) := by decide +kernel
theorem dX9_at_0 : decode cX9_at 0 = .ok (.aload_n 0, 1) := by decide +kernel
theorem dX9_at_1 : decode cX9_at 1 = .ok (.getfield 14, 3) := by decide +kernel
theorem dX9_at_4 : decode cX9_at 4 = .ok (.getfield 85, 3) := by decide +kernel
theorem dX9_at_7 : decode cX9_at 7 = .ok (.iload_n 1, 1) := by decide +kernel
theorem dX9_at_8 : decode cX9_at 8 = .ok (.invokevirtual 99, 3) := by decide +kernel
theorem dX9_at_11 : decode cX9_at 11 = .ok (.ifCond .eq 10, 3) := by decide +kernel
theorem dX9_at_14 : decode cX9_at 14 = .ok (.iload_n 2, 1) := by decide +kernel
theorem dX9_at_15 : decode cX9_at 15 = .ok (.invokestatic 102, 3) := by decide +kernel
theorem dX9_at_18 : decode cX9_at 18 = .ok (.ifCond .ne 5, 3) := by decide +kernel
theorem dX9_at_21 : decode cX9_at 21 = .ok (.iconst (-1), 1) := by decide +kernel
theorem dX9_at_22 : decode cX9_at 22 = .ok (.ireturn, 1) := by decide +kernel
theorem dX9_at_23 : decode cX9_at 23 = .ok (.aload_n 0, 1) := by decide +kernel
theorem dX9_at_24 : decode cX9_at 24 = .ok (.getfield 14, 3) := by decide +kernel
theorem dX9_at_27 : decode cX9_at 27 = .ok (.getfield 85, 3) := by decide +kernel
theorem dX9_at_30 : decode cX9_at 30 = .ok (.iload_n 1, 1) := by decide +kernel
theorem dX9_at_31 : decode cX9_at 31 = .ok (.iload_n 2, 1) := by decide +kernel
theorem dX9_at_32 : decode cX9_at 32 = .ok (.invokevirtual 105, 3) := by decide +kernel
theorem dX9_at_35 : decode cX9_at 35 = .ok (.ireturn, 1) := by decide +kernel
theorem dX9_mark_0 : decode cX9_mark 0 = .ok (.aload_n 0, 1) := by decide +kernel
theorem dX9_mark_1 : decode cX9_mark 1 = .ok (.getfield 14, 3) := by decide +kernel
theorem dX9_mark_4 : decode cX9_mark 4 = .ok (.getfield 109, 3) := by decide +kernel
theorem dX9_mark_7 : decode cX9_mark 7 = .ok (.bipush 10, 2) := by decide +kernel
theorem dX9_mark_9 : decode cX9_mark 9 = .ok (.if_icmp .lt 6, 3) := by decide +kernel
theorem dX9_mark_12 : decode cX9_mark 12 = .ok (.bipush (-4), 2) := by decide +kernel
theorem dX9_mark_14 : decode cX9_mark 14 = .ok (.ireturn, 1) := by decide +kernel
theorem dX9_mark_15 : decode cX9_mark 15 = .ok (.aload_n 0, 1) := by decide +kernel
theorem dX9_mark_16 : decode cX9_mark 16 = .ok (.getfield 14, 3) := by decide +kernel
theorem dX9_mark_19 : decode cX9_mark 19 = .ok (.getfield 112, 3) := by decide +kernel
theorem dX9_mark_22 : decode cX9_mark 22 = .ok (.aload_n 0, 1) := by decide +kernel
theorem dX9_mark_23 : decode cX9_mark 23 = .ok (.getfield 14, 3) := by decide +kernel
theorem dX9_mark_26 : decode cX9_mark 26 = .ok (.getfield 109, 3) := by decide +kernel
theorem dX9_mark_29 : decode cX9_mark 29 = .ok (.aload_n 0, 1) := by decide +kernel
theorem dX9_mark_30 : decode cX9_mark 30 = .ok (.getfield 14, 3) := by decide +kernel
theorem dX9_mark_33 : decode cX9_mark 33 = .ok (.getfield 85, 3) := by decide +kernel
theorem dX9_mark_36 : decode cX9_mark 36 = .ok (.getfield 96, 3) := by decide +kernel
theorem dX9_mark_39 : decode cX9_mark 39 = .ok (.iastore, 1) := by decide +kernel
theorem dX9_mark_40 : decode cX9_mark 40 = .ok (.aload_n 0, 1) := by decide +kernel
theorem dX9_mark_41 : decode cX9_mark 41 = .ok (.getfield 14, 3) := by decide +kernel
theorem dX9_mark_44 : decode cX9_mark 44 = .ok (.dup, 1) := by decide +kernel
theorem dX9_mark_45 : decode cX9_mark 45 = .ok (.getfield 109, 3) := by decide +kernel
theorem dX9_mark_48 : decode cX9_mark 48 = .ok (.iconst 1, 1) := by decide +kernel
theorem dX9_mark_49 : decode cX9_mark 49 = .ok (.iadd, 1) := by decide +kernel
theorem dX9_mark_50 : decode cX9_mark 50 = .ok (.putfield 109, 3) := by decide +kernel
theorem dX9_mark_53 : decode cX9_mark 53 = .ok (.aload_n 0, 1) := by decide +kernel
theorem dX9_mark_54 : decode cX9_mark 54 = .ok (.getfield 14, 3) := by decide +kernel
theorem dX9_mark_57 : decode cX9_mark 57 = .ok (.getfield 109, 3) := by decide +kernel
theorem dX9_mark_60 : decode cX9_mark 60 = .ok (.iconst 1, 1) := by decide +kernel
theorem dX9_mark_61 : decode cX9_mark 61 = .ok (.isub, 1) := by decide +kernel
theorem dX9_mark_62 : decode cX9_mark 62 = .ok (.ireturn, 1) := by decide +kernel
theorem dX9_back_0 : decode cX9_back 0 = .ok (.aload_n 0, 1) := by decide +kernel
theorem dX9_back_1 : decode cX9_back 1 = .ok (.getfield 14, 3) := by decide +kernel
theorem dX9_back_4 : decode cX9_back 4 = .ok (.iload_n 1, 1) := by decide +kernel
theorem dX9_back_5 : decode cX9_back 5 = .ok (.invokevirtual 116, 3) := by decide +kernel
theorem dX9_back_8 : decode cX9_back 8 = .ok (.ifCond .ne 5, 3) := by decide +kernel
theorem dX9_back_11 : decode cX9_back 11 = .ok (.iconst (-1), 1) := by decide +kernel
theorem dX9_back_12 : decode cX9_back 12 = .ok (.ireturn, 1) := by decide +kernel
theorem dX9_back_13 : decode cX9_back 13 = .ok (.aload_n 0, 1) := by decide +kernel
theorem dX9_back_14 : decode cX9_back 14 = .ok (.getfield 14, 3) := by decide +kernel
theorem dX9_back_17 : decode cX9_back 17 = .ok (.getfield 85, 3) := by decide +kernel
theorem dX9_back_20 : decode cX9_back 20 = .ok (.getfield 96, 3) := by decide +kernel
theorem dX9_back_23 : decode cX9_back 23 = .ok (.istore_n 2, 1) := by decide +kernel
theorem dX9_back_24 : decode cX9_back 24 = .ok (.aload_n 0, 1) := by decide +kernel
theorem dX9_back_25 : decode cX9_back 25 = .ok (.getfield 14, 3) := by decide +kernel
theorem dX9_back_28 : decode cX9_back 28 = .ok (.getfield 85, 3) := by decide +kernel
theorem dX9_back_31 : decode cX9_back 31 = .ok (.aload_n 0, 1) := by decide +kernel
theorem dX9_back_32 : decode cX9_back 32 = .ok (.getfield 14, 3) := by decide +kernel
theorem dX9_back_35 : decode cX9_back 35 = .ok (.getfield 112, 3) := by decide +kernel
theorem dX9_back_38 : decode cX9_back 38 = .ok (.iload_n 1, 1) := by decide +kernel
theorem dX9_back_39 : decode cX9_back 39 = .ok (.iaload, 1) := by decide +kernel
theorem dX9_back_40 : decode cX9_back 40 = .ok (.invokevirtual 119, 3) := by decide +kernel
theorem dX9_back_43 : decode cX9_back 43 = .ok (.aload_n 0, 1) := by decide +kernel
theorem dX9_back_44 : decode cX9_back 44 = .ok (.getfield 14, 3) := by decide +kernel
theorem dX9_back_47 : decode cX9_back 47 = .ok (.iload_n 1, 1) := by decide +kernel
theorem dX9_back_48 : decode cX9_back 48 = .ok (.iconst 1, 1) := by decide +kernel
theorem dX9_back_49 : decode cX9_back 49 = .ok (.iadd, 1) := by decide +kernel
theorem dX9_back_50 : decode cX9_back 50 = .ok (.putfield 109, 3) := by decide +kernel
theorem dX9_back_53 : decode cX9_back 53 = .ok (.iload_n 2, 1) := by decide +kernel
theorem dX9_back_54 : decode cX9_back 54 = .ok (.aload_n 0, 1) := by decide +kernel
theorem dX9_back_55 : decode cX9_back 55 = .ok (.getfield 14, 3) := by decide +kernel
theorem dX9_back_58 : decode cX9_back 58 = .ok (.getfield 85, 3) := by decide +kernel
theorem dX9_back_61 : decode cX9_back 61 = .ok (.getfield 96, 3) := by decide +kernel
theorem dX9_back_64 : decode cX9_back 64 = .ok (.isub, 1) := by decide +kernel
theorem dX9_back_65 : decode cX9_back 65 = .ok (.ireturn, 1) := by decide +kernel
theorem dX9_runs_0 : decode cX9_runs 0 = .ok (.iload_n 1, 1) := by decide +kernel
theorem dX9_runs_1 : decode cX9_runs 1 = .ok (.invokestatic 102, 3) := by decide +kernel
theorem dX9_runs_4 : decode cX9_runs 4 = .ok (.ifCond .eq 10, 3) := by decide +kernel
theorem dX9_runs_7 : decode cX9_runs 7 = .ok (.iload_n 2, 1) := by decide +kernel
theorem dX9_runs_8 : decode cX9_runs 8 = .ok (.invokestatic 123, 3) := by decide +kernel
theorem dX9_runs_11 : decode cX9_runs 11 = .ok (.ifCond .ne 5, 3) := by decide +kernel
theorem dX9_runs_14 : decode cX9_runs 14 = .ok (.iconst (-1), 1) := by decide +kernel
theorem dX9_runs_15 : decode cX9_runs 15 = .ok (.ireturn, 1) := by decide +kernel
theorem dX9_runs_16 : decode cX9_runs 16 = .ok (.aload_n 0, 1) := by decide +kernel
theorem dX9_runs_17 : decode cX9_runs 17 = .ok (.getfield 14, 3) := by decide +kernel
theorem dX9_runs_20 : decode cX9_runs 20 = .ok (.getfield 85, 3) := by decide +kernel
theorem dX9_runs_23 : decode cX9_runs 23 = .ok (.iload_n 1, 1) := by decide +kernel
theorem dX9_runs_24 : decode cX9_runs 24 = .ok (.iload_n 2, 1) := by decide +kernel
theorem dX9_runs_25 : decode cX9_runs 25 = .ok (.invokevirtual 126, 3) := by decide +kernel
theorem dX9_runs_28 : decode cX9_runs 28 = .ok (.aload_n 0, 1) := by decide +kernel
theorem dX9_runs_29 : decode cX9_runs 29 = .ok (.getfield 14, 3) := by decide +kernel
theorem dX9_runs_32 : decode cX9_runs 32 = .ok (.getfield 85, 3) := by decide +kernel
theorem dX9_runs_35 : decode cX9_runs 35 = .ok (.getfield 96, 3) := by decide +kernel
theorem dX9_runs_38 : decode cX9_runs 38 = .ok (.invokevirtual 130, 3) := by decide +kernel
theorem dX9_runs_41 : decode cX9_runs 41 = .ok (.ireturn, 1) := by decide +kernel
theorem dX9_run_0 : decode cX9_run 0 = .ok (.iload_n 1, 1) := by decide +kernel
theorem dX9_run_1 : decode cX9_run 1 = .ok (.invokestatic 102, 3) := by decide +kernel
theorem dX9_run_4 : decode cX9_run 4 = .ok (.ifCond .eq 14, 3) := by decide +kernel
theorem dX9_run_7 : decode cX9_run 7 = .ok (.iload_n 2, 1) := by decide +kernel
theorem dX9_run_8 : decode cX9_run 8 = .ok (.invokestatic 123, 3) := by decide +kernel
theorem dX9_run_11 : decode cX9_run 11 = .ok (.ifCond .eq 7, 3) := by decide +kernel
theorem dX9_run_14 : decode cX9_run 14 = .ok (.iload_n 3, 1) := by decide +kernel
theorem dX9_run_15 : decode cX9_run 15 = .ok (.ifCond .ge 5, 3) := by decide +kernel
theorem dX9_run_18 : decode cX9_run 18 = .ok (.iconst (-1), 1) := by decide +kernel
theorem dX9_run_19 : decode cX9_run 19 = .ok (.ireturn, 1) := by decide +kernel
theorem dX9_run_20 : decode cX9_run 20 = .ok (.aload_n 0, 1) := by decide +kernel
theorem dX9_run_21 : decode cX9_run 21 = .ok (.getfield 14, 3) := by decide +kernel
theorem dX9_run_24 : decode cX9_run 24 = .ok (.getfield 85, 3) := by decide +kernel
theorem dX9_run_27 : decode cX9_run 27 = .ok (.iload_n 1, 1) := by decide +kernel
theorem dX9_run_28 : decode cX9_run 28 = .ok (.iload_n 2, 1) := by decide +kernel
theorem dX9_run_29 : decode cX9_run 29 = .ok (.invokevirtual 126, 3) := by decide +kernel
theorem dX9_run_32 : decode cX9_run 32 = .ok (.astore 4, 2) := by decide +kernel
theorem dX9_run_34 : decode cX9_run 34 = .ok (.aload_n 0, 1) := by decide +kernel
theorem dX9_run_35 : decode cX9_run 35 = .ok (.getfield 14, 3) := by decide +kernel
theorem dX9_run_38 : decode cX9_run 38 = .ok (.getfield 85, 3) := by decide +kernel
theorem dX9_run_41 : decode cX9_run 41 = .ok (.getfield 96, 3) := by decide +kernel
theorem dX9_run_44 : decode cX9_run 44 = .ok (.istore 5, 2) := by decide +kernel
theorem dX9_run_46 : decode cX9_run 46 = .ok (.aload 4, 2) := by decide +kernel
theorem dX9_run_48 : decode cX9_run 48 = .ok (.iload_n 3, 1) := by decide +kernel
theorem dX9_run_49 : decode cX9_run 49 = .ok (.iload 5, 2) := by decide +kernel
theorem dX9_run_51 : decode cX9_run 51 = .ok (.invokevirtual 134, 3) := by decide +kernel
theorem dX9_run_54 : decode cX9_run 54 = .ok (.istore 6, 2) := by decide +kernel
theorem dX9_run_56 : decode cX9_run 56 = .ok (.iload 6, 2) := by decide +kernel
theorem dX9_run_58 : decode cX9_run 58 = .ok (.ifCond .ge 6, 3) := by decide +kernel
theorem dX9_run_61 : decode cX9_run 61 = .ok (.bipush (-5), 2) := by decide +kernel
theorem dX9_run_63 : decode cX9_run 63 = .ok (.ireturn, 1) := by decide +kernel
theorem dX9_run_64 : decode cX9_run 64 = .ok (.aload 4, 2) := by decide +kernel
theorem dX9_run_66 : decode cX9_run 66 = .ok (.iload 6, 2) := by decide +kernel
theorem dX9_run_68 : decode cX9_run 68 = .ok (.iload 5, 2) := by decide +kernel
theorem dX9_run_70 : decode cX9_run 70 = .ok (.invokevirtual 137, 3) := by decide +kernel
theorem dX9_run_73 : decode cX9_run 73 = .ok (.iload 6, 2) := by decide +kernel
theorem dX9_run_75 : decode cX9_run 75 = .ok (.isub, 1) := by decide +kernel
theorem dX9_run_76 : decode cX9_run 76 = .ok (.istore 7, 2) := by decide +kernel
theorem dX9_run_78 : decode cX9_run 78 = .ok (.aload 4, 2) := by decide +kernel
theorem dX9_run_80 : decode cX9_run 80 = .ok (.iload 6, 2) := by decide +kernel
theorem dX9_run_82 : decode cX9_run 82 = .ok (.invokevirtual 140, 3) := by decide +kernel
theorem dX9_run_85 : decode cX9_run 85 = .ok (.ifCond .eq 11, 3) := by decide +kernel
theorem dX9_run_88 : decode cX9_run 88 = .ok (.bipush (-10), 2) := by decide +kernel
theorem dX9_run_90 : decode cX9_run 90 = .ok (.iload 7, 2) := by decide +kernel
theorem dX9_run_92 : decode cX9_run 92 = .ok (.isub, 1) := by decide +kernel
theorem dX9_run_93 : decode cX9_run 93 = .ok (.goto 5, 3) := by decide +kernel
theorem dX9_run_96 : decode cX9_run 96 = .ok (.iload 7, 2) := by decide +kernel
theorem dX9_run_98 : decode cX9_run 98 = .ok (.ireturn, 1) := by decide +kernel
theorem dX9_feed_0 : decode cX9_feed 0 = .ok (.iload_n 1, 1) := by decide +kernel
theorem dX9_feed_1 : decode cX9_feed 1 = .ok (.ifCond .lt 9, 3) := by decide +kernel
theorem dX9_feed_4 : decode cX9_feed 4 = .ok (.iload_n 1, 1) := by decide +kernel
theorem dX9_feed_5 : decode cX9_feed 5 = .ok (.bipush 127, 2) := by decide +kernel
theorem dX9_feed_7 : decode cX9_feed 7 = .ok (.if_icmp .le 6, 3) := by decide +kernel
theorem dX9_feed_10 : decode cX9_feed 10 = .ok (.bipush (-2), 2) := by decide +kernel
theorem dX9_feed_12 : decode cX9_feed 12 = .ok (.ireturn, 1) := by decide +kernel
theorem dX9_feed_13 : decode cX9_feed 13 = .ok (.aload_n 0, 1) := by decide +kernel
theorem dX9_feed_14 : decode cX9_feed 14 = .ok (.getfield 28, 3) := by decide +kernel
theorem dX9_feed_17 : decode cX9_feed 17 = .ok (.getfield 143, 3) := by decide +kernel
theorem dX9_feed_20 : decode cX9_feed 20 = .ok (.bipush 100, 2) := by decide +kernel
theorem dX9_feed_22 : decode cX9_feed 22 = .ok (.if_icmp .lt 6, 3) := by decide +kernel
theorem dX9_feed_25 : decode cX9_feed 25 = .ok (.bipush (-4), 2) := by decide +kernel
theorem dX9_feed_27 : decode cX9_feed 27 = .ok (.ireturn, 1) := by decide +kernel
theorem dX9_feed_28 : decode cX9_feed 28 = .ok (.aload_n 0, 1) := by decide +kernel
theorem dX9_feed_29 : decode cX9_feed 29 = .ok (.getfield 28, 3) := by decide +kernel
theorem dX9_feed_32 : decode cX9_feed 32 = .ok (.iload_n 1, 1) := by decide +kernel
theorem dX9_feed_33 : decode cX9_feed 33 = .ok (.invokevirtual 146, 3) := by decide +kernel
theorem dX9_feed_36 : decode cX9_feed 36 = .ok (.aload_n 0, 1) := by decide +kernel
theorem dX9_feed_37 : decode cX9_feed 37 = .ok (.getfield 28, 3) := by decide +kernel
theorem dX9_feed_40 : decode cX9_feed 40 = .ok (.getfield 143, 3) := by decide +kernel
theorem dX9_feed_43 : decode cX9_feed 43 = .ok (.ireturn, 1) := by decide +kernel
theorem dX9_query_0 : decode cX9_query 0 = .ok (.aload_n 0, 1) := by decide +kernel
theorem dX9_query_1 : decode cX9_query 1 = .ok (.getfield 38, 3) := by decide +kernel
theorem dX9_query_4 : decode cX9_query 4 = .ok (.bipush 8, 2) := by decide +kernel
theorem dX9_query_6 : decode cX9_query 6 = .ok (.if_icmp .lt 6, 3) := by decide +kernel
theorem dX9_query_9 : decode cX9_query 9 = .ok (.bipush (-4), 2) := by decide +kernel
theorem dX9_query_11 : decode cX9_query 11 = .ok (.ireturn, 1) := by decide +kernel
theorem dX9_query_12 : decode cX9_query 12 = .ok (.aload_n 0, 1) := by decide +kernel
theorem dX9_query_13 : decode cX9_query 13 = .ok (.getfield 28, 3) := by decide +kernel
theorem dX9_query_16 : decode cX9_query 16 = .ok (.aload_n 0, 1) := by decide +kernel
theorem dX9_query_17 : decode cX9_query 17 = .ok (.getfield 34, 3) := by decide +kernel
theorem dX9_query_20 : decode cX9_query 20 = .ok (.aload_n 0, 1) := by decide +kernel
theorem dX9_query_21 : decode cX9_query 21 = .ok (.getfield 38, 3) := by decide +kernel
theorem dX9_query_24 : decode cX9_query 24 = .ok (.aaload, 1) := by decide +kernel
theorem dX9_query_25 : decode cX9_query 25 = .ok (.invokevirtual 148, 3) := by decide +kernel
theorem dX9_query_28 : decode cX9_query 28 = .ok (.istore_n 1, 1) := by decide +kernel
theorem dX9_query_29 : decode cX9_query 29 = .ok (.aload_n 0, 1) := by decide +kernel
theorem dX9_query_30 : decode cX9_query 30 = .ok (.getfield 28, 3) := by decide +kernel
theorem dX9_query_33 : decode cX9_query 33 = .ok (.iconst 0, 1) := by decide +kernel
theorem dX9_query_34 : decode cX9_query 34 = .ok (.putfield 143, 3) := by decide +kernel
theorem dX9_query_37 : decode cX9_query 37 = .ok (.iload_n 1, 1) := by decide +kernel
theorem dX9_query_38 : decode cX9_query 38 = .ok (.ifCond .lt 8, 3) := by decide +kernel
theorem dX9_query_41 : decode cX9_query 41 = .ok (.bipush (-10), 2) := by decide +kernel
theorem dX9_query_43 : decode cX9_query 43 = .ok (.iload_n 1, 1) := by decide +kernel
theorem dX9_query_44 : decode cX9_query 44 = .ok (.isub, 1) := by decide +kernel
theorem dX9_query_45 : decode cX9_query 45 = .ok (.ireturn, 1) := by decide +kernel
theorem dX9_query_46 : decode cX9_query 46 = .ok (.aload_n 0, 1) := by decide +kernel
theorem dX9_query_47 : decode cX9_query 47 = .ok (.dup, 1) := by decide +kernel
theorem dX9_query_48 : decode cX9_query 48 = .ok (.getfield 38, 3) := by decide +kernel
theorem dX9_query_51 : decode cX9_query 51 = .ok (.iconst 1, 1) := by decide +kernel
theorem dX9_query_52 : decode cX9_query 52 = .ok (.iadd, 1) := by decide +kernel
theorem dX9_query_53 : decode cX9_query 53 = .ok (.putfield 38, 3) := by decide +kernel
theorem dX9_query_56 : decode cX9_query 56 = .ok (.aload_n 0, 1) := by decide +kernel
theorem dX9_query_57 : decode cX9_query 57 = .ok (.getfield 38, 3) := by decide +kernel
theorem dX9_query_60 : decode cX9_query 60 = .ok (.iconst 1, 1) := by decide +kernel
theorem dX9_query_61 : decode cX9_query 61 = .ok (.isub, 1) := by decide +kernel
theorem dX9_query_62 : decode cX9_query 62 = .ok (.ireturn, 1) := by decide +kernel
theorem dX9_of_0 : decode cX9_of 0 = .ok (.aload_n 0, 1) := by decide +kernel
theorem dX9_of_1 : decode cX9_of 1 = .ok (.iload_n 1, 1) := by decide +kernel
theorem dX9_of_2 : decode cX9_of 2 = .ok (.invokevirtual 152, 3) := by decide +kernel
theorem dX9_of_5 : decode cX9_of 5 = .ok (.ifCond .ne 5, 3) := by decide +kernel
theorem dX9_of_8 : decode cX9_of 8 = .ok (.iconst (-1), 1) := by decide +kernel
theorem dX9_of_9 : decode cX9_of 9 = .ok (.ireturn, 1) := by decide +kernel
theorem dX9_of_10 : decode cX9_of 10 = .ok (.aload_n 0, 1) := by decide +kernel
theorem dX9_of_11 : decode cX9_of 11 = .ok (.getfield 51, 3) := by decide +kernel
theorem dX9_of_14 : decode cX9_of 14 = .ok (.aload_n 0, 1) := by decide +kernel
theorem dX9_of_15 : decode cX9_of 15 = .ok (.getfield 34, 3) := by decide +kernel
theorem dX9_of_18 : decode cX9_of 18 = .ok (.iload_n 1, 1) := by decide +kernel
theorem dX9_of_19 : decode cX9_of 19 = .ok (.aaload, 1) := by decide +kernel
theorem dX9_of_20 : decode cX9_of 20 = .ok (.aload_n 0, 1) := by decide +kernel
theorem dX9_of_21 : decode cX9_of 21 = .ok (.getfield 14, 3) := by decide +kernel
theorem dX9_of_24 : decode cX9_of 24 = .ok (.getfield 85, 3) := by decide +kernel
theorem dX9_of_27 : decode cX9_of 27 = .ok (.invokevirtual 155, 3) := by decide +kernel
theorem dX9_of_30 : decode cX9_of 30 = .ok (.aload_n 0, 1) := by decide +kernel
theorem dX9_of_31 : decode cX9_of 31 = .ok (.getfield 51, 3) := by decide +kernel
theorem dX9_of_34 : decode cX9_of 34 = .ok (.invokevirtual 159, 3) := by decide +kernel
theorem dX9_of_37 : decode cX9_of 37 = .ok (.astore_n 3, 1) := by decide +kernel
theorem dX9_of_38 : decode cX9_of 38 = .ok (.aload_n 0, 1) := by decide +kernel
theorem dX9_of_39 : decode cX9_of 39 = .ok (.getfield 14, 3) := by decide +kernel
theorem dX9_of_42 : decode cX9_of 42 = .ok (.getfield 85, 3) := by decide +kernel
theorem dX9_of_45 : decode cX9_of 45 = .ok (.getfield 96, 3) := by decide +kernel
theorem dX9_of_48 : decode cX9_of 48 = .ok (.istore 4, 2) := by decide +kernel
theorem dX9_of_50 : decode cX9_of 50 = .ok (.iload_n 2, 1) := by decide +kernel
theorem dX9_of_51 : decode cX9_of 51 = .ok (.tableswitch 118 0 7 #[45, 50, 57, 65, 73, 86, 98, 110], 45) := by decide +kernel
theorem dX9_of_96 : decode cX9_of 96 = .ok (.aload_n 3, 1) := by decide +kernel
theorem dX9_of_97 : decode cX9_of 97 = .ok (.invokevirtual 163, 3) := by decide +kernel
theorem dX9_of_100 : decode cX9_of 100 = .ok (.ireturn, 1) := by decide +kernel
theorem dX9_of_101 : decode cX9_of 101 = .ok (.aload_n 3, 1) := by decide +kernel
theorem dX9_of_102 : decode cX9_of 102 = .ok (.iload 4, 2) := by decide +kernel
theorem dX9_of_104 : decode cX9_of 104 = .ok (.invokevirtual 130, 3) := by decide +kernel
theorem dX9_of_107 : decode cX9_of 107 = .ok (.ireturn, 1) := by decide +kernel
theorem dX9_of_108 : decode cX9_of 108 = .ok (.aload_n 0, 1) := by decide +kernel
theorem dX9_of_109 : decode cX9_of 109 = .ok (.getfield 51, 3) := by decide +kernel
theorem dX9_of_112 : decode cX9_of 112 = .ok (.invokevirtual 167, 3) := by decide +kernel
theorem dX9_of_115 : decode cX9_of 115 = .ok (.ireturn, 1) := by decide +kernel
theorem dX9_of_116 : decode cX9_of 116 = .ok (.aload_n 3, 1) := by decide +kernel
theorem dX9_of_117 : decode cX9_of 117 = .ok (.iconst 0, 1) := by decide +kernel
theorem dX9_of_118 : decode cX9_of 118 = .ok (.iload 4, 2) := by decide +kernel
theorem dX9_of_120 : decode cX9_of 120 = .ok (.invokevirtual 170, 3) := by decide +kernel
theorem dX9_of_123 : decode cX9_of 123 = .ok (.ireturn, 1) := by decide +kernel
theorem dX9_of_124 : decode cX9_of 124 = .ok (.aload_n 3, 1) := by decide +kernel
theorem dX9_of_125 : decode cX9_of 125 = .ok (.aload_n 3, 1) := by decide +kernel
theorem dX9_of_126 : decode cX9_of 126 = .ok (.invokevirtual 163, 3) := by decide +kernel
theorem dX9_of_129 : decode cX9_of 129 = .ok (.iconst 1, 1) := by decide +kernel
theorem dX9_of_130 : decode cX9_of 130 = .ok (.isub, 1) := by decide +kernel
theorem dX9_of_131 : decode cX9_of 131 = .ok (.iload 4, 2) := by decide +kernel
theorem dX9_of_133 : decode cX9_of 133 = .ok (.invokevirtual 170, 3) := by decide +kernel
theorem dX9_of_136 : decode cX9_of 136 = .ok (.ireturn, 1) := by decide +kernel
theorem dX9_of_137 : decode cX9_of 137 = .ok (.aload_n 0, 1) := by decide +kernel
theorem dX9_of_138 : decode cX9_of 138 = .ok (.getfield 34, 3) := by decide +kernel
theorem dX9_of_141 : decode cX9_of 141 = .ok (.iload_n 1, 1) := by decide +kernel
theorem dX9_of_142 : decode cX9_of 142 = .ok (.aaload, 1) := by decide +kernel
theorem dX9_of_143 : decode cX9_of 143 = .ok (.iconst 0, 1) := by decide +kernel
theorem dX9_of_144 : decode cX9_of 144 = .ok (.iconst 3, 1) := by decide +kernel
theorem dX9_of_145 : decode cX9_of 145 = .ok (.invokevirtual 173, 3) := by decide +kernel
theorem dX9_of_148 : decode cX9_of 148 = .ok (.ireturn, 1) := by decide +kernel
theorem dX9_of_149 : decode cX9_of 149 = .ok (.aload_n 0, 1) := by decide +kernel
theorem dX9_of_150 : decode cX9_of 150 = .ok (.getfield 34, 3) := by decide +kernel
theorem dX9_of_153 : decode cX9_of 153 = .ok (.iload_n 1, 1) := by decide +kernel
theorem dX9_of_154 : decode cX9_of 154 = .ok (.aaload, 1) := by decide +kernel
theorem dX9_of_155 : decode cX9_of 155 = .ok (.iconst 4, 1) := by decide +kernel
theorem dX9_of_156 : decode cX9_of 156 = .ok (.iconst 4, 1) := by decide +kernel
theorem dX9_of_157 : decode cX9_of 157 = .ok (.invokevirtual 173, 3) := by decide +kernel
theorem dX9_of_160 : decode cX9_of 160 = .ok (.ireturn, 1) := by decide +kernel
theorem dX9_of_161 : decode cX9_of 161 = .ok (.aload_n 0, 1) := by decide +kernel
theorem dX9_of_162 : decode cX9_of 162 = .ok (.getfield 51, 3) := by decide +kernel
theorem dX9_of_165 : decode cX9_of 165 = .ok (.invokevirtual 176, 3) := by decide +kernel
theorem dX9_of_168 : decode cX9_of 168 = .ok (.ireturn, 1) := by decide +kernel
theorem dX9_of_169 : decode cX9_of 169 = .ok (.iconst (-1), 1) := by decide +kernel
theorem dX9_of_170 : decode cX9_of 170 = .ok (.ireturn, 1) := by decide +kernel
theorem dX9_row_0 : decode cX9_row 0 = .ok (.aload_n 0, 1) := by decide +kernel
theorem dX9_row_1 : decode cX9_row 1 = .ok (.iload_n 1, 1) := by decide +kernel
theorem dX9_row_2 : decode cX9_row 2 = .ok (.invokevirtual 152, 3) := by decide +kernel
theorem dX9_row_5 : decode cX9_row 5 = .ok (.ifCond .eq 7, 3) := by decide +kernel
theorem dX9_row_8 : decode cX9_row 8 = .ok (.iload_n 2, 1) := by decide +kernel
theorem dX9_row_9 : decode cX9_row 9 = .ok (.ifCond .ge 5, 3) := by decide +kernel
theorem dX9_row_12 : decode cX9_row 12 = .ok (.iconst (-1), 1) := by decide +kernel
theorem dX9_row_13 : decode cX9_row 13 = .ok (.ireturn, 1) := by decide +kernel
theorem dX9_row_14 : decode cX9_row 14 = .ok (.aload_n 0, 1) := by decide +kernel
theorem dX9_row_15 : decode cX9_row 15 = .ok (.iload_n 1, 1) := by decide +kernel
theorem dX9_row_16 : decode cX9_row 16 = .ok (.invokevirtual 179, 3) := by decide +kernel
theorem dX9_row_19 : decode cX9_row 19 = .ok (.iload_n 2, 1) := by decide +kernel
theorem dX9_row_20 : decode cX9_row 20 = .ok (.aload_n 0, 1) := by decide +kernel
theorem dX9_row_21 : decode cX9_row 21 = .ok (.getfield 14, 3) := by decide +kernel
theorem dX9_row_24 : decode cX9_row 24 = .ok (.getfield 85, 3) := by decide +kernel
theorem dX9_row_27 : decode cX9_row 27 = .ok (.getfield 96, 3) := by decide +kernel
theorem dX9_row_30 : decode cX9_row 30 = .ok (.invokevirtual 170, 3) := by decide +kernel
theorem dX9_row_33 : decode cX9_row 33 = .ok (.ireturn, 1) := by decide +kernel
theorem dX9_group_0 : decode cX9_group 0 = .ok (.aload_n 0, 1) := by decide +kernel
theorem dX9_group_1 : decode cX9_group 1 = .ok (.iload_n 1, 1) := by decide +kernel
theorem dX9_group_2 : decode cX9_group 2 = .ok (.invokevirtual 152, 3) := by decide +kernel
theorem dX9_group_5 : decode cX9_group 5 = .ok (.ifCond .eq 17, 3) := by decide +kernel
theorem dX9_group_8 : decode cX9_group 8 = .ok (.iload_n 2, 1) := by decide +kernel
theorem dX9_group_9 : decode cX9_group 9 = .ok (.invokestatic 102, 3) := by decide +kernel
theorem dX9_group_12 : decode cX9_group 12 = .ok (.ifCond .eq 10, 3) := by decide +kernel
theorem dX9_group_15 : decode cX9_group 15 = .ok (.iload_n 3, 1) := by decide +kernel
theorem dX9_group_16 : decode cX9_group 16 = .ok (.invokestatic 81, 3) := by decide +kernel
theorem dX9_group_19 : decode cX9_group 19 = .ok (.ifCond .ne 5, 3) := by decide +kernel
theorem dX9_group_22 : decode cX9_group 22 = .ok (.iconst (-1), 1) := by decide +kernel
theorem dX9_group_23 : decode cX9_group 23 = .ok (.ireturn, 1) := by decide +kernel
theorem dX9_group_24 : decode cX9_group 24 = .ok (.aload_n 0, 1) := by decide +kernel
theorem dX9_group_25 : decode cX9_group 25 = .ok (.getfield 68, 3) := by decide +kernel
theorem dX9_group_28 : decode cX9_group 28 = .ok (.aload_n 0, 1) := by decide +kernel
theorem dX9_group_29 : decode cX9_group 29 = .ok (.iload_n 1, 1) := by decide +kernel
theorem dX9_group_30 : decode cX9_group 30 = .ok (.invokevirtual 179, 3) := by decide +kernel
theorem dX9_group_33 : decode cX9_group 33 = .ok (.aload_n 0, 1) := by decide +kernel
theorem dX9_group_34 : decode cX9_group 34 = .ok (.getfield 14, 3) := by decide +kernel
theorem dX9_group_37 : decode cX9_group 37 = .ok (.getfield 85, 3) := by decide +kernel
theorem dX9_group_40 : decode cX9_group 40 = .ok (.iload_n 2, 1) := by decide +kernel
theorem dX9_group_41 : decode cX9_group 41 = .ok (.invokevirtual 183, 3) := by decide +kernel
theorem dX9_group_44 : decode cX9_group 44 = .ok (.aload_n 0, 1) := by decide +kernel
theorem dX9_group_45 : decode cX9_group 45 = .ok (.getfield 68, 3) := by decide +kernel
theorem dX9_group_48 : decode cX9_group 48 = .ok (.getfield 187, 3) := by decide +kernel
theorem dX9_group_51 : decode cX9_group 51 = .ok (.iload_n 3, 1) := by decide +kernel
theorem dX9_group_52 : decode cX9_group 52 = .ok (.iaload, 1) := by decide +kernel
theorem dX9_group_53 : decode cX9_group 53 = .ok (.ireturn, 1) := by decide +kernel
theorem dX9_edge_0 : decode cX9_edge 0 = .ok (.aload_n 0, 1) := by decide +kernel
theorem dX9_edge_1 : decode cX9_edge 1 = .ok (.iload_n 1, 1) := by decide +kernel
theorem dX9_edge_2 : decode cX9_edge 2 = .ok (.invokevirtual 152, 3) := by decide +kernel
theorem dX9_edge_5 : decode cX9_edge 5 = .ok (.ifCond .eq 10, 3) := by decide +kernel
theorem dX9_edge_8 : decode cX9_edge 8 = .ok (.iload_n 2, 1) := by decide +kernel
theorem dX9_edge_9 : decode cX9_edge 9 = .ok (.invokestatic 102, 3) := by decide +kernel
theorem dX9_edge_12 : decode cX9_edge 12 = .ok (.ifCond .ne 5, 3) := by decide +kernel
theorem dX9_edge_15 : decode cX9_edge 15 = .ok (.iconst (-1), 1) := by decide +kernel
theorem dX9_edge_16 : decode cX9_edge 16 = .ok (.ireturn, 1) := by decide +kernel
theorem dX9_edge_17 : decode cX9_edge 17 = .ok (.aload_n 0, 1) := by decide +kernel
theorem dX9_edge_18 : decode cX9_edge 18 = .ok (.getfield 68, 3) := by decide +kernel
theorem dX9_edge_21 : decode cX9_edge 21 = .ok (.aload_n 0, 1) := by decide +kernel
theorem dX9_edge_22 : decode cX9_edge 22 = .ok (.iload_n 1, 1) := by decide +kernel
theorem dX9_edge_23 : decode cX9_edge 23 = .ok (.invokevirtual 179, 3) := by decide +kernel
theorem dX9_edge_26 : decode cX9_edge 26 = .ok (.aload_n 0, 1) := by decide +kernel
theorem dX9_edge_27 : decode cX9_edge 27 = .ok (.getfield 14, 3) := by decide +kernel
theorem dX9_edge_30 : decode cX9_edge 30 = .ok (.getfield 85, 3) := by decide +kernel
theorem dX9_edge_33 : decode cX9_edge 33 = .ok (.iload_n 2, 1) := by decide +kernel
theorem dX9_edge_34 : decode cX9_edge 34 = .ok (.invokevirtual 183, 3) := by decide +kernel
theorem dX9_edge_37 : decode cX9_edge 37 = .ok (.iload_n 3, 1) := by decide +kernel
theorem dX9_edge_38 : decode cX9_edge 38 = .ok (.tableswitch 74 0 4 #[34, 42, 50, 58, 66], 34) := by decide +kernel
theorem dX9_edge_72 : decode cX9_edge 72 = .ok (.aload_n 0, 1) := by decide +kernel
theorem dX9_edge_73 : decode cX9_edge 73 = .ok (.getfield 68, 3) := by decide +kernel
theorem dX9_edge_76 : decode cX9_edge 76 = .ok (.invokevirtual 190, 3) := by decide +kernel
theorem dX9_edge_79 : decode cX9_edge 79 = .ok (.ireturn, 1) := by decide +kernel
theorem dX9_edge_80 : decode cX9_edge 80 = .ok (.aload_n 0, 1) := by decide +kernel
theorem dX9_edge_81 : decode cX9_edge 81 = .ok (.getfield 68, 3) := by decide +kernel
theorem dX9_edge_84 : decode cX9_edge 84 = .ok (.invokevirtual 193, 3) := by decide +kernel
theorem dX9_edge_87 : decode cX9_edge 87 = .ok (.ireturn, 1) := by decide +kernel
theorem dX9_edge_88 : decode cX9_edge 88 = .ok (.aload_n 0, 1) := by decide +kernel
theorem dX9_edge_89 : decode cX9_edge 89 = .ok (.getfield 68, 3) := by decide +kernel
theorem dX9_edge_92 : decode cX9_edge 92 = .ok (.invokevirtual 196, 3) := by decide +kernel
theorem dX9_edge_95 : decode cX9_edge 95 = .ok (.ireturn, 1) := by decide +kernel
theorem dX9_edge_96 : decode cX9_edge 96 = .ok (.aload_n 0, 1) := by decide +kernel
theorem dX9_edge_97 : decode cX9_edge 97 = .ok (.getfield 68, 3) := by decide +kernel
theorem dX9_edge_100 : decode cX9_edge 100 = .ok (.invokevirtual 199, 3) := by decide +kernel
theorem dX9_edge_103 : decode cX9_edge 103 = .ok (.ireturn, 1) := by decide +kernel
theorem dX9_edge_104 : decode cX9_edge 104 = .ok (.aload_n 0, 1) := by decide +kernel
theorem dX9_edge_105 : decode cX9_edge 105 = .ok (.getfield 68, 3) := by decide +kernel
theorem dX9_edge_108 : decode cX9_edge 108 = .ok (.invokevirtual 202, 3) := by decide +kernel
theorem dX9_edge_111 : decode cX9_edge 111 = .ok (.ireturn, 1) := by decide +kernel
theorem dX9_edge_112 : decode cX9_edge 112 = .ok (.iconst (-1), 1) := by decide +kernel
theorem dX9_edge_113 : decode cX9_edge 113 = .ok (.ireturn, 1) := by decide +kernel
theorem dX9_two_0 : decode cX9_two 0 = .ok (.aload_n 0, 1) := by decide +kernel
theorem dX9_two_1 : decode cX9_two 1 = .ok (.iload_n 1, 1) := by decide +kernel
theorem dX9_two_2 : decode cX9_two 2 = .ok (.invokevirtual 152, 3) := by decide +kernel
theorem dX9_two_5 : decode cX9_two 5 = .ok (.ifCond .eq 11, 3) := by decide +kernel
theorem dX9_two_8 : decode cX9_two 8 = .ok (.aload_n 0, 1) := by decide +kernel
theorem dX9_two_9 : decode cX9_two 9 = .ok (.iload_n 2, 1) := by decide +kernel
theorem dX9_two_10 : decode cX9_two 10 = .ok (.invokevirtual 152, 3) := by decide +kernel
theorem dX9_two_13 : decode cX9_two 13 = .ok (.ifCond .ne 5, 3) := by decide +kernel
theorem dX9_two_16 : decode cX9_two 16 = .ok (.iconst (-1), 1) := by decide +kernel
theorem dX9_two_17 : decode cX9_two 17 = .ok (.ireturn, 1) := by decide +kernel
theorem dX9_two_18 : decode cX9_two 18 = .ok (.aload_n 0, 1) := by decide +kernel
theorem dX9_two_19 : decode cX9_two 19 = .ok (.getfield 55, 3) := by decide +kernel
theorem dX9_two_22 : decode cX9_two 22 = .ok (.aload_n 0, 1) := by decide +kernel
theorem dX9_two_23 : decode cX9_two 23 = .ok (.getfield 34, 3) := by decide +kernel
theorem dX9_two_26 : decode cX9_two 26 = .ok (.iload_n 2, 1) := by decide +kernel
theorem dX9_two_27 : decode cX9_two 27 = .ok (.aaload, 1) := by decide +kernel
theorem dX9_two_28 : decode cX9_two 28 = .ok (.aload_n 0, 1) := by decide +kernel
theorem dX9_two_29 : decode cX9_two 29 = .ok (.getfield 14, 3) := by decide +kernel
theorem dX9_two_32 : decode cX9_two 32 = .ok (.getfield 85, 3) := by decide +kernel
theorem dX9_two_35 : decode cX9_two 35 = .ok (.invokevirtual 155, 3) := by decide +kernel
theorem dX9_two_38 : decode cX9_two 38 = .ok (.aload_n 0, 1) := by decide +kernel
theorem dX9_two_39 : decode cX9_two 39 = .ok (.iload_n 1, 1) := by decide +kernel
theorem dX9_two_40 : decode cX9_two 40 = .ok (.invokevirtual 179, 3) := by decide +kernel
theorem dX9_two_43 : decode cX9_two 43 = .ok (.astore 4, 2) := by decide +kernel
theorem dX9_two_45 : decode cX9_two 45 = .ok (.aload_n 0, 1) := by decide +kernel
theorem dX9_two_46 : decode cX9_two 46 = .ok (.getfield 55, 3) := by decide +kernel
theorem dX9_two_49 : decode cX9_two 49 = .ok (.invokevirtual 159, 3) := by decide +kernel
theorem dX9_two_52 : decode cX9_two 52 = .ok (.astore 5, 2) := by decide +kernel
theorem dX9_two_54 : decode cX9_two 54 = .ok (.aload_n 0, 1) := by decide +kernel
theorem dX9_two_55 : decode cX9_two 55 = .ok (.getfield 61, 3) := by decide +kernel
theorem dX9_two_58 : decode cX9_two 58 = .ok (.aload 4, 2) := by decide +kernel
theorem dX9_two_60 : decode cX9_two 60 = .ok (.invokevirtual 205, 3) := by decide +kernel
theorem dX9_two_63 : decode cX9_two 63 = .ok (.aload_n 0, 1) := by decide +kernel
theorem dX9_two_64 : decode cX9_two 64 = .ok (.getfield 61, 3) := by decide +kernel
theorem dX9_two_67 : decode cX9_two 67 = .ok (.aload 5, 2) := by decide +kernel
theorem dX9_two_69 : decode cX9_two 69 = .ok (.invokevirtual 209, 3) := by decide +kernel
theorem dX9_two_72 : decode cX9_two 72 = .ok (.aload_n 0, 1) := by decide +kernel
theorem dX9_two_73 : decode cX9_two 73 = .ok (.getfield 61, 3) := by decide +kernel
theorem dX9_two_76 : decode cX9_two 76 = .ok (.invokevirtual 163, 3) := by decide +kernel
theorem dX9_two_79 : decode cX9_two 79 = .ok (.istore 6, 2) := by decide +kernel
theorem dX9_two_81 : decode cX9_two 81 = .ok (.aload 4, 2) := by decide +kernel
theorem dX9_two_83 : decode cX9_two 83 = .ok (.invokevirtual 163, 3) := by decide +kernel
theorem dX9_two_86 : decode cX9_two 86 = .ok (.istore 7, 2) := by decide +kernel
theorem dX9_two_88 : decode cX9_two 88 = .ok (.aload 5, 2) := by decide +kernel
theorem dX9_two_90 : decode cX9_two 90 = .ok (.invokevirtual 163, 3) := by decide +kernel
theorem dX9_two_93 : decode cX9_two 93 = .ok (.istore 8, 2) := by decide +kernel
theorem dX9_two_95 : decode cX9_two 95 = .ok (.iload_n 3, 1) := by decide +kernel
theorem dX9_two_96 : decode cX9_two 96 = .ok (.tableswitch 87 0 4 #[36, 39, 48, 54, 74], 36) := by decide +kernel
theorem dX9_two_132 : decode cX9_two 132 = .ok (.iload 6, 2) := by decide +kernel
theorem dX9_two_134 : decode cX9_two 134 = .ok (.ireturn, 1) := by decide +kernel
theorem dX9_two_135 : decode cX9_two 135 = .ok (.iload 7, 2) := by decide +kernel
theorem dX9_two_137 : decode cX9_two 137 = .ok (.iload 8, 2) := by decide +kernel
theorem dX9_two_139 : decode cX9_two 139 = .ok (.iadd, 1) := by decide +kernel
theorem dX9_two_140 : decode cX9_two 140 = .ok (.iload 6, 2) := by decide +kernel
theorem dX9_two_142 : decode cX9_two 142 = .ok (.isub, 1) := by decide +kernel
theorem dX9_two_143 : decode cX9_two 143 = .ok (.ireturn, 1) := by decide +kernel
theorem dX9_two_144 : decode cX9_two 144 = .ok (.iload 7, 2) := by decide +kernel
theorem dX9_two_146 : decode cX9_two 146 = .ok (.iload 6, 2) := by decide +kernel
theorem dX9_two_148 : decode cX9_two 148 = .ok (.isub, 1) := by decide +kernel
theorem dX9_two_149 : decode cX9_two 149 = .ok (.ireturn, 1) := by decide +kernel
theorem dX9_two_150 : decode cX9_two 150 = .ok (.iload 7, 2) := by decide +kernel
theorem dX9_two_152 : decode cX9_two 152 = .ok (.iload 6, 2) := by decide +kernel
theorem dX9_two_154 : decode cX9_two 154 = .ok (.if_icmp .ne 14, 3) := by decide +kernel
theorem dX9_two_157 : decode cX9_two 157 = .ok (.iload 8, 2) := by decide +kernel
theorem dX9_two_159 : decode cX9_two 159 = .ok (.iload 6, 2) := by decide +kernel
theorem dX9_two_161 : decode cX9_two 161 = .ok (.if_icmp .ne 7, 3) := by decide +kernel
theorem dX9_two_164 : decode cX9_two 164 = .ok (.iconst 1, 1) := by decide +kernel
theorem dX9_two_165 : decode cX9_two 165 = .ok (.goto 4, 3) := by decide +kernel
theorem dX9_two_168 : decode cX9_two 168 = .ok (.iconst 0, 1) := by decide +kernel
theorem dX9_two_169 : decode cX9_two 169 = .ok (.ireturn, 1) := by decide +kernel
theorem dX9_two_170 : decode cX9_two 170 = .ok (.iload 7, 2) := by decide +kernel
theorem dX9_two_172 : decode cX9_two 172 = .ok (.iload 6, 2) := by decide +kernel
theorem dX9_two_174 : decode cX9_two 174 = .ok (.if_icmp .ne 7, 3) := by decide +kernel
theorem dX9_two_177 : decode cX9_two 177 = .ok (.iconst 1, 1) := by decide +kernel
theorem dX9_two_178 : decode cX9_two 178 = .ok (.goto 4, 3) := by decide +kernel
theorem dX9_two_181 : decode cX9_two 181 = .ok (.iconst 0, 1) := by decide +kernel
theorem dX9_two_182 : decode cX9_two 182 = .ok (.ireturn, 1) := by decide +kernel
theorem dX9_two_183 : decode cX9_two 183 = .ok (.iconst (-1), 1) := by decide +kernel
theorem dX9_two_184 : decode cX9_two 184 = .ok (.ireturn, 1) := by decide +kernel
theorem dX9_see_0 : decode cX9_see 0 = .ok (.iload_n 1, 1) := by decide +kernel
theorem dX9_see_1 : decode cX9_see 1 = .ok (.iconst (-1), 1) := by decide +kernel
theorem dX9_see_2 : decode cX9_see 2 = .ok (.if_icmp .ne 16, 3) := by decide +kernel
theorem dX9_see_5 : decode cX9_see 5 = .ok (.aload_n 0, 1) := by decide +kernel
theorem dX9_see_6 : decode cX9_see 6 = .ok (.getfield 14, 3) := by decide +kernel
theorem dX9_see_9 : decode cX9_see 9 = .ok (.getfield 212, 3) := by decide +kernel
theorem dX9_see_12 : decode cX9_see 12 = .ok (.iconst 0, 1) := by decide +kernel
theorem dX9_see_13 : decode cX9_see 13 = .ok (.putfield 216, 3) := by decide +kernel
theorem dX9_see_16 : decode cX9_see 16 = .ok (.iconst 0, 1) := by decide +kernel
theorem dX9_see_17 : decode cX9_see 17 = .ok (.ireturn, 1) := by decide +kernel
theorem dX9_see_18 : decode cX9_see 18 = .ok (.aload_n 0, 1) := by decide +kernel
theorem dX9_see_19 : decode cX9_see 19 = .ok (.getfield 14, 3) := by decide +kernel
theorem dX9_see_22 : decode cX9_see 22 = .ok (.getfield 85, 3) := by decide +kernel
theorem dX9_see_25 : decode cX9_see 25 = .ok (.iload_n 1, 1) := by decide +kernel
theorem dX9_see_26 : decode cX9_see 26 = .ok (.invokevirtual 99, 3) := by decide +kernel
theorem dX9_see_29 : decode cX9_see 29 = .ok (.ifCond .ne 5, 3) := by decide +kernel
theorem dX9_see_32 : decode cX9_see 32 = .ok (.iconst (-1), 1) := by decide +kernel
theorem dX9_see_33 : decode cX9_see 33 = .ok (.ireturn, 1) := by decide +kernel
theorem dX9_see_34 : decode cX9_see 34 = .ok (.aload_n 0, 1) := by decide +kernel
theorem dX9_see_35 : decode cX9_see 35 = .ok (.getfield 14, 3) := by decide +kernel
theorem dX9_see_38 : decode cX9_see 38 = .ok (.getfield 212, 3) := by decide +kernel
theorem dX9_see_41 : decode cX9_see 41 = .ok (.iload_n 1, 1) := by decide +kernel
theorem dX9_see_42 : decode cX9_see 42 = .ok (.iload_n 2, 1) := by decide +kernel
theorem dX9_see_43 : decode cX9_see 43 = .ok (.ifCond .eq 7, 3) := by decide +kernel
theorem dX9_see_46 : decode cX9_see 46 = .ok (.iconst 1, 1) := by decide +kernel
theorem dX9_see_47 : decode cX9_see 47 = .ok (.goto 4, 3) := by decide +kernel
theorem dX9_see_50 : decode cX9_see 50 = .ok (.iconst 0, 1) := by decide +kernel
theorem dX9_see_51 : decode cX9_see 51 = .ok (.invokevirtual 219, 3) := by decide +kernel
theorem dX9_see_54 : decode cX9_see 54 = .ok (.ireturn, 1) := by decide +kernel
theorem dX9_bounds_0 : decode cX9_bounds 0 = .ok (.iload_n 1, 1) := by decide +kernel
theorem dX9_bounds_1 : decode cX9_bounds 1 = .ok (.invokestatic 102, 3) := by decide +kernel
theorem dX9_bounds_4 : decode cX9_bounds 4 = .ok (.ifCond .eq 12, 3) := by decide +kernel
theorem dX9_bounds_7 : decode cX9_bounds 7 = .ok (.iload_n 2, 1) := by decide +kernel
theorem dX9_bounds_8 : decode cX9_bounds 8 = .ok (.ifCond .lt 8, 3) := by decide +kernel
theorem dX9_bounds_11 : decode cX9_bounds 11 = .ok (.iload_n 2, 1) := by decide +kernel
theorem dX9_bounds_12 : decode cX9_bounds 12 = .ok (.iconst 1, 1) := by decide +kernel
theorem dX9_bounds_13 : decode cX9_bounds 13 = .ok (.if_icmp .le 5, 3) := by decide +kernel
theorem dX9_bounds_16 : decode cX9_bounds 16 = .ok (.iconst (-1), 1) := by decide +kernel
theorem dX9_bounds_17 : decode cX9_bounds 17 = .ok (.ireturn, 1) := by decide +kernel
theorem dX9_bounds_18 : decode cX9_bounds 18 = .ok (.bipush (-5), 2) := by decide +kernel
theorem dX9_bounds_20 : decode cX9_bounds 20 = .ok (.istore_n 3, 1) := by decide +kernel
theorem dX9_bounds_21 : decode cX9_bounds 21 = .ok (.iconst 0, 1) := by decide +kernel
theorem dX9_bounds_22 : decode cX9_bounds 22 = .ok (.istore 4, 2) := by decide +kernel
theorem dX9_bounds_24 : decode cX9_bounds 24 = .ok (.bipush 15, 2) := by decide +kernel
theorem dX9_bounds_26 : decode cX9_bounds 26 = .ok (.istore 5, 2) := by decide +kernel
theorem dX9_bounds_28 : decode cX9_bounds 28 = .ok (.iload 5, 2) := by decide +kernel
theorem dX9_bounds_30 : decode cX9_bounds 30 = .ok (.ifCond .lt 28, 3) := by decide +kernel
theorem dX9_bounds_33 : decode cX9_bounds 33 = .ok (.aload_n 0, 1) := by decide +kernel
theorem dX9_bounds_34 : decode cX9_bounds 34 = .ok (.getfield 14, 3) := by decide +kernel
theorem dX9_bounds_37 : decode cX9_bounds 37 = .ok (.iload_n 1, 1) := by decide +kernel
theorem dX9_bounds_38 : decode cX9_bounds 38 = .ok (.iload 5, 2) := by decide +kernel
theorem dX9_bounds_40 : decode cX9_bounds 40 = .ok (.invokevirtual 221, 3) := by decide +kernel
theorem dX9_bounds_43 : decode cX9_bounds 43 = .ok (.ifCond .eq 9, 3) := by decide +kernel
theorem dX9_bounds_46 : decode cX9_bounds 46 = .ok (.iload 5, 2) := by decide +kernel
theorem dX9_bounds_48 : decode cX9_bounds 48 = .ok (.istore_n 3, 1) := by decide +kernel
theorem dX9_bounds_49 : decode cX9_bounds 49 = .ok (.iinc 4 1, 3) := by decide +kernel
theorem dX9_bounds_52 : decode cX9_bounds 52 = .ok (.iinc 5 (-1), 3) := by decide +kernel
theorem dX9_bounds_55 : decode cX9_bounds 55 = .ok (.goto (-27), 3) := by decide +kernel
theorem dX9_bounds_58 : decode cX9_bounds 58 = .ok (.iload_n 2, 1) := by decide +kernel
theorem dX9_bounds_59 : decode cX9_bounds 59 = .ok (.ifCond .ne 8, 3) := by decide +kernel
theorem dX9_bounds_62 : decode cX9_bounds 62 = .ok (.iload 4, 2) := by decide +kernel
theorem dX9_bounds_64 : decode cX9_bounds 64 = .ok (.goto 4, 3) := by decide +kernel
theorem dX9_bounds_67 : decode cX9_bounds 67 = .ok (.iload_n 3, 1) := by decide +kernel
theorem dX9_bounds_68 : decode cX9_bounds 68 = .ok (.ireturn, 1) := by decide +kernel
theorem dX9_odds_0 : decode cX9_odds 0 = .ok (.aload_n 0, 1) := by decide +kernel
theorem dX9_odds_1 : decode cX9_odds 1 = .ok (.iload_n 1, 1) := by decide +kernel
theorem dX9_odds_2 : decode cX9_odds 2 = .ok (.invokevirtual 152, 3) := by decide +kernel
theorem dX9_odds_5 : decode cX9_odds 5 = .ok (.ifCond .eq 10, 3) := by decide +kernel
theorem dX9_odds_8 : decode cX9_odds 8 = .ok (.iload_n 2, 1) := by decide +kernel
theorem dX9_odds_9 : decode cX9_odds 9 = .ok (.invokestatic 225, 3) := by decide +kernel
theorem dX9_odds_12 : decode cX9_odds 12 = .ok (.ifCond .ne 7, 3) := by decide +kernel
theorem dX9_odds_15 : decode cX9_odds 15 = .ok (.ldc2_w 228, 3) := by decide +kernel
theorem dX9_odds_18 : decode cX9_odds 18 = .ok (.lreturn, 1) := by decide +kernel
theorem dX9_odds_19 : decode cX9_odds 19 = .ok (.aload_n 0, 1) := by decide +kernel
theorem dX9_odds_20 : decode cX9_odds 20 = .ok (.iload_n 1, 1) := by decide +kernel
theorem dX9_odds_21 : decode cX9_odds 21 = .ok (.invokevirtual 179, 3) := by decide +kernel
theorem dX9_odds_24 : decode cX9_odds 24 = .ok (.invokevirtual 163, 3) := by decide +kernel
theorem dX9_odds_27 : decode cX9_odds 27 = .ok (.aload_n 0, 1) := by decide +kernel
theorem dX9_odds_28 : decode cX9_odds 28 = .ok (.getfield 14, 3) := by decide +kernel
theorem dX9_odds_31 : decode cX9_odds 31 = .ok (.getfield 85, 3) := by decide +kernel
theorem dX9_odds_34 : decode cX9_odds 34 = .ok (.getfield 96, 3) := by decide +kernel
theorem dX9_odds_37 : decode cX9_odds 37 = .ok (.iload_n 2, 1) := by decide +kernel
theorem dX9_odds_38 : decode cX9_odds 38 = .ok (.invokestatic 230, 3) := by decide +kernel
theorem dX9_odds_41 : decode cX9_odds 41 = .ok (.lreturn, 1) := by decide +kernel
theorem dX9_mean_0 : decode cX9_mean 0 = .ok (.aload_n 0, 1) := by decide +kernel
theorem dX9_mean_1 : decode cX9_mean 1 = .ok (.iload_n 1, 1) := by decide +kernel
theorem dX9_mean_2 : decode cX9_mean 2 = .ok (.invokevirtual 152, 3) := by decide +kernel
theorem dX9_mean_5 : decode cX9_mean 5 = .ok (.ifCond .eq 17, 3) := by decide +kernel
theorem dX9_mean_8 : decode cX9_mean 8 = .ok (.iload_n 2, 1) := by decide +kernel
theorem dX9_mean_9 : decode cX9_mean 9 = .ok (.invokestatic 102, 3) := by decide +kernel
theorem dX9_mean_12 : decode cX9_mean 12 = .ok (.ifCond .eq 10, 3) := by decide +kernel
theorem dX9_mean_15 : decode cX9_mean 15 = .ok (.iload_n 3, 1) := by decide +kernel
theorem dX9_mean_16 : decode cX9_mean 16 = .ok (.invokestatic 225, 3) := by decide +kernel
theorem dX9_mean_19 : decode cX9_mean 19 = .ok (.ifCond .ne 7, 3) := by decide +kernel
theorem dX9_mean_22 : decode cX9_mean 22 = .ok (.ldc2_w 228, 3) := by decide +kernel
theorem dX9_mean_25 : decode cX9_mean 25 = .ok (.lreturn, 1) := by decide +kernel
theorem dX9_mean_26 : decode cX9_mean 26 = .ok (.aload_n 0, 1) := by decide +kernel
theorem dX9_mean_27 : decode cX9_mean 27 = .ok (.getfield 68, 3) := by decide +kernel
theorem dX9_mean_30 : decode cX9_mean 30 = .ok (.aload_n 0, 1) := by decide +kernel
theorem dX9_mean_31 : decode cX9_mean 31 = .ok (.iload_n 1, 1) := by decide +kernel
theorem dX9_mean_32 : decode cX9_mean 32 = .ok (.invokevirtual 179, 3) := by decide +kernel
theorem dX9_mean_35 : decode cX9_mean 35 = .ok (.aload_n 0, 1) := by decide +kernel
theorem dX9_mean_36 : decode cX9_mean 36 = .ok (.getfield 14, 3) := by decide +kernel
theorem dX9_mean_39 : decode cX9_mean 39 = .ok (.getfield 85, 3) := by decide +kernel
theorem dX9_mean_42 : decode cX9_mean 42 = .ok (.iload_n 2, 1) := by decide +kernel
theorem dX9_mean_43 : decode cX9_mean 43 = .ok (.invokevirtual 183, 3) := by decide +kernel
theorem dX9_mean_46 : decode cX9_mean 46 = .ok (.aload_n 0, 1) := by decide +kernel
theorem dX9_mean_47 : decode cX9_mean 47 = .ok (.getfield 68, 3) := by decide +kernel
theorem dX9_mean_50 : decode cX9_mean 50 = .ok (.invokevirtual 234, 3) := by decide +kernel
theorem dX9_mean_53 : decode cX9_mean 53 = .ok (.aload_n 0, 1) := by decide +kernel
theorem dX9_mean_54 : decode cX9_mean 54 = .ok (.getfield 68, 3) := by decide +kernel
theorem dX9_mean_57 : decode cX9_mean 57 = .ok (.getfield 237, 3) := by decide +kernel
theorem dX9_mean_60 : decode cX9_mean 60 = .ok (.iload_n 3, 1) := by decide +kernel
theorem dX9_mean_61 : decode cX9_mean 61 = .ok (.invokestatic 230, 3) := by decide +kernel
theorem dX9_mean_64 : decode cX9_mean 64 = .ok (.lreturn, 1) := by decide +kernel
theorem dX9_plan_0 : decode cX9_plan 0 = .ok (.iload_n 1, 1) := by decide +kernel
theorem dX9_plan_1 : decode cX9_plan 1 = .ok (.iconst (-1), 1) := by decide +kernel
theorem dX9_plan_2 : decode cX9_plan 2 = .ok (.if_icmp .ne 16, 3) := by decide +kernel
theorem dX9_plan_5 : decode cX9_plan 5 = .ok (.aload_n 0, 1) := by decide +kernel
theorem dX9_plan_6 : decode cX9_plan 6 = .ok (.getfield 14, 3) := by decide +kernel
theorem dX9_plan_9 : decode cX9_plan 9 = .ok (.getfield 240, 3) := by decide +kernel
theorem dX9_plan_12 : decode cX9_plan 12 = .ok (.iconst 0, 1) := by decide +kernel
theorem dX9_plan_13 : decode cX9_plan 13 = .ok (.putfield 216, 3) := by decide +kernel
theorem dX9_plan_16 : decode cX9_plan 16 = .ok (.iconst 0, 1) := by decide +kernel
theorem dX9_plan_17 : decode cX9_plan 17 = .ok (.ireturn, 1) := by decide +kernel
theorem dX9_plan_18 : decode cX9_plan 18 = .ok (.iload_n 1, 1) := by decide +kernel
theorem dX9_plan_19 : decode cX9_plan 19 = .ok (.ifCond .lt 8, 3) := by decide +kernel
theorem dX9_plan_22 : decode cX9_plan 22 = .ok (.iload_n 1, 1) := by decide +kernel
theorem dX9_plan_23 : decode cX9_plan 23 = .ok (.iconst 2, 1) := by decide +kernel
theorem dX9_plan_24 : decode cX9_plan 24 = .ok (.if_icmp .le 5, 3) := by decide +kernel
theorem dX9_plan_27 : decode cX9_plan 27 = .ok (.iconst (-1), 1) := by decide +kernel
theorem dX9_plan_28 : decode cX9_plan 28 = .ok (.ireturn, 1) := by decide +kernel
theorem dX9_plan_29 : decode cX9_plan 29 = .ok (.iload_n 1, 1) := by decide +kernel
theorem dX9_plan_30 : decode cX9_plan 30 = .ok (.iconst 1, 1) := by decide +kernel
theorem dX9_plan_31 : decode cX9_plan 31 = .ok (.if_icmp .ne 19, 3) := by decide +kernel
theorem dX9_plan_34 : decode cX9_plan 34 = .ok (.aload_n 0, 1) := by decide +kernel
theorem dX9_plan_35 : decode cX9_plan 35 = .ok (.getfield 14, 3) := by decide +kernel
theorem dX9_plan_38 : decode cX9_plan 38 = .ok (.getfield 85, 3) := by decide +kernel
theorem dX9_plan_41 : decode cX9_plan 41 = .ok (.iload_n 2, 1) := by decide +kernel
theorem dX9_plan_42 : decode cX9_plan 42 = .ok (.invokevirtual 99, 3) := by decide +kernel
theorem dX9_plan_45 : decode cX9_plan 45 = .ok (.ifCond .ne 5, 3) := by decide +kernel
theorem dX9_plan_48 : decode cX9_plan 48 = .ok (.iconst (-1), 1) := by decide +kernel
theorem dX9_plan_49 : decode cX9_plan 49 = .ok (.ireturn, 1) := by decide +kernel
theorem dX9_plan_50 : decode cX9_plan 50 = .ok (.iload_n 1, 1) := by decide +kernel
theorem dX9_plan_51 : decode cX9_plan 51 = .ok (.iconst 2, 1) := by decide +kernel
theorem dX9_plan_52 : decode cX9_plan 52 = .ok (.if_icmp .ne 16, 3) := by decide +kernel
theorem dX9_plan_55 : decode cX9_plan 55 = .ok (.aload_n 0, 1) := by decide +kernel
theorem dX9_plan_56 : decode cX9_plan 56 = .ok (.getfield 14, 3) := by decide +kernel
theorem dX9_plan_59 : decode cX9_plan 59 = .ok (.iload_n 2, 1) := by decide +kernel
theorem dX9_plan_60 : decode cX9_plan 60 = .ok (.invokevirtual 116, 3) := by decide +kernel
theorem dX9_plan_63 : decode cX9_plan 63 = .ok (.ifCond .ne 5, 3) := by decide +kernel
theorem dX9_plan_66 : decode cX9_plan 66 = .ok (.iconst (-1), 1) := by decide +kernel
theorem dX9_plan_67 : decode cX9_plan 67 = .ok (.ireturn, 1) := by decide +kernel
theorem dX9_plan_68 : decode cX9_plan 68 = .ok (.aload_n 0, 1) := by decide +kernel
theorem dX9_plan_69 : decode cX9_plan 69 = .ok (.getfield 14, 3) := by decide +kernel
theorem dX9_plan_72 : decode cX9_plan 72 = .ok (.getfield 240, 3) := by decide +kernel
theorem dX9_plan_75 : decode cX9_plan 75 = .ok (.iload_n 1, 1) := by decide +kernel
theorem dX9_plan_76 : decode cX9_plan 76 = .ok (.iload_n 2, 1) := by decide +kernel
theorem dX9_plan_77 : decode cX9_plan 77 = .ok (.invokevirtual 219, 3) := by decide +kernel
theorem dX9_plan_80 : decode cX9_plan 80 = .ok (.ireturn, 1) := by decide +kernel
theorem dX9_ends_0 : decode cX9_ends 0 = .ok (.aload_n 0, 1) := by decide +kernel
theorem dX9_ends_1 : decode cX9_ends 1 = .ok (.iload_n 1, 1) := by decide +kernel
theorem dX9_ends_2 : decode cX9_ends 2 = .ok (.invokevirtual 152, 3) := by decide +kernel
theorem dX9_ends_5 : decode cX9_ends 5 = .ok (.ifCond .eq 12, 3) := by decide +kernel
theorem dX9_ends_8 : decode cX9_ends 8 = .ok (.iload_n 2, 1) := by decide +kernel
theorem dX9_ends_9 : decode cX9_ends 9 = .ok (.ifCond .lt 8, 3) := by decide +kernel
theorem dX9_ends_12 : decode cX9_ends 12 = .ok (.iload_n 2, 1) := by decide +kernel
theorem dX9_ends_13 : decode cX9_ends 13 = .ok (.iconst 1, 1) := by decide +kernel
theorem dX9_ends_14 : decode cX9_ends 14 = .ok (.if_icmp .le 5, 3) := by decide +kernel
theorem dX9_ends_17 : decode cX9_ends 17 = .ok (.iconst (-1), 1) := by decide +kernel
theorem dX9_ends_18 : decode cX9_ends 18 = .ok (.ireturn, 1) := by decide +kernel
theorem dX9_ends_19 : decode cX9_ends 19 = .ok (.aload_n 0, 1) := by decide +kernel
theorem dX9_ends_20 : decode cX9_ends 20 = .ok (.getfield 14, 3) := by decide +kernel
theorem dX9_ends_23 : decode cX9_ends 23 = .ok (.aload_n 0, 1) := by decide +kernel
theorem dX9_ends_24 : decode cX9_ends 24 = .ok (.getfield 75, 3) := by decide +kernel
theorem dX9_ends_27 : decode cX9_ends 27 = .ok (.invokevirtual 243, 3) := by decide +kernel
theorem dX9_ends_30 : decode cX9_ends 30 = .ok (.aload_n 0, 1) := by decide +kernel
theorem dX9_ends_31 : decode cX9_ends 31 = .ok (.getfield 51, 3) := by decide +kernel
theorem dX9_ends_34 : decode cX9_ends 34 = .ok (.aload_n 0, 1) := by decide +kernel
theorem dX9_ends_35 : decode cX9_ends 35 = .ok (.getfield 34, 3) := by decide +kernel
theorem dX9_ends_38 : decode cX9_ends 38 = .ok (.iload_n 1, 1) := by decide +kernel
theorem dX9_ends_39 : decode cX9_ends 39 = .ok (.aaload, 1) := by decide +kernel
theorem dX9_ends_40 : decode cX9_ends 40 = .ok (.aload_n 0, 1) := by decide +kernel
theorem dX9_ends_41 : decode cX9_ends 41 = .ok (.getfield 75, 3) := by decide +kernel
theorem dX9_ends_44 : decode cX9_ends 44 = .ok (.invokevirtual 155, 3) := by decide +kernel
theorem dX9_ends_47 : decode cX9_ends 47 = .ok (.aload_n 0, 1) := by decide +kernel
theorem dX9_ends_48 : decode cX9_ends 48 = .ok (.getfield 51, 3) := by decide +kernel
theorem dX9_ends_51 : decode cX9_ends 51 = .ok (.invokevirtual 159, 3) := by decide +kernel
theorem dX9_ends_54 : decode cX9_ends 54 = .ok (.astore_n 3, 1) := by decide +kernel
theorem dX9_ends_55 : decode cX9_ends 55 = .ok (.iload_n 2, 1) := by decide +kernel
theorem dX9_ends_56 : decode cX9_ends 56 = .ok (.ifCond .ne 10, 3) := by decide +kernel
theorem dX9_ends_59 : decode cX9_ends 59 = .ok (.aload_n 3, 1) := by decide +kernel
theorem dX9_ends_60 : decode cX9_ends 60 = .ok (.invokevirtual 163, 3) := by decide +kernel
theorem dX9_ends_63 : decode cX9_ends 63 = .ok (.goto 14, 3) := by decide +kernel
theorem dX9_ends_66 : decode cX9_ends 66 = .ok (.aload_n 3, 1) := by decide +kernel
theorem dX9_ends_67 : decode cX9_ends 67 = .ok (.aload_n 0, 1) := by decide +kernel
theorem dX9_ends_68 : decode cX9_ends 68 = .ok (.getfield 75, 3) := by decide +kernel
theorem dX9_ends_71 : decode cX9_ends 71 = .ok (.getfield 96, 3) := by decide +kernel
theorem dX9_ends_74 : decode cX9_ends 74 = .ok (.invokevirtual 130, 3) := by decide +kernel
theorem dX9_ends_77 : decode cX9_ends 77 = .ok (.ireturn, 1) := by decide +kernel
theorem dX9_book_0 : decode cX9_book 0 = .ok (.iload_n 1, 1) := by decide +kernel
theorem dX9_book_1 : decode cX9_book 1 = .ok (.iconst (-1), 1) := by decide +kernel
theorem dX9_book_2 : decode cX9_book 2 = .ok (.if_icmp .ne 16, 3) := by decide +kernel
theorem dX9_book_5 : decode cX9_book 5 = .ok (.aload_n 0, 1) := by decide +kernel
theorem dX9_book_6 : decode cX9_book 6 = .ok (.getfield 14, 3) := by decide +kernel
theorem dX9_book_9 : decode cX9_book 9 = .ok (.getfield 247, 3) := by decide +kernel
theorem dX9_book_12 : decode cX9_book 12 = .ok (.iconst 0, 1) := by decide +kernel
theorem dX9_book_13 : decode cX9_book 13 = .ok (.putfield 216, 3) := by decide +kernel
theorem dX9_book_16 : decode cX9_book 16 = .ok (.iconst 0, 1) := by decide +kernel
theorem dX9_book_17 : decode cX9_book 17 = .ok (.ireturn, 1) := by decide +kernel
theorem dX9_book_18 : decode cX9_book 18 = .ok (.aload_n 0, 1) := by decide +kernel
theorem dX9_book_19 : decode cX9_book 19 = .ok (.iload_n 1, 1) := by decide +kernel
theorem dX9_book_20 : decode cX9_book 20 = .ok (.invokevirtual 152, 3) := by decide +kernel
theorem dX9_book_23 : decode cX9_book 23 = .ok (.ifCond .ne 5, 3) := by decide +kernel
theorem dX9_book_26 : decode cX9_book 26 = .ok (.iconst (-1), 1) := by decide +kernel
theorem dX9_book_27 : decode cX9_book 27 = .ok (.ireturn, 1) := by decide +kernel
theorem dX9_book_28 : decode cX9_book 28 = .ok (.iload_n 2, 1) := by decide +kernel
theorem dX9_book_29 : decode cX9_book 29 = .ok (.ifCond .lt 9, 3) := by decide +kernel
theorem dX9_book_32 : decode cX9_book 32 = .ok (.iload_n 2, 1) := by decide +kernel
theorem dX9_book_33 : decode cX9_book 33 = .ok (.bipush 120, 2) := by decide +kernel
theorem dX9_book_35 : decode cX9_book 35 = .ok (.if_icmp .le 6, 3) := by decide +kernel
theorem dX9_book_38 : decode cX9_book 38 = .ok (.bipush (-2), 2) := by decide +kernel
theorem dX9_book_40 : decode cX9_book 40 = .ok (.ireturn, 1) := by decide +kernel
theorem dX9_book_41 : decode cX9_book 41 = .ok (.aload_n 0, 1) := by decide +kernel
theorem dX9_book_42 : decode cX9_book 42 = .ok (.getfield 14, 3) := by decide +kernel
theorem dX9_book_45 : decode cX9_book 45 = .ok (.getfield 247, 3) := by decide +kernel
theorem dX9_book_48 : decode cX9_book 48 = .ok (.iload_n 1, 1) := by decide +kernel
theorem dX9_book_49 : decode cX9_book 49 = .ok (.iload_n 2, 1) := by decide +kernel
theorem dX9_book_50 : decode cX9_book 50 = .ok (.invokevirtual 219, 3) := by decide +kernel
theorem dX9_book_53 : decode cX9_book 53 = .ok (.ireturn, 1) := by decide +kernel
theorem dX9_looked_0 : decode cX9_looked 0 = .ok (.aload_n 0, 1) := by decide +kernel
theorem dX9_looked_1 : decode cX9_looked 1 = .ok (.getfield 14, 3) := by decide +kernel
theorem dX9_looked_4 : decode cX9_looked 4 = .ok (.getfield 247, 3) := by decide +kernel
theorem dX9_looked_7 : decode cX9_looked 7 = .ok (.astore_n 1, 1) := by decide +kernel
theorem dX9_looked_8 : decode cX9_looked 8 = .ok (.iconst 0, 1) := by decide +kernel
theorem dX9_looked_9 : decode cX9_looked 9 = .ok (.istore_n 2, 1) := by decide +kernel
theorem dX9_looked_10 : decode cX9_looked 10 = .ok (.iload_n 2, 1) := by decide +kernel
theorem dX9_looked_11 : decode cX9_looked 11 = .ok (.aload_n 1, 1) := by decide +kernel
theorem dX9_looked_12 : decode cX9_looked 12 = .ok (.getfield 216, 3) := by decide +kernel
theorem dX9_looked_15 : decode cX9_looked 15 = .ok (.if_icmp .ge 33, 3) := by decide +kernel
theorem dX9_looked_18 : decode cX9_looked 18 = .ok (.aload_n 0, 1) := by decide +kernel
theorem dX9_looked_19 : decode cX9_looked 19 = .ok (.aload_n 1, 1) := by decide +kernel
theorem dX9_looked_20 : decode cX9_looked 20 = .ok (.getfield 250, 3) := by decide +kernel
theorem dX9_looked_23 : decode cX9_looked 23 = .ok (.iload_n 2, 1) := by decide +kernel
theorem dX9_looked_24 : decode cX9_looked 24 = .ok (.iaload, 1) := by decide +kernel
theorem dX9_looked_25 : decode cX9_looked 25 = .ok (.invokevirtual 179, 3) := by decide +kernel
theorem dX9_looked_28 : decode cX9_looked 28 = .ok (.invokevirtual 163, 3) := by decide +kernel
theorem dX9_looked_31 : decode cX9_looked 31 = .ok (.aload_n 1, 1) := by decide +kernel
theorem dX9_looked_32 : decode cX9_looked 32 = .ok (.getfield 253, 3) := by decide +kernel
theorem dX9_looked_35 : decode cX9_looked 35 = .ok (.iload_n 2, 1) := by decide +kernel
theorem dX9_looked_36 : decode cX9_looked 36 = .ok (.iaload, 1) := by decide +kernel
theorem dX9_looked_37 : decode cX9_looked 37 = .ok (.if_icmp .eq 5, 3) := by decide +kernel
theorem dX9_looked_40 : decode cX9_looked 40 = .ok (.iload_n 2, 1) := by decide +kernel
theorem dX9_looked_41 : decode cX9_looked 41 = .ok (.ireturn, 1) := by decide +kernel
theorem dX9_looked_42 : decode cX9_looked 42 = .ok (.iinc 2 1, 3) := by decide +kernel
theorem dX9_looked_45 : decode cX9_looked 45 = .ok (.goto (-35), 3) := by decide +kernel
theorem dX9_looked_48 : decode cX9_looked 48 = .ok (.bipush (-5), 2) := by decide +kernel
theorem dX9_looked_50 : decode cX9_looked 50 = .ok (.ireturn, 1) := by decide +kernel
theorem dX9_judge_0 : decode cX9_judge 0 = .ok (.aload_n 0, 1) := by decide +kernel
theorem dX9_judge_1 : decode cX9_judge 1 = .ok (.iload_n 1, 1) := by decide +kernel
theorem dX9_judge_2 : decode cX9_judge 2 = .ok (.invokevirtual 152, 3) := by decide +kernel
theorem dX9_judge_5 : decode cX9_judge 5 = .ok (.ifCond .eq 10, 3) := by decide +kernel
theorem dX9_judge_8 : decode cX9_judge 8 = .ok (.iload_n 2, 1) := by decide +kernel
theorem dX9_judge_9 : decode cX9_judge 9 = .ok (.invokestatic 256, 3) := by decide +kernel
theorem dX9_judge_12 : decode cX9_judge 12 = .ok (.ifCond .ne 5, 3) := by decide +kernel
theorem dX9_judge_15 : decode cX9_judge 15 = .ok (.iconst (-1), 1) := by decide +kernel
theorem dX9_judge_16 : decode cX9_judge 16 = .ok (.ireturn, 1) := by decide +kernel
theorem dX9_judge_17 : decode cX9_judge 17 = .ok (.aload_n 0, 1) := by decide +kernel
theorem dX9_judge_18 : decode cX9_judge 18 = .ok (.getfield 44, 3) := by decide +kernel
theorem dX9_judge_21 : decode cX9_judge 21 = .ok (.iload_n 2, 1) := by decide +kernel
theorem dX9_judge_22 : decode cX9_judge 22 = .ok (.aaload, 1) := by decide +kernel
theorem dX9_judge_23 : decode cX9_judge 23 = .ok (.astore 4, 2) := by decide +kernel
theorem dX9_judge_25 : decode cX9_judge 25 = .ok (.aload 4, 2) := by decide +kernel
theorem dX9_judge_27 : decode cX9_judge 27 = .ok (.invokevirtual 259, 3) := by decide +kernel
theorem dX9_judge_30 : decode cX9_judge 30 = .ok (.ifCond .ne 15, 3) := by decide +kernel
theorem dX9_judge_33 : decode cX9_judge 33 = .ok (.aload 4, 2) := by decide +kernel
theorem dX9_judge_35 : decode cX9_judge 35 = .ok (.getfield 262, 3) := by decide +kernel
theorem dX9_judge_38 : decode cX9_judge 38 = .ok (.iconst 4, 1) := by decide +kernel
theorem dX9_judge_39 : decode cX9_judge 39 = .ok (.if_icmp .eq 6, 3) := by decide +kernel
theorem dX9_judge_42 : decode cX9_judge 42 = .ok (.bipush (-12), 2) := by decide +kernel
theorem dX9_judge_44 : decode cX9_judge 44 = .ok (.ireturn, 1) := by decide +kernel
theorem dX9_judge_45 : decode cX9_judge 45 = .ok (.aload_n 0, 1) := by decide +kernel
theorem dX9_judge_46 : decode cX9_judge 46 = .ok (.iload_n 1, 1) := by decide +kernel
theorem dX9_judge_47 : decode cX9_judge 47 = .ok (.invokevirtual 179, 3) := by decide +kernel
theorem dX9_judge_50 : decode cX9_judge 50 = .ok (.astore 5, 2) := by decide +kernel
theorem dX9_judge_52 : decode cX9_judge 52 = .ok (.iconst 0, 1) := by decide +kernel
theorem dX9_judge_53 : decode cX9_judge 53 = .ok (.istore 6, 2) := by decide +kernel
theorem dX9_judge_55 : decode cX9_judge 55 = .ok (.iload 6, 2) := by decide +kernel
theorem dX9_judge_57 : decode cX9_judge 57 = .ok (.aload_n 0, 1) := by decide +kernel
theorem dX9_judge_58 : decode cX9_judge 58 = .ok (.getfield 14, 3) := by decide +kernel
theorem dX9_judge_61 : decode cX9_judge 61 = .ok (.getfield 85, 3) := by decide +kernel
theorem dX9_judge_64 : decode cX9_judge 64 = .ok (.getfield 96, 3) := by decide +kernel
theorem dX9_judge_67 : decode cX9_judge 67 = .ok (.if_icmp .ge 65, 3) := by decide +kernel
theorem dX9_judge_70 : decode cX9_judge 70 = .ok (.iload_n 3, 1) := by decide +kernel
theorem dX9_judge_71 : decode cX9_judge 71 = .ok (.ifCond .lt 15, 3) := by decide +kernel
theorem dX9_judge_74 : decode cX9_judge 74 = .ok (.iload_n 3, 1) := by decide +kernel
theorem dX9_judge_75 : decode cX9_judge 75 = .ok (.aload 4, 2) := by decide +kernel
theorem dX9_judge_77 : decode cX9_judge 77 = .ok (.getfield 265, 3) := by decide +kernel
theorem dX9_judge_80 : decode cX9_judge 80 = .ok (.iload 6, 2) := by decide +kernel
theorem dX9_judge_82 : decode cX9_judge 82 = .ok (.isub, 1) := by decide +kernel
theorem dX9_judge_83 : decode cX9_judge 83 = .ok (.if_icmp .lt 10, 3) := by decide +kernel
theorem dX9_judge_86 : decode cX9_judge 86 = .ok (.sipush 1000, 3) := by decide +kernel
theorem dX9_judge_89 : decode cX9_judge 89 = .ok (.iload 6, 2) := by decide +kernel
theorem dX9_judge_91 : decode cX9_judge 91 = .ok (.iadd, 1) := by decide +kernel
theorem dX9_judge_92 : decode cX9_judge 92 = .ok (.ireturn, 1) := by decide +kernel
theorem dX9_judge_93 : decode cX9_judge 93 = .ok (.aload 4, 2) := by decide +kernel
theorem dX9_judge_95 : decode cX9_judge 95 = .ok (.getfield 266, 3) := by decide +kernel
theorem dX9_judge_98 : decode cX9_judge 98 = .ok (.iload_n 3, 1) := by decide +kernel
theorem dX9_judge_99 : decode cX9_judge 99 = .ok (.iload 6, 2) := by decide +kernel
theorem dX9_judge_101 : decode cX9_judge 101 = .ok (.iadd, 1) := by decide +kernel
theorem dX9_judge_102 : decode cX9_judge 102 = .ok (.laload, 1) := by decide +kernel
theorem dX9_judge_103 : decode cX9_judge 103 = .ok (.lconst 0, 1) := by decide +kernel
theorem dX9_judge_104 : decode cX9_judge 104 = .ok (.lcmp, 1) := by decide +kernel
theorem dX9_judge_105 : decode cX9_judge 105 = .ok (.ifCond .eq 7, 3) := by decide +kernel
theorem dX9_judge_108 : decode cX9_judge 108 = .ok (.iconst 1, 1) := by decide +kernel
theorem dX9_judge_109 : decode cX9_judge 109 = .ok (.goto 4, 3) := by decide +kernel
theorem dX9_judge_112 : decode cX9_judge 112 = .ok (.iconst 0, 1) := by decide +kernel
theorem dX9_judge_113 : decode cX9_judge 113 = .ok (.aload 5, 2) := by decide +kernel
theorem dX9_judge_115 : decode cX9_judge 115 = .ok (.iload 6, 2) := by decide +kernel
theorem dX9_judge_117 : decode cX9_judge 117 = .ok (.invokevirtual 140, 3) := by decide +kernel
theorem dX9_judge_120 : decode cX9_judge 120 = .ok (.if_icmp .eq 6, 3) := by decide +kernel
theorem dX9_judge_123 : decode cX9_judge 123 = .ok (.iload 6, 2) := by decide +kernel
theorem dX9_judge_125 : decode cX9_judge 125 = .ok (.ireturn, 1) := by decide +kernel
theorem dX9_judge_126 : decode cX9_judge 126 = .ok (.iinc 6 1, 3) := by decide +kernel
theorem dX9_judge_129 : decode cX9_judge 129 = .ok (.goto (-74), 3) := by decide +kernel
theorem dX9_judge_132 : decode cX9_judge 132 = .ok (.bipush (-5), 2) := by decide +kernel
theorem dX9_judge_134 : decode cX9_judge 134 = .ok (.ireturn, 1) := by decide +kernel
theorem dX9_image_0 : decode cX9_image 0 = .ok (.aload_n 0, 1) := by decide +kernel
theorem dX9_image_1 : decode cX9_image 1 = .ok (.getfield 18, 3) := by decide +kernel
theorem dX9_image_4 : decode cX9_image 4 = .ok (.aload_n 0, 1) := by decide +kernel
theorem dX9_image_5 : decode cX9_image 5 = .ok (.getfield 14, 3) := by decide +kernel
theorem dX9_image_8 : decode cX9_image 8 = .ok (.invokevirtual 270, 3) := by decide +kernel
theorem dX9_image_11 : decode cX9_image 11 = .ok (.aload_n 0, 1) := by decide +kernel
theorem dX9_image_12 : decode cX9_image 12 = .ok (.iconst 1, 1) := by decide +kernel
theorem dX9_image_13 : decode cX9_image 13 = .ok (.putfield 21, 3) := by decide +kernel
theorem dX9_image_16 : decode cX9_image 16 = .ok (.aload_n 0, 1) := by decide +kernel
theorem dX9_image_17 : decode cX9_image 17 = .ok (.getfield 14, 3) := by decide +kernel
theorem dX9_image_20 : decode cX9_image 20 = .ok (.getfield 85, 3) := by decide +kernel
theorem dX9_image_23 : decode cX9_image 23 = .ok (.getfield 96, 3) := by decide +kernel
theorem dX9_image_26 : decode cX9_image 26 = .ok (.ireturn, 1) := by decide +kernel
theorem dX9_undo_0 : decode cX9_undo 0 = .ok (.aload_n 0, 1) := by decide +kernel
theorem dX9_undo_1 : decode cX9_undo 1 = .ok (.getfield 21, 3) := by decide +kernel
theorem dX9_undo_4 : decode cX9_undo 4 = .ok (.ifCond .ne 6, 3) := by decide +kernel
theorem dX9_undo_7 : decode cX9_undo 7 = .ok (.bipush (-3), 2) := by decide +kernel
theorem dX9_undo_9 : decode cX9_undo 9 = .ok (.ireturn, 1) := by decide +kernel
theorem dX9_undo_10 : decode cX9_undo 10 = .ok (.aload_n 0, 1) := by decide +kernel
theorem dX9_undo_11 : decode cX9_undo 11 = .ok (.getfield 14, 3) := by decide +kernel
theorem dX9_undo_14 : decode cX9_undo 14 = .ok (.aload_n 0, 1) := by decide +kernel
theorem dX9_undo_15 : decode cX9_undo 15 = .ok (.getfield 18, 3) := by decide +kernel
theorem dX9_undo_18 : decode cX9_undo 18 = .ok (.invokevirtual 270, 3) := by decide +kernel
theorem dX9_undo_21 : decode cX9_undo 21 = .ok (.aload_n 0, 1) := by decide +kernel
theorem dX9_undo_22 : decode cX9_undo 22 = .ok (.getfield 14, 3) := by decide +kernel
theorem dX9_undo_25 : decode cX9_undo 25 = .ok (.getfield 85, 3) := by decide +kernel
theorem dX9_undo_28 : decode cX9_undo 28 = .ok (.getfield 96, 3) := by decide +kernel
theorem dX9_undo_31 : decode cX9_undo 31 = .ok (.ireturn, 1) := by decide +kernel
theorem dX9_taken_0 : decode cX9_taken 0 = .ok (.iload_n 2, 1) := by decide +kernel
theorem dX9_taken_1 : decode cX9_taken 1 = .ok (.ifCond .lt 9, 3) := by decide +kernel
theorem dX9_taken_4 : decode cX9_taken 4 = .ok (.iload_n 2, 1) := by decide +kernel
theorem dX9_taken_5 : decode cX9_taken 5 = .ok (.bipush 6, 2) := by decide +kernel
theorem dX9_taken_7 : decode cX9_taken 7 = .ok (.if_icmp .le 6, 3) := by decide +kernel
theorem dX9_taken_10 : decode cX9_taken 10 = .ok (.bipush (-2), 2) := by decide +kernel
theorem dX9_taken_12 : decode cX9_taken 12 = .ok (.ireturn, 1) := by decide +kernel
theorem dX9_taken_13 : decode cX9_taken 13 = .ok (.aload_n 0, 1) := by decide +kernel
theorem dX9_taken_14 : decode cX9_taken 14 = .ok (.iload_n 1, 1) := by decide +kernel
theorem dX9_taken_15 : decode cX9_taken 15 = .ok (.invokevirtual 152, 3) := by decide +kernel
theorem dX9_taken_18 : decode cX9_taken 18 = .ok (.ifCond .ne 6, 3) := by decide +kernel
theorem dX9_taken_21 : decode cX9_taken 21 = .ok (.bipush (-11), 2) := by decide +kernel
theorem dX9_taken_23 : decode cX9_taken 23 = .ok (.ireturn, 1) := by decide +kernel
theorem dX9_taken_24 : decode cX9_taken 24 = .ok (.aload_n 0, 1) := by decide +kernel
theorem dX9_taken_25 : decode cX9_taken 25 = .ok (.getfield 34, 3) := by decide +kernel
theorem dX9_taken_28 : decode cX9_taken 28 = .ok (.iload_n 1, 1) := by decide +kernel
theorem dX9_taken_29 : decode cX9_taken 29 = .ok (.aaload, 1) := by decide +kernel
theorem dX9_taken_30 : decode cX9_taken 30 = .ok (.invokevirtual 273, 3) := by decide +kernel
theorem dX9_taken_33 : decode cX9_taken 33 = .ok (.iload_n 2, 1) := by decide +kernel
theorem dX9_taken_34 : decode cX9_taken 34 = .ok (.if_icmp .ne 7, 3) := by decide +kernel
theorem dX9_taken_37 : decode cX9_taken 37 = .ok (.iload_n 2, 1) := by decide +kernel
theorem dX9_taken_38 : decode cX9_taken 38 = .ok (.goto 5, 3) := by decide +kernel
theorem dX9_taken_41 : decode cX9_taken 41 = .ok (.bipush (-12), 2) := by decide +kernel
theorem dX9_taken_43 : decode cX9_taken 43 = .ok (.ireturn, 1) := by decide +kernel
theorem dX9_count_0 : decode cX9_count 0 = .ok (.iload_n 1, 1) := by decide +kernel
theorem dX9_count_1 : decode cX9_count 1 = .ok (.tableswitch 108 0 6 #[43, 54, 62, 67, 78, 89, 100], 43) := by decide +kernel
theorem dX9_count_44 : decode cX9_count 44 = .ok (.aload_n 0, 1) := by decide +kernel
theorem dX9_count_45 : decode cX9_count 45 = .ok (.getfield 14, 3) := by decide +kernel
theorem dX9_count_48 : decode cX9_count 48 = .ok (.getfield 85, 3) := by decide +kernel
theorem dX9_count_51 : decode cX9_count 51 = .ok (.getfield 96, 3) := by decide +kernel
theorem dX9_count_54 : decode cX9_count 54 = .ok (.ireturn, 1) := by decide +kernel
theorem dX9_count_55 : decode cX9_count 55 = .ok (.aload_n 0, 1) := by decide +kernel
theorem dX9_count_56 : decode cX9_count 56 = .ok (.getfield 14, 3) := by decide +kernel
theorem dX9_count_59 : decode cX9_count 59 = .ok (.getfield 109, 3) := by decide +kernel
theorem dX9_count_62 : decode cX9_count 62 = .ok (.ireturn, 1) := by decide +kernel
theorem dX9_count_63 : decode cX9_count 63 = .ok (.aload_n 0, 1) := by decide +kernel
theorem dX9_count_64 : decode cX9_count 64 = .ok (.getfield 38, 3) := by decide +kernel
theorem dX9_count_67 : decode cX9_count 67 = .ok (.ireturn, 1) := by decide +kernel
theorem dX9_count_68 : decode cX9_count 68 = .ok (.aload_n 0, 1) := by decide +kernel
theorem dX9_count_69 : decode cX9_count 69 = .ok (.getfield 14, 3) := by decide +kernel
theorem dX9_count_72 : decode cX9_count 72 = .ok (.getfield 212, 3) := by decide +kernel
theorem dX9_count_75 : decode cX9_count 75 = .ok (.getfield 216, 3) := by decide +kernel
theorem dX9_count_78 : decode cX9_count 78 = .ok (.ireturn, 1) := by decide +kernel
theorem dX9_count_79 : decode cX9_count 79 = .ok (.aload_n 0, 1) := by decide +kernel
theorem dX9_count_80 : decode cX9_count 80 = .ok (.getfield 14, 3) := by decide +kernel
theorem dX9_count_83 : decode cX9_count 83 = .ok (.getfield 240, 3) := by decide +kernel
theorem dX9_count_86 : decode cX9_count 86 = .ok (.getfield 216, 3) := by decide +kernel
theorem dX9_count_89 : decode cX9_count 89 = .ok (.ireturn, 1) := by decide +kernel
theorem dX9_count_90 : decode cX9_count 90 = .ok (.aload_n 0, 1) := by decide +kernel
theorem dX9_count_91 : decode cX9_count 91 = .ok (.getfield 14, 3) := by decide +kernel
theorem dX9_count_94 : decode cX9_count 94 = .ok (.getfield 247, 3) := by decide +kernel
theorem dX9_count_97 : decode cX9_count 97 = .ok (.getfield 216, 3) := by decide +kernel
theorem dX9_count_100 : decode cX9_count 100 = .ok (.ireturn, 1) := by decide +kernel
theorem dX9_count_101 : decode cX9_count 101 = .ok (.aload_n 0, 1) := by decide +kernel
theorem dX9_count_102 : decode cX9_count 102 = .ok (.getfield 28, 3) := by decide +kernel
theorem dX9_count_105 : decode cX9_count 105 = .ok (.getfield 143, 3) := by decide +kernel
theorem dX9_count_108 : decode cX9_count 108 = .ok (.ireturn, 1) := by decide +kernel
theorem dX9_count_109 : decode cX9_count 109 = .ok (.bipush (-2), 2) := by decide +kernel
theorem dX9_count_111 : decode cX9_count 111 = .ok (.ireturn, 1) := by decide +kernel
theorem dX9_tape_0 : decode cX9_tape 0 = .ok (.iload_n 1, 1) := by decide +kernel
theorem dX9_tape_1 : decode cX9_tape 1 = .ok (.invokestatic 256, 3) := by decide +kernel
theorem dX9_tape_4 : decode cX9_tape 4 = .ok (.ifCond .ne 5, 3) := by decide +kernel
theorem dX9_tape_7 : decode cX9_tape 7 = .ok (.iconst (-1), 1) := by decide +kernel
theorem dX9_tape_8 : decode cX9_tape 8 = .ok (.ireturn, 1) := by decide +kernel
theorem dX9_tape_9 : decode cX9_tape 9 = .ok (.iload_n 2, 1) := by decide +kernel
theorem dX9_tape_10 : decode cX9_tape 10 = .ok (.iconst (-1), 1) := by decide +kernel
theorem dX9_tape_11 : decode cX9_tape 11 = .ok (.if_icmp .ne 16, 3) := by decide +kernel
theorem dX9_tape_14 : decode cX9_tape 14 = .ok (.aload_n 0, 1) := by decide +kernel
theorem dX9_tape_15 : decode cX9_tape 15 = .ok (.getfield 44, 3) := by decide +kernel
theorem dX9_tape_18 : decode cX9_tape 18 = .ok (.iload_n 1, 1) := by decide +kernel
theorem dX9_tape_19 : decode cX9_tape 19 = .ok (.aaload, 1) := by decide +kernel
theorem dX9_tape_20 : decode cX9_tape 20 = .ok (.iload_n 2, 1) := by decide +kernel
theorem dX9_tape_21 : decode cX9_tape 21 = .ok (.iconst 0, 1) := by decide +kernel
theorem dX9_tape_22 : decode cX9_tape 22 = .ok (.invokevirtual 276, 3) := by decide +kernel
theorem dX9_tape_25 : decode cX9_tape 25 = .ok (.iconst 1, 1) := by decide +kernel
theorem dX9_tape_26 : decode cX9_tape 26 = .ok (.ireturn, 1) := by decide +kernel
theorem dX9_tape_27 : decode cX9_tape 27 = .ok (.iload_n 2, 1) := by decide +kernel
theorem dX9_tape_28 : decode cX9_tape 28 = .ok (.ifCond .lt 14, 3) := by decide +kernel
theorem dX9_tape_31 : decode cX9_tape 31 = .ok (.iload_n 2, 1) := by decide +kernel
theorem dX9_tape_32 : decode cX9_tape 32 = .ok (.iconst 4, 1) := by decide +kernel
theorem dX9_tape_33 : decode cX9_tape 33 = .ok (.if_icmp .gt 9, 3) := by decide +kernel
theorem dX9_tape_36 : decode cX9_tape 36 = .ok (.iload_n 3, 1) := by decide +kernel
theorem dX9_tape_37 : decode cX9_tape 37 = .ok (.bipush 60, 2) := by decide +kernel
theorem dX9_tape_39 : decode cX9_tape 39 = .ok (.if_icmp .le 6, 3) := by decide +kernel
theorem dX9_tape_42 : decode cX9_tape 42 = .ok (.bipush (-2), 2) := by decide +kernel
theorem dX9_tape_44 : decode cX9_tape 44 = .ok (.ireturn, 1) := by decide +kernel
theorem dX9_tape_45 : decode cX9_tape 45 = .ok (.iload_n 3, 1) := by decide +kernel
theorem dX9_tape_46 : decode cX9_tape 46 = .ok (.ifCond .ge 6, 3) := by decide +kernel
theorem dX9_tape_49 : decode cX9_tape 49 = .ok (.bipush (-14), 2) := by decide +kernel
theorem dX9_tape_51 : decode cX9_tape 51 = .ok (.ireturn, 1) := by decide +kernel
theorem dX9_tape_52 : decode cX9_tape 52 = .ok (.aload_n 0, 1) := by decide +kernel
theorem dX9_tape_53 : decode cX9_tape 53 = .ok (.getfield 44, 3) := by decide +kernel
theorem dX9_tape_56 : decode cX9_tape 56 = .ok (.iload_n 1, 1) := by decide +kernel
theorem dX9_tape_57 : decode cX9_tape 57 = .ok (.aaload, 1) := by decide +kernel
theorem dX9_tape_58 : decode cX9_tape 58 = .ok (.iload_n 2, 1) := by decide +kernel
theorem dX9_tape_59 : decode cX9_tape 59 = .ok (.iload_n 3, 1) := by decide +kernel
theorem dX9_tape_60 : decode cX9_tape 60 = .ok (.invokevirtual 276, 3) := by decide +kernel
theorem dX9_tape_63 : decode cX9_tape 63 = .ok (.iconst 1, 1) := by decide +kernel
theorem dX9_tape_64 : decode cX9_tape 64 = .ok (.ireturn, 1) := by decide +kernel
theorem dX9_item_0 : decode cX9_item 0 = .ok (.iload_n 1, 1) := by decide +kernel
theorem dX9_item_1 : decode cX9_item 1 = .ok (.invokestatic 256, 3) := by decide +kernel
theorem dX9_item_4 : decode cX9_item 4 = .ok (.ifCond .ne 5, 3) := by decide +kernel
theorem dX9_item_7 : decode cX9_item 7 = .ok (.iconst (-1), 1) := by decide +kernel
theorem dX9_item_8 : decode cX9_item 8 = .ok (.ireturn, 1) := by decide +kernel
theorem dX9_item_9 : decode cX9_item 9 = .ok (.aload_n 0, 1) := by decide +kernel
theorem dX9_item_10 : decode cX9_item 10 = .ok (.getfield 44, 3) := by decide +kernel
theorem dX9_item_13 : decode cX9_item 13 = .ok (.iload_n 1, 1) := by decide +kernel
theorem dX9_item_14 : decode cX9_item 14 = .ok (.aaload, 1) := by decide +kernel
theorem dX9_item_15 : decode cX9_item 15 = .ok (.invokevirtual 259, 3) := by decide +kernel
theorem dX9_item_18 : decode cX9_item 18 = .ok (.ifCond .eq 6, 3) := by decide +kernel
theorem dX9_item_21 : decode cX9_item 21 = .ok (.bipush (-11), 2) := by decide +kernel
theorem dX9_item_23 : decode cX9_item 23 = .ok (.ireturn, 1) := by decide +kernel
theorem dX9_item_24 : decode cX9_item 24 = .ok (.aload_n 0, 1) := by decide +kernel
theorem dX9_item_25 : decode cX9_item 25 = .ok (.getfield 44, 3) := by decide +kernel
theorem dX9_item_28 : decode cX9_item 28 = .ok (.iload_n 1, 1) := by decide +kernel
theorem dX9_item_29 : decode cX9_item 29 = .ok (.aaload, 1) := by decide +kernel
theorem dX9_item_30 : decode cX9_item 30 = .ok (.iload_n 2, 1) := by decide +kernel
theorem dX9_item_31 : decode cX9_item 31 = .ok (.invokevirtual 279, 3) := by decide +kernel
theorem dX9_item_34 : decode cX9_item 34 = .ok (.ifCond .ne 6, 3) := by decide +kernel
theorem dX9_item_37 : decode cX9_item 37 = .ok (.bipush (-13), 2) := by decide +kernel
theorem dX9_item_39 : decode cX9_item 39 = .ok (.ireturn, 1) := by decide +kernel
theorem dX9_item_40 : decode cX9_item 40 = .ok (.aload_n 0, 1) := by decide +kernel
theorem dX9_item_41 : decode cX9_item 41 = .ok (.getfield 44, 3) := by decide +kernel
theorem dX9_item_44 : decode cX9_item 44 = .ok (.iload_n 1, 1) := by decide +kernel
theorem dX9_item_45 : decode cX9_item 45 = .ok (.aaload, 1) := by decide +kernel
theorem dX9_item_46 : decode cX9_item 46 = .ok (.iload_n 2, 1) := by decide +kernel
theorem dX9_item_47 : decode cX9_item 47 = .ok (.lload_n 3, 1) := by decide +kernel
theorem dX9_item_48 : decode cX9_item 48 = .ok (.invokevirtual 282, 3) := by decide +kernel
theorem dX9_item_51 : decode cX9_item 51 = .ok (.iconst 1, 1) := by decide +kernel
theorem dX9_item_52 : decode cX9_item 52 = .ok (.ireturn, 1) := by decide +kernel
theorem dX9_read_0 : decode cX9_read 0 = .ok (.iload_n 1, 1) := by decide +kernel
theorem dX9_read_1 : decode cX9_read 1 = .ok (.invokestatic 256, 3) := by decide +kernel
theorem dX9_read_4 : decode cX9_read 4 = .ok (.ifCond .eq 16, 3) := by decide +kernel
theorem dX9_read_7 : decode cX9_read 7 = .ok (.aload_n 0, 1) := by decide +kernel
theorem dX9_read_8 : decode cX9_read 8 = .ok (.getfield 44, 3) := by decide +kernel
theorem dX9_read_11 : decode cX9_read 11 = .ok (.iload_n 1, 1) := by decide +kernel
theorem dX9_read_12 : decode cX9_read 12 = .ok (.aaload, 1) := by decide +kernel
theorem dX9_read_13 : decode cX9_read 13 = .ok (.iload_n 2, 1) := by decide +kernel
theorem dX9_read_14 : decode cX9_read 14 = .ok (.invokevirtual 279, 3) := by decide +kernel
theorem dX9_read_17 : decode cX9_read 17 = .ok (.ifCond .ne 7, 3) := by decide +kernel
theorem dX9_read_20 : decode cX9_read 20 = .ok (.ldc2_w 228, 3) := by decide +kernel
theorem dX9_read_23 : decode cX9_read 23 = .ok (.lreturn, 1) := by decide +kernel
theorem dX9_read_24 : decode cX9_read 24 = .ok (.aload_n 0, 1) := by decide +kernel
theorem dX9_read_25 : decode cX9_read 25 = .ok (.getfield 44, 3) := by decide +kernel
theorem dX9_read_28 : decode cX9_read 28 = .ok (.iload_n 1, 1) := by decide +kernel
theorem dX9_read_29 : decode cX9_read 29 = .ok (.aaload, 1) := by decide +kernel
theorem dX9_read_30 : decode cX9_read 30 = .ok (.getfield 266, 3) := by decide +kernel
theorem dX9_read_33 : decode cX9_read 33 = .ok (.iload_n 2, 1) := by decide +kernel
theorem dX9_read_34 : decode cX9_read 34 = .ok (.laload, 1) := by decide +kernel
theorem dX9_read_35 : decode cX9_read 35 = .ok (.lreturn, 1) := by decide +kernel
theorem dX9_shift_0 : decode cX9_shift 0 = .ok (.iload_n 1, 1) := by decide +kernel
theorem dX9_shift_1 : decode cX9_shift 1 = .ok (.invokestatic 256, 3) := by decide +kernel
theorem dX9_shift_4 : decode cX9_shift 4 = .ok (.ifCond .eq 10, 3) := by decide +kernel
theorem dX9_shift_7 : decode cX9_shift 7 = .ok (.iload_n 3, 1) := by decide +kernel
theorem dX9_shift_8 : decode cX9_shift 8 = .ok (.invokestatic 256, 3) := by decide +kernel
theorem dX9_shift_11 : decode cX9_shift 11 = .ok (.ifCond .ne 5, 3) := by decide +kernel
theorem dX9_shift_14 : decode cX9_shift 14 = .ok (.iconst (-1), 1) := by decide +kernel
theorem dX9_shift_15 : decode cX9_shift 15 = .ok (.ireturn, 1) := by decide +kernel
theorem dX9_shift_16 : decode cX9_shift 16 = .ok (.aload_n 0, 1) := by decide +kernel
theorem dX9_shift_17 : decode cX9_shift 17 = .ok (.getfield 44, 3) := by decide +kernel
theorem dX9_shift_20 : decode cX9_shift 20 = .ok (.iload_n 1, 1) := by decide +kernel
theorem dX9_shift_21 : decode cX9_shift 21 = .ok (.aaload, 1) := by decide +kernel
theorem dX9_shift_22 : decode cX9_shift 22 = .ok (.astore 6, 2) := by decide +kernel
theorem dX9_shift_24 : decode cX9_shift 24 = .ok (.aload_n 0, 1) := by decide +kernel
theorem dX9_shift_25 : decode cX9_shift 25 = .ok (.getfield 44, 3) := by decide +kernel
theorem dX9_shift_28 : decode cX9_shift 28 = .ok (.iload_n 3, 1) := by decide +kernel
theorem dX9_shift_29 : decode cX9_shift 29 = .ok (.aaload, 1) := by decide +kernel
theorem dX9_shift_30 : decode cX9_shift 30 = .ok (.astore 7, 2) := by decide +kernel
theorem dX9_shift_32 : decode cX9_shift 32 = .ok (.aload 6, 2) := by decide +kernel
theorem dX9_shift_34 : decode cX9_shift 34 = .ok (.invokevirtual 259, 3) := by decide +kernel
theorem dX9_shift_37 : decode cX9_shift 37 = .ok (.ifCond .ne 11, 3) := by decide +kernel
theorem dX9_shift_40 : decode cX9_shift 40 = .ok (.aload 7, 2) := by decide +kernel
theorem dX9_shift_42 : decode cX9_shift 42 = .ok (.invokevirtual 259, 3) := by decide +kernel
theorem dX9_shift_45 : decode cX9_shift 45 = .ok (.ifCond .eq 6, 3) := by decide +kernel
theorem dX9_shift_48 : decode cX9_shift 48 = .ok (.bipush (-11), 2) := by decide +kernel
theorem dX9_shift_50 : decode cX9_shift 50 = .ok (.ireturn, 1) := by decide +kernel
theorem dX9_shift_51 : decode cX9_shift 51 = .ok (.aload 6, 2) := by decide +kernel
theorem dX9_shift_53 : decode cX9_shift 53 = .ok (.getfield 262, 3) := by decide +kernel
theorem dX9_shift_56 : decode cX9_shift 56 = .ok (.aload 7, 2) := by decide +kernel
theorem dX9_shift_58 : decode cX9_shift 58 = .ok (.getfield 262, 3) := by decide +kernel
theorem dX9_shift_61 : decode cX9_shift 61 = .ok (.if_icmp .eq 6, 3) := by decide +kernel
theorem dX9_shift_64 : decode cX9_shift 64 = .ok (.bipush (-12), 2) := by decide +kernel
theorem dX9_shift_66 : decode cX9_shift 66 = .ok (.ireturn, 1) := by decide +kernel
theorem dX9_shift_67 : decode cX9_shift 67 = .ok (.aload 6, 2) := by decide +kernel
theorem dX9_shift_69 : decode cX9_shift 69 = .ok (.iload_n 2, 1) := by decide +kernel
theorem dX9_shift_70 : decode cX9_shift 70 = .ok (.iload 5, 2) := by decide +kernel
theorem dX9_shift_72 : decode cX9_shift 72 = .ok (.invokevirtual 286, 3) := by decide +kernel
theorem dX9_shift_75 : decode cX9_shift 75 = .ok (.ifCond .eq 15, 3) := by decide +kernel
theorem dX9_shift_78 : decode cX9_shift 78 = .ok (.aload 7, 2) := by decide +kernel
theorem dX9_shift_80 : decode cX9_shift 80 = .ok (.iload 4, 2) := by decide +kernel
theorem dX9_shift_82 : decode cX9_shift 82 = .ok (.iload 5, 2) := by decide +kernel
theorem dX9_shift_84 : decode cX9_shift 84 = .ok (.invokevirtual 286, 3) := by decide +kernel
theorem dX9_shift_87 : decode cX9_shift 87 = .ok (.ifCond .ne 6, 3) := by decide +kernel
theorem dX9_shift_90 : decode cX9_shift 90 = .ok (.bipush (-13), 2) := by decide +kernel
theorem dX9_shift_92 : decode cX9_shift 92 = .ok (.ireturn, 1) := by decide +kernel
theorem dX9_shift_93 : decode cX9_shift 93 = .ok (.aload 6, 2) := by decide +kernel
theorem dX9_shift_95 : decode cX9_shift 95 = .ok (.getfield 266, 3) := by decide +kernel
theorem dX9_shift_98 : decode cX9_shift 98 = .ok (.iload_n 2, 1) := by decide +kernel
theorem dX9_shift_99 : decode cX9_shift 99 = .ok (.aload 7, 2) := by decide +kernel
theorem dX9_shift_101 : decode cX9_shift 101 = .ok (.getfield 266, 3) := by decide +kernel
theorem dX9_shift_104 : decode cX9_shift 104 = .ok (.iload 4, 2) := by decide +kernel
theorem dX9_shift_106 : decode cX9_shift 106 = .ok (.iload 5, 2) := by decide +kernel
theorem dX9_shift_108 : decode cX9_shift 108 = .ok (.invokestatic 289, 3) := by decide +kernel
theorem dX9_shift_111 : decode cX9_shift 111 = .ok (.iload 5, 2) := by decide +kernel
theorem dX9_shift_113 : decode cX9_shift 113 = .ok (.ireturn, 1) := by decide +kernel
theorem dX9_isValue_0 : decode cX9_isValue 0 = .ok (.iload_n 0, 1) := by decide +kernel
theorem dX9_isValue_1 : decode cX9_isValue 1 = .ok (.ifCond .lt 13, 3) := by decide +kernel
theorem dX9_isValue_4 : decode cX9_isValue 4 = .ok (.iload_n 0, 1) := by decide +kernel
theorem dX9_isValue_5 : decode cX9_isValue 5 = .ok (.bipush 16, 2) := by decide +kernel
theorem dX9_isValue_7 : decode cX9_isValue 7 = .ok (.if_icmp .ge 7, 3) := by decide +kernel
theorem dX9_isValue_10 : decode cX9_isValue 10 = .ok (.iconst 1, 1) := by decide +kernel
theorem dX9_isValue_11 : decode cX9_isValue 11 = .ok (.goto 4, 3) := by decide +kernel
theorem dX9_isValue_14 : decode cX9_isValue 14 = .ok (.iconst 0, 1) := by decide +kernel
theorem dX9_isValue_15 : decode cX9_isValue 15 = .ok (.ireturn, 1) := by decide +kernel
theorem dX9_isKind_0 : decode cX9_isKind 0 = .ok (.iload_n 0, 1) := by decide +kernel
theorem dX9_isKind_1 : decode cX9_isKind 1 = .ok (.ifCond .lt 13, 3) := by decide +kernel
theorem dX9_isKind_4 : decode cX9_isKind 4 = .ok (.iload_n 0, 1) := by decide +kernel
theorem dX9_isKind_5 : decode cX9_isKind 5 = .ok (.bipush 20, 2) := by decide +kernel
theorem dX9_isKind_7 : decode cX9_isKind 7 = .ok (.if_icmp .ge 7, 3) := by decide +kernel
theorem dX9_isKind_10 : decode cX9_isKind 10 = .ok (.iconst 1, 1) := by decide +kernel
theorem dX9_isKind_11 : decode cX9_isKind 11 = .ok (.goto 4, 3) := by decide +kernel
theorem dX9_isKind_14 : decode cX9_isKind 14 = .ok (.iconst 0, 1) := by decide +kernel
theorem dX9_isKind_15 : decode cX9_isKind 15 = .ok (.ireturn, 1) := by decide +kernel
theorem dX9_isColumn_0 : decode cX9_isColumn 0 = .ok (.iload_n 0, 1) := by decide +kernel
theorem dX9_isColumn_1 : decode cX9_isColumn 1 = .ok (.ifCond .lt 12, 3) := by decide +kernel
theorem dX9_isColumn_4 : decode cX9_isColumn 4 = .ok (.iload_n 0, 1) := by decide +kernel
theorem dX9_isColumn_5 : decode cX9_isColumn 5 = .ok (.iconst 4, 1) := by decide +kernel
theorem dX9_isColumn_6 : decode cX9_isColumn 6 = .ok (.if_icmp .ge 7, 3) := by decide +kernel
theorem dX9_isColumn_9 : decode cX9_isColumn 9 = .ok (.iconst 1, 1) := by decide +kernel
theorem dX9_isColumn_10 : decode cX9_isColumn 10 = .ok (.goto 4, 3) := by decide +kernel
theorem dX9_isColumn_13 : decode cX9_isColumn 13 = .ok (.iconst 0, 1) := by decide +kernel
theorem dX9_isColumn_14 : decode cX9_isColumn 14 = .ok (.ireturn, 1) := by decide +kernel
theorem dX9_isPart_0 : decode cX9_isPart 0 = .ok (.iload_n 0, 1) := by decide +kernel
theorem dX9_isPart_1 : decode cX9_isPart 1 = .ok (.ifCond .eq 8, 3) := by decide +kernel
theorem dX9_isPart_4 : decode cX9_isPart 4 = .ok (.iload_n 0, 1) := by decide +kernel
theorem dX9_isPart_5 : decode cX9_isPart 5 = .ok (.iconst 1, 1) := by decide +kernel
theorem dX9_isPart_6 : decode cX9_isPart 6 = .ok (.if_icmp .ne 7, 3) := by decide +kernel
theorem dX9_isPart_9 : decode cX9_isPart 9 = .ok (.iconst 1, 1) := by decide +kernel
theorem dX9_isPart_10 : decode cX9_isPart 10 = .ok (.goto 4, 3) := by decide +kernel
theorem dX9_isPart_13 : decode cX9_isPart 13 = .ok (.iconst 0, 1) := by decide +kernel
theorem dX9_isPart_14 : decode cX9_isPart 14 = .ok (.ireturn, 1) := by decide +kernel
theorem dX9_isTape_0 : decode cX9_isTape 0 = .ok (.iload_n 0, 1) := by decide +kernel
theorem dX9_isTape_1 : decode cX9_isTape 1 = .ok (.ifCond .lt 13, 3) := by decide +kernel
theorem dX9_isTape_4 : decode cX9_isTape 4 = .ok (.iload_n 0, 1) := by decide +kernel
theorem dX9_isTape_5 : decode cX9_isTape 5 = .ok (.bipush 6, 2) := by decide +kernel
theorem dX9_isTape_7 : decode cX9_isTape 7 = .ok (.if_icmp .ge 7, 3) := by decide +kernel
theorem dX9_isTape_10 : decode cX9_isTape 10 = .ok (.iconst 1, 1) := by decide +kernel
theorem dX9_isTape_11 : decode cX9_isTape 11 = .ok (.goto 4, 3) := by decide +kernel
theorem dX9_isTape_14 : decode cX9_isTape 14 = .ok (.iconst 0, 1) := by decide +kernel
theorem dX9_isTape_15 : decode cX9_isTape 15 = .ok (.ireturn, 1) := by decide +kernel
theorem dX9_isQuery_0 : decode cX9_isQuery 0 = .ok (.iload_n 1, 1) := by decide +kernel
theorem dX9_isQuery_1 : decode cX9_isQuery 1 = .ok (.ifCond .lt 15, 3) := by decide +kernel
theorem dX9_isQuery_4 : decode cX9_isQuery 4 = .ok (.iload_n 1, 1) := by decide +kernel
theorem dX9_isQuery_5 : decode cX9_isQuery 5 = .ok (.aload_n 0, 1) := by decide +kernel
theorem dX9_isQuery_6 : decode cX9_isQuery 6 = .ok (.getfield 38, 3) := by decide +kernel
theorem dX9_isQuery_9 : decode cX9_isQuery 9 = .ok (.if_icmp .ge 7, 3) := by decide +kernel
theorem dX9_isQuery_12 : decode cX9_isQuery 12 = .ok (.iconst 1, 1) := by decide +kernel
theorem dX9_isQuery_13 : decode cX9_isQuery 13 = .ok (.goto 4, 3) := by decide +kernel
theorem dX9_isQuery_16 : decode cX9_isQuery 16 = .ok (.iconst 0, 1) := by decide +kernel
theorem dX9_isQuery_17 : decode cX9_isQuery 17 = .ok (.ireturn, 1) := by decide +kernel
theorem dX9_resultOf_0 : decode cX9_resultOf 0 = .ok (.aload_n 0, 1) := by decide +kernel
theorem dX9_resultOf_1 : decode cX9_resultOf 1 = .ok (.getfield 51, 3) := by decide +kernel
theorem dX9_resultOf_4 : decode cX9_resultOf 4 = .ok (.aload_n 0, 1) := by decide +kernel
theorem dX9_resultOf_5 : decode cX9_resultOf 5 = .ok (.getfield 34, 3) := by decide +kernel
theorem dX9_resultOf_8 : decode cX9_resultOf 8 = .ok (.iload_n 1, 1) := by decide +kernel
theorem dX9_resultOf_9 : decode cX9_resultOf 9 = .ok (.aaload, 1) := by decide +kernel
theorem dX9_resultOf_10 : decode cX9_resultOf 10 = .ok (.aload_n 0, 1) := by decide +kernel
theorem dX9_resultOf_11 : decode cX9_resultOf 11 = .ok (.getfield 14, 3) := by decide +kernel
theorem dX9_resultOf_14 : decode cX9_resultOf 14 = .ok (.getfield 85, 3) := by decide +kernel
theorem dX9_resultOf_17 : decode cX9_resultOf 17 = .ok (.invokevirtual 155, 3) := by decide +kernel
theorem dX9_resultOf_20 : decode cX9_resultOf 20 = .ok (.aload_n 0, 1) := by decide +kernel
theorem dX9_resultOf_21 : decode cX9_resultOf 21 = .ok (.getfield 51, 3) := by decide +kernel
theorem dX9_resultOf_24 : decode cX9_resultOf 24 = .ok (.invokevirtual 159, 3) := by decide +kernel
theorem dX9_resultOf_27 : decode cX9_resultOf 27 = .ok (.areturn, 1) := by decide +kernel
theorem dX9_inLowestTerms_0 : decode cX9_inLowestTerms 0 = .ok (.iload_n 0, 1) := by decide +kernel
theorem dX9_inLowestTerms_1 : decode cX9_inLowestTerms 1 = .ok (.iload_n 1, 1) := by decide +kernel
theorem dX9_inLowestTerms_2 : decode cX9_inLowestTerms 2 = .ok (.invokestatic 295, 3) := by decide +kernel
theorem dX9_inLowestTerms_5 : decode cX9_inLowestTerms 5 = .ok (.istore_n 3, 1) := by decide +kernel
theorem dX9_inLowestTerms_6 : decode cX9_inLowestTerms 6 = .ok (.iload_n 1, 1) := by decide +kernel
theorem dX9_inLowestTerms_7 : decode cX9_inLowestTerms 7 = .ok (.ifCond .eq 7, 3) := by decide +kernel
theorem dX9_inLowestTerms_10 : decode cX9_inLowestTerms 10 = .ok (.iload_n 3, 1) := by decide +kernel
theorem dX9_inLowestTerms_11 : decode cX9_inLowestTerms 11 = .ok (.ifCond .ne 7, 3) := by decide +kernel
theorem dX9_inLowestTerms_14 : decode cX9_inLowestTerms 14 = .ok (.ldc2_w 228, 3) := by decide +kernel
theorem dX9_inLowestTerms_17 : decode cX9_inLowestTerms 17 = .ok (.lreturn, 1) := by decide +kernel
theorem dX9_inLowestTerms_18 : decode cX9_inLowestTerms 18 = .ok (.iload_n 2, 1) := by decide +kernel
theorem dX9_inLowestTerms_19 : decode cX9_inLowestTerms 19 = .ok (.ifCond .ne 7, 3) := by decide +kernel
theorem dX9_inLowestTerms_22 : decode cX9_inLowestTerms 22 = .ok (.iload_n 0, 1) := by decide +kernel
theorem dX9_inLowestTerms_23 : decode cX9_inLowestTerms 23 = .ok (.goto 4, 3) := by decide +kernel
theorem dX9_inLowestTerms_26 : decode cX9_inLowestTerms 26 = .ok (.iload_n 1, 1) := by decide +kernel
theorem dX9_inLowestTerms_27 : decode cX9_inLowestTerms 27 = .ok (.iload_n 3, 1) := by decide +kernel
theorem dX9_inLowestTerms_28 : decode cX9_inLowestTerms 28 = .ok (.idiv, 1) := by decide +kernel
theorem dX9_inLowestTerms_29 : decode cX9_inLowestTerms 29 = .ok (.i2l, 1) := by decide +kernel
theorem dX9_inLowestTerms_30 : decode cX9_inLowestTerms 30 = .ok (.lreturn, 1) := by decide +kernel
theorem dX9_greatestDivisor_0 : decode cX9_greatestDivisor 0 = .ok (.iload_n 1, 1) := by decide +kernel
theorem dX9_greatestDivisor_1 : decode cX9_greatestDivisor 1 = .ok (.istore_n 2, 1) := by decide +kernel
theorem dX9_greatestDivisor_2 : decode cX9_greatestDivisor 2 = .ok (.iload_n 0, 1) := by decide +kernel
theorem dX9_greatestDivisor_3 : decode cX9_greatestDivisor 3 = .ok (.istore_n 3, 1) := by decide +kernel
theorem dX9_greatestDivisor_4 : decode cX9_greatestDivisor 4 = .ok (.iconst 0, 1) := by decide +kernel
theorem dX9_greatestDivisor_5 : decode cX9_greatestDivisor 5 = .ok (.istore 4, 2) := by decide +kernel
theorem dX9_greatestDivisor_7 : decode cX9_greatestDivisor 7 = .ok (.iload_n 2, 1) := by decide +kernel
theorem dX9_greatestDivisor_8 : decode cX9_greatestDivisor 8 = .ok (.ifCond .eq 26, 3) := by decide +kernel
theorem dX9_greatestDivisor_11 : decode cX9_greatestDivisor 11 = .ok (.iload 4, 2) := by decide +kernel
theorem dX9_greatestDivisor_13 : decode cX9_greatestDivisor 13 = .ok (.bipush 64, 2) := by decide +kernel
theorem dX9_greatestDivisor_15 : decode cX9_greatestDivisor 15 = .ok (.if_icmp .ge 19, 3) := by decide +kernel
theorem dX9_greatestDivisor_18 : decode cX9_greatestDivisor 18 = .ok (.iload_n 3, 1) := by decide +kernel
theorem dX9_greatestDivisor_19 : decode cX9_greatestDivisor 19 = .ok (.iload_n 2, 1) := by decide +kernel
theorem dX9_greatestDivisor_20 : decode cX9_greatestDivisor 20 = .ok (.irem, 1) := by decide +kernel
theorem dX9_greatestDivisor_21 : decode cX9_greatestDivisor 21 = .ok (.istore 5, 2) := by decide +kernel
theorem dX9_greatestDivisor_23 : decode cX9_greatestDivisor 23 = .ok (.iload_n 2, 1) := by decide +kernel
theorem dX9_greatestDivisor_24 : decode cX9_greatestDivisor 24 = .ok (.istore_n 3, 1) := by decide +kernel
theorem dX9_greatestDivisor_25 : decode cX9_greatestDivisor 25 = .ok (.iload 5, 2) := by decide +kernel
theorem dX9_greatestDivisor_27 : decode cX9_greatestDivisor 27 = .ok (.istore_n 2, 1) := by decide +kernel
theorem dX9_greatestDivisor_28 : decode cX9_greatestDivisor 28 = .ok (.iinc 4 1, 3) := by decide +kernel
theorem dX9_greatestDivisor_31 : decode cX9_greatestDivisor 31 = .ok (.goto (-24), 3) := by decide +kernel
theorem dX9_greatestDivisor_34 : decode cX9_greatestDivisor 34 = .ok (.iload_n 3, 1) := by decide +kernel
theorem dX9_greatestDivisor_35 : decode cX9_greatestDivisor 35 = .ok (.ireturn, 1) := by decide +kernel
