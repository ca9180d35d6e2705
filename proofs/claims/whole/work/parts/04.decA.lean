/-! decode rows (printed by wip/whole/gen/mk04.py) -/
theorem dX0_init_0 : decode cX0_init 0 = .ok (.aload_n 0, 1) := by decide +kernel
theorem dX0_init_1 : decode cX0_init 1 = .ok (.invokespecial 3, 3) := by decide +kernel
theorem dX0_init_4 : decode cX0_init 4 = .ok (.aload_n 0, 1) := by decide +kernel
theorem dX0_init_5 : decode cX0_init 5 = .ok (.lconst 0, 1) := by decide +kernel
theorem dX0_init_6 : decode cX0_init 6 = .ok (.putfield 9, 3) := by decide +kernel
theorem dX0_init_9 : decode cX0_init 9 = .ok (.aload_n 0, 1) := by decide +kernel
theorem dX0_init_10 : decode cX0_init 10 = .ok (.lconst 0, 1) := by decide +kernel
theorem dX0_init_11 : decode cX0_init 11 = .ok (.putfield 15, 3) := by decide +kernel
theorem dX0_init_14 : decode cX0_init 14 = .ok (.return_, 1) := by decide +kernel
theorem dX0_firstOnes_0 : decode cX0_firstOnes 0 = .ok (.iload_n 0, 1) := by decide +kernel
theorem dX0_firstOnes_1 : decode cX0_firstOnes 1 = .ok (.ifCond .gt 5, 3) := by decide +kernel
theorem dX0_firstOnes_4 : decode cX0_firstOnes 4 = .ok (.lconst 0, 1) := by decide +kernel
theorem dX0_firstOnes_5 : decode cX0_firstOnes 5 = .ok (.lreturn, 1) := by decide +kernel
theorem dX0_firstOnes_6 : decode cX0_firstOnes 6 = .ok (.iload_n 0, 1) := by decide +kernel
theorem dX0_firstOnes_7 : decode cX0_firstOnes 7 = .ok (.bipush 64, 2) := by decide +kernel
theorem dX0_firstOnes_9 : decode cX0_firstOnes 9 = .ok (.if_icmp .lt 9, 3) := by decide +kernel
theorem dX0_firstOnes_12 : decode cX0_firstOnes 12 = .ok (.ldc2_w 18, 3) := by decide +kernel
theorem dX0_firstOnes_15 : decode cX0_firstOnes 15 = .ok (.goto 8, 3) := by decide +kernel
theorem dX0_firstOnes_18 : decode cX0_firstOnes 18 = .ok (.lconst 1, 1) := by decide +kernel
theorem dX0_firstOnes_19 : decode cX0_firstOnes 19 = .ok (.iload_n 0, 1) := by decide +kernel
theorem dX0_firstOnes_20 : decode cX0_firstOnes 20 = .ok (.lshl, 1) := by decide +kernel
theorem dX0_firstOnes_21 : decode cX0_firstOnes 21 = .ok (.lconst 1, 1) := by decide +kernel
theorem dX0_firstOnes_22 : decode cX0_firstOnes 22 = .ok (.lsub, 1) := by decide +kernel
theorem dX0_firstOnes_23 : decode cX0_firstOnes 23 = .ok (.lreturn, 1) := by decide +kernel
theorem dX0_has_0 : decode cX0_has 0 = .ok (.iload_n 1, 1) := by decide +kernel
theorem dX0_has_1 : decode cX0_has 1 = .ok (.bipush 64, 2) := by decide +kernel
theorem dX0_has_3 : decode cX0_has 3 = .ok (.if_icmp .ge 10, 3) := by decide +kernel
theorem dX0_has_6 : decode cX0_has 6 = .ok (.aload_n 0, 1) := by decide +kernel
theorem dX0_has_7 : decode cX0_has 7 = .ok (.getfield 9, 3) := by decide +kernel
theorem dX0_has_10 : decode cX0_has 10 = .ok (.goto 7, 3) := by decide +kernel
theorem dX0_has_13 : decode cX0_has 13 = .ok (.aload_n 0, 1) := by decide +kernel
theorem dX0_has_14 : decode cX0_has 14 = .ok (.getfield 15, 3) := by decide +kernel
theorem dX0_has_17 : decode cX0_has 17 = .ok (.lstore_n 2, 1) := by decide +kernel
theorem dX0_has_18 : decode cX0_has 18 = .ok (.lload_n 2, 1) := by decide +kernel
theorem dX0_has_19 : decode cX0_has 19 = .ok (.iload_n 1, 1) := by decide +kernel
theorem dX0_has_20 : decode cX0_has 20 = .ok (.bipush 63, 2) := by decide +kernel
theorem dX0_has_22 : decode cX0_has 22 = .ok (.iand, 1) := by decide +kernel
theorem dX0_has_23 : decode cX0_has 23 = .ok (.lushr, 1) := by decide +kernel
theorem dX0_has_24 : decode cX0_has 24 = .ok (.lconst 1, 1) := by decide +kernel
theorem dX0_has_25 : decode cX0_has 25 = .ok (.land, 1) := by decide +kernel
theorem dX0_has_26 : decode cX0_has 26 = .ok (.lconst 0, 1) := by decide +kernel
theorem dX0_has_27 : decode cX0_has 27 = .ok (.lcmp, 1) := by decide +kernel
theorem dX0_has_28 : decode cX0_has 28 = .ok (.ifCond .eq 7, 3) := by decide +kernel
theorem dX0_has_31 : decode cX0_has 31 = .ok (.iconst 1, 1) := by decide +kernel
theorem dX0_has_32 : decode cX0_has 32 = .ok (.goto 4, 3) := by decide +kernel
theorem dX0_has_35 : decode cX0_has 35 = .ok (.iconst 0, 1) := by decide +kernel
theorem dX0_has_36 : decode cX0_has 36 = .ok (.ireturn, 1) := by decide +kernel
theorem dX0_put_0 : decode cX0_put 0 = .ok (.lconst 1, 1) := by decide +kernel
theorem dX0_put_1 : decode cX0_put 1 = .ok (.iload_n 1, 1) := by decide +kernel
theorem dX0_put_2 : decode cX0_put 2 = .ok (.bipush 63, 2) := by decide +kernel
theorem dX0_put_4 : decode cX0_put 4 = .ok (.iand, 1) := by decide +kernel
theorem dX0_put_5 : decode cX0_put 5 = .ok (.lshl, 1) := by decide +kernel
theorem dX0_put_6 : decode cX0_put 6 = .ok (.lstore_n 2, 1) := by decide +kernel
theorem dX0_put_7 : decode cX0_put 7 = .ok (.iload_n 1, 1) := by decide +kernel
theorem dX0_put_8 : decode cX0_put 8 = .ok (.bipush 64, 2) := by decide +kernel
theorem dX0_put_10 : decode cX0_put 10 = .ok (.if_icmp .ge 16, 3) := by decide +kernel
theorem dX0_put_13 : decode cX0_put 13 = .ok (.aload_n 0, 1) := by decide +kernel
theorem dX0_put_14 : decode cX0_put 14 = .ok (.dup, 1) := by decide +kernel
theorem dX0_put_15 : decode cX0_put 15 = .ok (.getfield 9, 3) := by decide +kernel
theorem dX0_put_18 : decode cX0_put 18 = .ok (.lload_n 2, 1) := by decide +kernel
theorem dX0_put_19 : decode cX0_put 19 = .ok (.lor, 1) := by decide +kernel
theorem dX0_put_20 : decode cX0_put 20 = .ok (.putfield 9, 3) := by decide +kernel
theorem dX0_put_23 : decode cX0_put 23 = .ok (.goto 13, 3) := by decide +kernel
theorem dX0_put_26 : decode cX0_put 26 = .ok (.aload_n 0, 1) := by decide +kernel
theorem dX0_put_27 : decode cX0_put 27 = .ok (.dup, 1) := by decide +kernel
theorem dX0_put_28 : decode cX0_put 28 = .ok (.getfield 15, 3) := by decide +kernel
theorem dX0_put_31 : decode cX0_put 31 = .ok (.lload_n 2, 1) := by decide +kernel
theorem dX0_put_32 : decode cX0_put 32 = .ok (.lor, 1) := by decide +kernel
theorem dX0_put_33 : decode cX0_put 33 = .ok (.putfield 15, 3) := by decide +kernel
theorem dX0_put_36 : decode cX0_put 36 = .ok (.return_, 1) := by decide +kernel
theorem dX0_become_0 : decode cX0_become 0 = .ok (.aload_n 0, 1) := by decide +kernel
theorem dX0_become_1 : decode cX0_become 1 = .ok (.aload_n 1, 1) := by decide +kernel
theorem dX0_become_2 : decode cX0_become 2 = .ok (.getfield 9, 3) := by decide +kernel
theorem dX0_become_5 : decode cX0_become 5 = .ok (.putfield 9, 3) := by decide +kernel
theorem dX0_become_8 : decode cX0_become 8 = .ok (.aload_n 0, 1) := by decide +kernel
theorem dX0_become_9 : decode cX0_become 9 = .ok (.aload_n 1, 1) := by decide +kernel
theorem dX0_become_10 : decode cX0_become 10 = .ok (.getfield 15, 3) := by decide +kernel
theorem dX0_become_13 : decode cX0_become 13 = .ok (.putfield 15, 3) := by decide +kernel
theorem dX0_become_16 : decode cX0_become 16 = .ok (.return_, 1) := by decide +kernel
theorem dX0_becomeOnes_0 : decode cX0_becomeOnes 0 = .ok (.aload_n 0, 1) := by decide +kernel
theorem dX0_becomeOnes_1 : decode cX0_becomeOnes 1 = .ok (.iload_n 1, 1) := by decide +kernel
theorem dX0_becomeOnes_2 : decode cX0_becomeOnes 2 = .ok (.invokestatic 20, 3) := by decide +kernel
theorem dX0_becomeOnes_5 : decode cX0_becomeOnes 5 = .ok (.putfield 9, 3) := by decide +kernel
theorem dX0_becomeOnes_8 : decode cX0_becomeOnes 8 = .ok (.aload_n 0, 1) := by decide +kernel
theorem dX0_becomeOnes_9 : decode cX0_becomeOnes 9 = .ok (.iload_n 1, 1) := by decide +kernel
theorem dX0_becomeOnes_10 : decode cX0_becomeOnes 10 = .ok (.bipush 64, 2) := by decide +kernel
theorem dX0_becomeOnes_12 : decode cX0_becomeOnes 12 = .ok (.isub, 1) := by decide +kernel
theorem dX0_becomeOnes_13 : decode cX0_becomeOnes 13 = .ok (.invokestatic 20, 3) := by decide +kernel
theorem dX0_becomeOnes_16 : decode cX0_becomeOnes 16 = .ok (.putfield 15, 3) := by decide +kernel
theorem dX0_becomeOnes_19 : decode cX0_becomeOnes 19 = .ok (.return_, 1) := by decide +kernel
theorem dX0_becomeZeros_0 : decode cX0_becomeZeros 0 = .ok (.aload_n 0, 1) := by decide +kernel
theorem dX0_becomeZeros_1 : decode cX0_becomeZeros 1 = .ok (.iconst 0, 1) := by decide +kernel
theorem dX0_becomeZeros_2 : decode cX0_becomeZeros 2 = .ok (.invokevirtual 24, 3) := by decide +kernel
theorem dX0_becomeZeros_5 : decode cX0_becomeZeros 5 = .ok (.return_, 1) := by decide +kernel
theorem dX0_cutTo_0 : decode cX0_cutTo 0 = .ok (.aload_n 0, 1) := by decide +kernel
theorem dX0_cutTo_1 : decode cX0_cutTo 1 = .ok (.dup, 1) := by decide +kernel
theorem dX0_cutTo_2 : decode cX0_cutTo 2 = .ok (.getfield 9, 3) := by decide +kernel
theorem dX0_cutTo_5 : decode cX0_cutTo 5 = .ok (.iload_n 1, 1) := by decide +kernel
theorem dX0_cutTo_6 : decode cX0_cutTo 6 = .ok (.invokestatic 20, 3) := by decide +kernel
theorem dX0_cutTo_9 : decode cX0_cutTo 9 = .ok (.land, 1) := by decide +kernel
theorem dX0_cutTo_10 : decode cX0_cutTo 10 = .ok (.putfield 9, 3) := by decide +kernel
theorem dX0_cutTo_13 : decode cX0_cutTo 13 = .ok (.aload_n 0, 1) := by decide +kernel
theorem dX0_cutTo_14 : decode cX0_cutTo 14 = .ok (.dup, 1) := by decide +kernel
theorem dX0_cutTo_15 : decode cX0_cutTo 15 = .ok (.getfield 15, 3) := by decide +kernel
theorem dX0_cutTo_18 : decode cX0_cutTo 18 = .ok (.iload_n 1, 1) := by decide +kernel
theorem dX0_cutTo_19 : decode cX0_cutTo 19 = .ok (.bipush 64, 2) := by decide +kernel
theorem dX0_cutTo_21 : decode cX0_cutTo 21 = .ok (.isub, 1) := by decide +kernel
theorem dX0_cutTo_22 : decode cX0_cutTo 22 = .ok (.invokestatic 20, 3) := by decide +kernel
theorem dX0_cutTo_25 : decode cX0_cutTo 25 = .ok (.land, 1) := by decide +kernel
theorem dX0_cutTo_26 : decode cX0_cutTo 26 = .ok (.putfield 15, 3) := by decide +kernel
theorem dX0_cutTo_29 : decode cX0_cutTo 29 = .ok (.return_, 1) := by decide +kernel
theorem dX0_turn_0 : decode cX0_turn 0 = .ok (.aload_n 0, 1) := by decide +kernel
theorem dX0_turn_1 : decode cX0_turn 1 = .ok (.aload_n 0, 1) := by decide +kernel
theorem dX0_turn_2 : decode cX0_turn 2 = .ok (.getfield 9, 3) := by decide +kernel
theorem dX0_turn_5 : decode cX0_turn 5 = .ok (.ldc2_w 18, 3) := by decide +kernel
theorem dX0_turn_8 : decode cX0_turn 8 = .ok (.lxor, 1) := by decide +kernel
theorem dX0_turn_9 : decode cX0_turn 9 = .ok (.putfield 9, 3) := by decide +kernel
theorem dX0_turn_12 : decode cX0_turn 12 = .ok (.aload_n 0, 1) := by decide +kernel
theorem dX0_turn_13 : decode cX0_turn 13 = .ok (.aload_n 0, 1) := by decide +kernel
theorem dX0_turn_14 : decode cX0_turn 14 = .ok (.getfield 15, 3) := by decide +kernel
theorem dX0_turn_17 : decode cX0_turn 17 = .ok (.ldc2_w 18, 3) := by decide +kernel
theorem dX0_turn_20 : decode cX0_turn 20 = .ok (.lxor, 1) := by decide +kernel
theorem dX0_turn_21 : decode cX0_turn 21 = .ok (.putfield 15, 3) := by decide +kernel
theorem dX0_turn_24 : decode cX0_turn 24 = .ok (.aload_n 0, 1) := by decide +kernel
theorem dX0_turn_25 : decode cX0_turn 25 = .ok (.iload_n 1, 1) := by decide +kernel
theorem dX0_turn_26 : decode cX0_turn 26 = .ok (.invokevirtual 28, 3) := by decide +kernel
theorem dX0_turn_29 : decode cX0_turn 29 = .ok (.return_, 1) := by decide +kernel
theorem dX0_keepThoseOf_0 : decode cX0_keepThoseOf 0 = .ok (.aload_n 0, 1) := by decide +kernel
theorem dX0_keepThoseOf_1 : decode cX0_keepThoseOf 1 = .ok (.dup, 1) := by decide +kernel
theorem dX0_keepThoseOf_2 : decode cX0_keepThoseOf 2 = .ok (.getfield 9, 3) := by decide +kernel
theorem dX0_keepThoseOf_5 : decode cX0_keepThoseOf 5 = .ok (.aload_n 1, 1) := by decide +kernel
theorem dX0_keepThoseOf_6 : decode cX0_keepThoseOf 6 = .ok (.getfield 9, 3) := by decide +kernel
theorem dX0_keepThoseOf_9 : decode cX0_keepThoseOf 9 = .ok (.land, 1) := by decide +kernel
theorem dX0_keepThoseOf_10 : decode cX0_keepThoseOf 10 = .ok (.putfield 9, 3) := by decide +kernel
theorem dX0_keepThoseOf_13 : decode cX0_keepThoseOf 13 = .ok (.aload_n 0, 1) := by decide +kernel
theorem dX0_keepThoseOf_14 : decode cX0_keepThoseOf 14 = .ok (.dup, 1) := by decide +kernel
theorem dX0_keepThoseOf_15 : decode cX0_keepThoseOf 15 = .ok (.getfield 15, 3) := by decide +kernel
theorem dX0_keepThoseOf_18 : decode cX0_keepThoseOf 18 = .ok (.aload_n 1, 1) := by decide +kernel
theorem dX0_keepThoseOf_19 : decode cX0_keepThoseOf 19 = .ok (.getfield 15, 3) := by decide +kernel
theorem dX0_keepThoseOf_22 : decode cX0_keepThoseOf 22 = .ok (.land, 1) := by decide +kernel
theorem dX0_keepThoseOf_23 : decode cX0_keepThoseOf 23 = .ok (.putfield 15, 3) := by decide +kernel
theorem dX0_keepThoseOf_26 : decode cX0_keepThoseOf 26 = .ok (.return_, 1) := by decide +kernel
theorem dX0_takeThoseOf_0 : decode cX0_takeThoseOf 0 = .ok (.aload_n 0, 1) := by decide +kernel
theorem dX0_takeThoseOf_1 : decode cX0_takeThoseOf 1 = .ok (.dup, 1) := by decide +kernel
theorem dX0_takeThoseOf_2 : decode cX0_takeThoseOf 2 = .ok (.getfield 9, 3) := by decide +kernel
theorem dX0_takeThoseOf_5 : decode cX0_takeThoseOf 5 = .ok (.aload_n 1, 1) := by decide +kernel
theorem dX0_takeThoseOf_6 : decode cX0_takeThoseOf 6 = .ok (.getfield 9, 3) := by decide +kernel
theorem dX0_takeThoseOf_9 : decode cX0_takeThoseOf 9 = .ok (.lor, 1) := by decide +kernel
theorem dX0_takeThoseOf_10 : decode cX0_takeThoseOf 10 = .ok (.putfield 9, 3) := by decide +kernel
theorem dX0_takeThoseOf_13 : decode cX0_takeThoseOf 13 = .ok (.aload_n 0, 1) := by decide +kernel
theorem dX0_takeThoseOf_14 : decode cX0_takeThoseOf 14 = .ok (.dup, 1) := by decide +kernel
theorem dX0_takeThoseOf_15 : decode cX0_takeThoseOf 15 = .ok (.getfield 15, 3) := by decide +kernel
theorem dX0_takeThoseOf_18 : decode cX0_takeThoseOf 18 = .ok (.aload_n 1, 1) := by decide +kernel
theorem dX0_takeThoseOf_19 : decode cX0_takeThoseOf 19 = .ok (.getfield 15, 3) := by decide +kernel
theorem dX0_takeThoseOf_22 : decode cX0_takeThoseOf 22 = .ok (.lor, 1) := by decide +kernel
theorem dX0_takeThoseOf_23 : decode cX0_takeThoseOf 23 = .ok (.putfield 15, 3) := by decide +kernel
theorem dX0_takeThoseOf_26 : decode cX0_takeThoseOf 26 = .ok (.return_, 1) := by decide +kernel
theorem dX0_ones_0 : decode cX0_ones 0 = .ok (.aload_n 0, 1) := by decide +kernel
theorem dX0_ones_1 : decode cX0_ones 1 = .ok (.getfield 9, 3) := by decide +kernel
theorem dX0_ones_4 : decode cX0_ones 4 = .ok (.invokestatic 31, 3) := by decide +kernel
theorem dX0_ones_7 : decode cX0_ones 7 = .ok (.aload_n 0, 1) := by decide +kernel
theorem dX0_ones_8 : decode cX0_ones 8 = .ok (.getfield 15, 3) := by decide +kernel
theorem dX0_ones_11 : decode cX0_ones 11 = .ok (.invokestatic 31, 3) := by decide +kernel
theorem dX0_ones_14 : decode cX0_ones 14 = .ok (.iadd, 1) := by decide +kernel
theorem dX0_ones_15 : decode cX0_ones 15 = .ok (.ireturn, 1) := by decide +kernel
theorem dX0_runsWithin_0 : decode cX0_runsWithin 0 = .ok (.iload_n 1, 1) := by decide +kernel
theorem dX0_runsWithin_1 : decode cX0_runsWithin 1 = .ok (.ifCond .gt 5, 3) := by decide +kernel
theorem dX0_runsWithin_4 : decode cX0_runsWithin 4 = .ok (.iconst 0, 1) := by decide +kernel
theorem dX0_runsWithin_5 : decode cX0_runsWithin 5 = .ok (.ireturn, 1) := by decide +kernel
theorem dX0_runsWithin_6 : decode cX0_runsWithin 6 = .ok (.aload_n 0, 1) := by decide +kernel
theorem dX0_runsWithin_7 : decode cX0_runsWithin 7 = .ok (.getfield 9, 3) := by decide +kernel
theorem dX0_runsWithin_10 : decode cX0_runsWithin 10 = .ok (.aload_n 0, 1) := by decide +kernel
theorem dX0_runsWithin_11 : decode cX0_runsWithin 11 = .ok (.getfield 9, 3) := by decide +kernel
theorem dX0_runsWithin_14 : decode cX0_runsWithin 14 = .ok (.iconst 1, 1) := by decide +kernel
theorem dX0_runsWithin_15 : decode cX0_runsWithin 15 = .ok (.lushr, 1) := by decide +kernel
theorem dX0_runsWithin_16 : decode cX0_runsWithin 16 = .ok (.aload_n 0, 1) := by decide +kernel
theorem dX0_runsWithin_17 : decode cX0_runsWithin 17 = .ok (.getfield 15, 3) := by decide +kernel
theorem dX0_runsWithin_20 : decode cX0_runsWithin 20 = .ok (.bipush 63, 2) := by decide +kernel
theorem dX0_runsWithin_22 : decode cX0_runsWithin 22 = .ok (.lshl, 1) := by decide +kernel
theorem dX0_runsWithin_23 : decode cX0_runsWithin 23 = .ok (.lor, 1) := by decide +kernel
theorem dX0_runsWithin_24 : decode cX0_runsWithin 24 = .ok (.lxor, 1) := by decide +kernel
theorem dX0_runsWithin_25 : decode cX0_runsWithin 25 = .ok (.lstore_n 2, 1) := by decide +kernel
theorem dX0_runsWithin_26 : decode cX0_runsWithin 26 = .ok (.aload_n 0, 1) := by decide +kernel
theorem dX0_runsWithin_27 : decode cX0_runsWithin 27 = .ok (.getfield 15, 3) := by decide +kernel
theorem dX0_runsWithin_30 : decode cX0_runsWithin 30 = .ok (.aload_n 0, 1) := by decide +kernel
theorem dX0_runsWithin_31 : decode cX0_runsWithin 31 = .ok (.getfield 15, 3) := by decide +kernel
theorem dX0_runsWithin_34 : decode cX0_runsWithin 34 = .ok (.iconst 1, 1) := by decide +kernel
theorem dX0_runsWithin_35 : decode cX0_runsWithin 35 = .ok (.lushr, 1) := by decide +kernel
theorem dX0_runsWithin_36 : decode cX0_runsWithin 36 = .ok (.lxor, 1) := by decide +kernel
theorem dX0_runsWithin_37 : decode cX0_runsWithin 37 = .ok (.lstore 4, 2) := by decide +kernel
theorem dX0_runsWithin_39 : decode cX0_runsWithin 39 = .ok (.lload_n 2, 1) := by decide +kernel
theorem dX0_runsWithin_40 : decode cX0_runsWithin 40 = .ok (.iload_n 1, 1) := by decide +kernel
theorem dX0_runsWithin_41 : decode cX0_runsWithin 41 = .ok (.iconst 1, 1) := by decide +kernel
theorem dX0_runsWithin_42 : decode cX0_runsWithin 42 = .ok (.isub, 1) := by decide +kernel
theorem dX0_runsWithin_43 : decode cX0_runsWithin 43 = .ok (.invokestatic 20, 3) := by decide +kernel
theorem dX0_runsWithin_46 : decode cX0_runsWithin 46 = .ok (.land, 1) := by decide +kernel
theorem dX0_runsWithin_47 : decode cX0_runsWithin 47 = .ok (.invokestatic 31, 3) := by decide +kernel
theorem dX0_runsWithin_50 : decode cX0_runsWithin 50 = .ok (.lload 4, 2) := by decide +kernel
theorem dX0_runsWithin_52 : decode cX0_runsWithin 52 = .ok (.iload_n 1, 1) := by decide +kernel
theorem dX0_runsWithin_53 : decode cX0_runsWithin 53 = .ok (.iconst 1, 1) := by decide +kernel
theorem dX0_runsWithin_54 : decode cX0_runsWithin 54 = .ok (.isub, 1) := by decide +kernel
theorem dX0_runsWithin_55 : decode cX0_runsWithin 55 = .ok (.bipush 64, 2) := by decide +kernel
theorem dX0_runsWithin_57 : decode cX0_runsWithin 57 = .ok (.isub, 1) := by decide +kernel
theorem dX0_runsWithin_58 : decode cX0_runsWithin 58 = .ok (.invokestatic 20, 3) := by decide +kernel
theorem dX0_runsWithin_61 : decode cX0_runsWithin 61 = .ok (.land, 1) := by decide +kernel
theorem dX0_runsWithin_62 : decode cX0_runsWithin 62 = .ok (.invokestatic 31, 3) := by decide +kernel
theorem dX0_runsWithin_65 : decode cX0_runsWithin 65 = .ok (.iadd, 1) := by decide +kernel
theorem dX0_runsWithin_66 : decode cX0_runsWithin 66 = .ok (.istore 6, 2) := by decide +kernel
theorem dX0_runsWithin_68 : decode cX0_runsWithin 68 = .ok (.iload 6, 2) := by decide +kernel
theorem dX0_runsWithin_70 : decode cX0_runsWithin 70 = .ok (.iconst 1, 1) := by decide +kernel
theorem dX0_runsWithin_71 : decode cX0_runsWithin 71 = .ok (.iadd, 1) := by decide +kernel
theorem dX0_runsWithin_72 : decode cX0_runsWithin 72 = .ok (.ireturn, 1) := by decide +kernel
theorem dX0_endOfRun_0 : decode cX0_endOfRun 0 = .ok (.iload_n 1, 1) := by decide +kernel
theorem dX0_endOfRun_1 : decode cX0_endOfRun 1 = .ok (.iconst 1, 1) := by decide +kernel
theorem dX0_endOfRun_2 : decode cX0_endOfRun 2 = .ok (.iadd, 1) := by decide +kernel
theorem dX0_endOfRun_3 : decode cX0_endOfRun 3 = .ok (.istore_n 3, 1) := by decide +kernel
theorem dX0_endOfRun_4 : decode cX0_endOfRun 4 = .ok (.iload_n 3, 1) := by decide +kernel
theorem dX0_endOfRun_5 : decode cX0_endOfRun 5 = .ok (.iload_n 2, 1) := by decide +kernel
theorem dX0_endOfRun_6 : decode cX0_endOfRun 6 = .ok (.if_icmp .ge 22, 3) := by decide +kernel
theorem dX0_endOfRun_9 : decode cX0_endOfRun 9 = .ok (.aload_n 0, 1) := by decide +kernel
theorem dX0_endOfRun_10 : decode cX0_endOfRun 10 = .ok (.iload_n 3, 1) := by decide +kernel
theorem dX0_endOfRun_11 : decode cX0_endOfRun 11 = .ok (.invokevirtual 37, 3) := by decide +kernel
theorem dX0_endOfRun_14 : decode cX0_endOfRun 14 = .ok (.aload_n 0, 1) := by decide +kernel
theorem dX0_endOfRun_15 : decode cX0_endOfRun 15 = .ok (.iload_n 1, 1) := by decide +kernel
theorem dX0_endOfRun_16 : decode cX0_endOfRun 16 = .ok (.invokevirtual 37, 3) := by decide +kernel
theorem dX0_endOfRun_19 : decode cX0_endOfRun 19 = .ok (.if_icmp .ne 9, 3) := by decide +kernel
theorem dX0_endOfRun_22 : decode cX0_endOfRun 22 = .ok (.iinc 3 1, 3) := by decide +kernel
theorem dX0_endOfRun_25 : decode cX0_endOfRun 25 = .ok (.goto (-21), 3) := by decide +kernel
theorem dX0_endOfRun_28 : decode cX0_endOfRun 28 = .ok (.iload_n 3, 1) := by decide +kernel
theorem dX0_endOfRun_29 : decode cX0_endOfRun 29 = .ok (.ireturn, 1) := by decide +kernel
theorem dX0_startOfRun_0 : decode cX0_startOfRun 0 = .ok (.iload_n 1, 1) := by decide +kernel
theorem dX0_startOfRun_1 : decode cX0_startOfRun 1 = .ok (.aload_n 0, 1) := by decide +kernel
theorem dX0_startOfRun_2 : decode cX0_startOfRun 2 = .ok (.iload_n 2, 1) := by decide +kernel
theorem dX0_startOfRun_3 : decode cX0_startOfRun 3 = .ok (.invokevirtual 41, 3) := by decide +kernel
theorem dX0_startOfRun_6 : decode cX0_startOfRun 6 = .ok (.if_icmp .lt 6, 3) := by decide +kernel
theorem dX0_startOfRun_9 : decode cX0_startOfRun 9 = .ok (.bipush (-5), 2) := by decide +kernel
theorem dX0_startOfRun_11 : decode cX0_startOfRun 11 = .ok (.ireturn, 1) := by decide +kernel
theorem dX0_startOfRun_12 : decode cX0_startOfRun 12 = .ok (.iconst 0, 1) := by decide +kernel
theorem dX0_startOfRun_13 : decode cX0_startOfRun 13 = .ok (.istore_n 3, 1) := by decide +kernel
theorem dX0_startOfRun_14 : decode cX0_startOfRun 14 = .ok (.iconst 0, 1) := by decide +kernel
theorem dX0_startOfRun_15 : decode cX0_startOfRun 15 = .ok (.istore 4, 2) := by decide +kernel
theorem dX0_startOfRun_17 : decode cX0_startOfRun 17 = .ok (.iload 4, 2) := by decide +kernel
theorem dX0_startOfRun_19 : decode cX0_startOfRun 19 = .ok (.iload_n 1, 1) := by decide +kernel
theorem dX0_startOfRun_20 : decode cX0_startOfRun 20 = .ok (.if_icmp .ge 16, 3) := by decide +kernel
theorem dX0_startOfRun_23 : decode cX0_startOfRun 23 = .ok (.aload_n 0, 1) := by decide +kernel
theorem dX0_startOfRun_24 : decode cX0_startOfRun 24 = .ok (.iload_n 3, 1) := by decide +kernel
theorem dX0_startOfRun_25 : decode cX0_startOfRun 25 = .ok (.iload_n 2, 1) := by decide +kernel
theorem dX0_startOfRun_26 : decode cX0_startOfRun 26 = .ok (.invokevirtual 45, 3) := by decide +kernel
theorem dX0_startOfRun_29 : decode cX0_startOfRun 29 = .ok (.istore_n 3, 1) := by decide +kernel
theorem dX0_startOfRun_30 : decode cX0_startOfRun 30 = .ok (.iinc 4 1, 3) := by decide +kernel
theorem dX0_startOfRun_33 : decode cX0_startOfRun 33 = .ok (.goto (-16), 3) := by decide +kernel
theorem dX0_startOfRun_36 : decode cX0_startOfRun 36 = .ok (.iload_n 3, 1) := by decide +kernel
theorem dX0_startOfRun_37 : decode cX0_startOfRun 37 = .ok (.ireturn, 1) := by decide +kernel
theorem dX0_placeOfOne_0 : decode cX0_placeOfOne 0 = .ok (.iconst 0, 1) := by decide +kernel
theorem dX0_placeOfOne_1 : decode cX0_placeOfOne 1 = .ok (.istore_n 3, 1) := by decide +kernel
theorem dX0_placeOfOne_2 : decode cX0_placeOfOne 2 = .ok (.iconst 0, 1) := by decide +kernel
theorem dX0_placeOfOne_3 : decode cX0_placeOfOne 3 = .ok (.istore 4, 2) := by decide +kernel
theorem dX0_placeOfOne_5 : decode cX0_placeOfOne 5 = .ok (.iload 4, 2) := by decide +kernel
theorem dX0_placeOfOne_7 : decode cX0_placeOfOne 7 = .ok (.iload_n 2, 1) := by decide +kernel
theorem dX0_placeOfOne_8 : decode cX0_placeOfOne 8 = .ok (.if_icmp .ge 29, 3) := by decide +kernel
theorem dX0_placeOfOne_11 : decode cX0_placeOfOne 11 = .ok (.aload_n 0, 1) := by decide +kernel
theorem dX0_placeOfOne_12 : decode cX0_placeOfOne 12 = .ok (.iload 4, 2) := by decide +kernel
theorem dX0_placeOfOne_14 : decode cX0_placeOfOne 14 = .ok (.invokevirtual 37, 3) := by decide +kernel
theorem dX0_placeOfOne_17 : decode cX0_placeOfOne 17 = .ok (.ifCond .eq 14, 3) := by decide +kernel
theorem dX0_placeOfOne_20 : decode cX0_placeOfOne 20 = .ok (.iload_n 3, 1) := by decide +kernel
theorem dX0_placeOfOne_21 : decode cX0_placeOfOne 21 = .ok (.iload_n 1, 1) := by decide +kernel
theorem dX0_placeOfOne_22 : decode cX0_placeOfOne 22 = .ok (.if_icmp .ne 6, 3) := by decide +kernel
theorem dX0_placeOfOne_25 : decode cX0_placeOfOne 25 = .ok (.iload 4, 2) := by decide +kernel
theorem dX0_placeOfOne_27 : decode cX0_placeOfOne 27 = .ok (.ireturn, 1) := by decide +kernel
theorem dX0_placeOfOne_28 : decode cX0_placeOfOne 28 = .ok (.iinc 3 1, 3) := by decide +kernel
theorem dX0_placeOfOne_31 : decode cX0_placeOfOne 31 = .ok (.iinc 4 1, 3) := by decide +kernel
theorem dX0_placeOfOne_34 : decode cX0_placeOfOne 34 = .ok (.goto (-29), 3) := by decide +kernel
theorem dX0_placeOfOne_37 : decode cX0_placeOfOne 37 = .ok (.bipush (-5), 2) := by decide +kernel
theorem dX0_placeOfOne_39 : decode cX0_placeOfOne 39 = .ok (.ireturn, 1) := by decide +kernel
theorem dX1_init_0 : decode cX1_init 0 = .ok (.aload_n 0, 1) := by decide +kernel
theorem dX1_init_1 : decode cX1_init 1 = .ok (.invokespecial 3, 3) := by decide +kernel
theorem dX1_init_4 : decode cX1_init 4 = .ok (.aload_n 0, 1) := by decide +kernel
theorem dX1_init_5 : decode cX1_init 5 = .ok (.new 9, 3) := by decide +kernel
theorem dX1_init_8 : decode cX1_init 8 = .ok (.dup, 1) := by decide +kernel
theorem dX1_init_9 : decode cX1_init 9 = .ok (.invokespecial 11, 3) := by decide +kernel
theorem dX1_init_12 : decode cX1_init 12 = .ok (.putfield 12, 3) := by decide +kernel
theorem dX1_init_15 : decode cX1_init 15 = .ok (.aload_n 0, 1) := by decide +kernel
theorem dX1_init_16 : decode cX1_init 16 = .ok (.bipush 16, 2) := by decide +kernel
theorem dX1_init_18 : decode cX1_init 18 = .ok (.newarray .int, 2) := by decide +kernel
theorem dX1_init_20 : decode cX1_init 20 = .ok (.putfield 18, 3) := by decide +kernel
theorem dX1_init_23 : decode cX1_init 23 = .ok (.aload_n 0, 1) := by decide +kernel
theorem dX1_init_24 : decode cX1_init 24 = .ok (.iconst 0, 1) := by decide +kernel
theorem dX1_init_25 : decode cX1_init 25 = .ok (.putfield 22, 3) := by decide +kernel
theorem dX1_init_28 : decode cX1_init 28 = .ok (.return_, 1) := by decide +kernel
theorem dX1_fill_0 : decode cX1_fill 0 = .ok (.aload_n 0, 1) := by decide +kernel
theorem dX1_fill_1 : decode cX1_fill 1 = .ok (.iconst 0, 1) := by decide +kernel
theorem dX1_fill_2 : decode cX1_fill 2 = .ok (.putfield 22, 3) := by decide +kernel
theorem dX1_fill_5 : decode cX1_fill 5 = .ok (.iconst 0, 1) := by decide +kernel
theorem dX1_fill_6 : decode cX1_fill 6 = .ok (.istore 4, 2) := by decide +kernel
theorem dX1_fill_8 : decode cX1_fill 8 = .ok (.iload 4, 2) := by decide +kernel
theorem dX1_fill_10 : decode cX1_fill 10 = .ok (.bipush 16, 2) := by decide +kernel
theorem dX1_fill_12 : decode cX1_fill 12 = .ok (.if_icmp .ge 61, 3) := by decide +kernel
theorem dX1_fill_15 : decode cX1_fill 15 = .ok (.aload_n 0, 1) := by decide +kernel
theorem dX1_fill_16 : decode cX1_fill 16 = .ok (.getfield 12, 3) := by decide +kernel
theorem dX1_fill_19 : decode cX1_fill 19 = .ok (.aload_n 1, 1) := by decide +kernel
theorem dX1_fill_20 : decode cX1_fill 20 = .ok (.invokevirtual 26, 3) := by decide +kernel
theorem dX1_fill_23 : decode cX1_fill 23 = .ok (.aload_n 0, 1) := by decide +kernel
theorem dX1_fill_24 : decode cX1_fill 24 = .ok (.getfield 12, 3) := by decide +kernel
theorem dX1_fill_27 : decode cX1_fill 27 = .ok (.aload_n 2, 1) := by decide +kernel
theorem dX1_fill_28 : decode cX1_fill 28 = .ok (.iload_n 3, 1) := by decide +kernel
theorem dX1_fill_29 : decode cX1_fill 29 = .ok (.iload 4, 2) := by decide +kernel
theorem dX1_fill_31 : decode cX1_fill 31 = .ok (.invokevirtual 30, 3) := by decide +kernel
theorem dX1_fill_34 : decode cX1_fill 34 = .ok (.invokevirtual 36, 3) := by decide +kernel
theorem dX1_fill_37 : decode cX1_fill 37 = .ok (.aload_n 0, 1) := by decide +kernel
theorem dX1_fill_38 : decode cX1_fill 38 = .ok (.getfield 18, 3) := by decide +kernel
theorem dX1_fill_41 : decode cX1_fill 41 = .ok (.iload 4, 2) := by decide +kernel
theorem dX1_fill_43 : decode cX1_fill 43 = .ok (.aload_n 0, 1) := by decide +kernel
theorem dX1_fill_44 : decode cX1_fill 44 = .ok (.getfield 12, 3) := by decide +kernel
theorem dX1_fill_47 : decode cX1_fill 47 = .ok (.invokevirtual 39, 3) := by decide +kernel
theorem dX1_fill_50 : decode cX1_fill 50 = .ok (.iastore, 1) := by decide +kernel
theorem dX1_fill_51 : decode cX1_fill 51 = .ok (.aload_n 0, 1) := by decide +kernel
theorem dX1_fill_52 : decode cX1_fill 52 = .ok (.dup, 1) := by decide +kernel
theorem dX1_fill_53 : decode cX1_fill 53 = .ok (.getfield 22, 3) := by decide +kernel
theorem dX1_fill_56 : decode cX1_fill 56 = .ok (.aload_n 0, 1) := by decide +kernel
theorem dX1_fill_57 : decode cX1_fill 57 = .ok (.getfield 18, 3) := by decide +kernel
theorem dX1_fill_60 : decode cX1_fill 60 = .ok (.iload 4, 2) := by decide +kernel
theorem dX1_fill_62 : decode cX1_fill 62 = .ok (.iaload, 1) := by decide +kernel
theorem dX1_fill_63 : decode cX1_fill 63 = .ok (.iadd, 1) := by decide +kernel
theorem dX1_fill_64 : decode cX1_fill 64 = .ok (.putfield 22, 3) := by decide +kernel
theorem dX1_fill_67 : decode cX1_fill 67 = .ok (.iinc 4 1, 3) := by decide +kernel
theorem dX1_fill_70 : decode cX1_fill 70 = .ok (.goto (-62), 3) := by decide +kernel
theorem dX1_fill_73 : decode cX1_fill 73 = .ok (.return_, 1) := by decide +kernel
theorem dX1_sum_0 : decode cX1_sum 0 = .ok (.iconst 0, 1) := by decide +kernel
theorem dX1_sum_1 : decode cX1_sum 1 = .ok (.istore_n 1, 1) := by decide +kernel
theorem dX1_sum_2 : decode cX1_sum 2 = .ok (.iconst 0, 1) := by decide +kernel
theorem dX1_sum_3 : decode cX1_sum 3 = .ok (.istore_n 2, 1) := by decide +kernel
theorem dX1_sum_4 : decode cX1_sum 4 = .ok (.iload_n 2, 1) := by decide +kernel
theorem dX1_sum_5 : decode cX1_sum 5 = .ok (.bipush 16, 2) := by decide +kernel
theorem dX1_sum_7 : decode cX1_sum 7 = .ok (.if_icmp .ge 20, 3) := by decide +kernel
theorem dX1_sum_10 : decode cX1_sum 10 = .ok (.iload_n 1, 1) := by decide +kernel
theorem dX1_sum_11 : decode cX1_sum 11 = .ok (.iload_n 2, 1) := by decide +kernel
theorem dX1_sum_12 : decode cX1_sum 12 = .ok (.aload_n 0, 1) := by decide +kernel
theorem dX1_sum_13 : decode cX1_sum 13 = .ok (.getfield 18, 3) := by decide +kernel
theorem dX1_sum_16 : decode cX1_sum 16 = .ok (.iload_n 2, 1) := by decide +kernel
theorem dX1_sum_17 : decode cX1_sum 17 = .ok (.iaload, 1) := by decide +kernel
theorem dX1_sum_18 : decode cX1_sum 18 = .ok (.imul, 1) := by decide +kernel
theorem dX1_sum_19 : decode cX1_sum 19 = .ok (.iadd, 1) := by decide +kernel
theorem dX1_sum_20 : decode cX1_sum 20 = .ok (.istore_n 1, 1) := by decide +kernel
theorem dX1_sum_21 : decode cX1_sum 21 = .ok (.iinc 2 1, 3) := by decide +kernel
theorem dX1_sum_24 : decode cX1_sum 24 = .ok (.goto (-20), 3) := by decide +kernel
theorem dX1_sum_27 : decode cX1_sum 27 = .ok (.iload_n 1, 1) := by decide +kernel
theorem dX1_sum_28 : decode cX1_sum 28 = .ok (.ireturn, 1) := by decide +kernel
theorem dX1_least_0 : decode cX1_least 0 = .ok (.iconst 0, 1) := by decide +kernel
theorem dX1_least_1 : decode cX1_least 1 = .ok (.istore_n 1, 1) := by decide +kernel
theorem dX1_least_2 : decode cX1_least 2 = .ok (.iload_n 1, 1) := by decide +kernel
theorem dX1_least_3 : decode cX1_least 3 = .ok (.bipush 16, 2) := by decide +kernel
theorem dX1_least_5 : decode cX1_least 5 = .ok (.if_icmp .ge 20, 3) := by decide +kernel
theorem dX1_least_8 : decode cX1_least 8 = .ok (.aload_n 0, 1) := by decide +kernel
theorem dX1_least_9 : decode cX1_least 9 = .ok (.getfield 18, 3) := by decide +kernel
theorem dX1_least_12 : decode cX1_least 12 = .ok (.iload_n 1, 1) := by decide +kernel
theorem dX1_least_13 : decode cX1_least 13 = .ok (.iaload, 1) := by decide +kernel
theorem dX1_least_14 : decode cX1_least 14 = .ok (.ifCond .le 5, 3) := by decide +kernel
theorem dX1_least_17 : decode cX1_least 17 = .ok (.iload_n 1, 1) := by decide +kernel
theorem dX1_least_18 : decode cX1_least 18 = .ok (.ireturn, 1) := by decide +kernel
theorem dX1_least_19 : decode cX1_least 19 = .ok (.iinc 1 1, 3) := by decide +kernel
theorem dX1_least_22 : decode cX1_least 22 = .ok (.goto (-20), 3) := by decide +kernel
theorem dX1_least_25 : decode cX1_least 25 = .ok (.bipush (-5), 2) := by decide +kernel
theorem dX1_least_27 : decode cX1_least 27 = .ok (.ireturn, 1) := by decide +kernel
theorem dX1_greatest_0 : decode cX1_greatest 0 = .ok (.bipush 15, 2) := by decide +kernel
theorem dX1_greatest_2 : decode cX1_greatest 2 = .ok (.istore_n 1, 1) := by decide +kernel
theorem dX1_greatest_3 : decode cX1_greatest 3 = .ok (.iload_n 1, 1) := by decide +kernel
theorem dX1_greatest_4 : decode cX1_greatest 4 = .ok (.ifCond .lt 20, 3) := by decide +kernel
theorem dX1_greatest_7 : decode cX1_greatest 7 = .ok (.aload_n 0, 1) := by decide +kernel
theorem dX1_greatest_8 : decode cX1_greatest 8 = .ok (.getfield 18, 3) := by decide +kernel
theorem dX1_greatest_11 : decode cX1_greatest 11 = .ok (.iload_n 1, 1) := by decide +kernel
theorem dX1_greatest_12 : decode cX1_greatest 12 = .ok (.iaload, 1) := by decide +kernel
theorem dX1_greatest_13 : decode cX1_greatest 13 = .ok (.ifCond .le 5, 3) := by decide +kernel
theorem dX1_greatest_16 : decode cX1_greatest 16 = .ok (.iload_n 1, 1) := by decide +kernel
theorem dX1_greatest_17 : decode cX1_greatest 17 = .ok (.ireturn, 1) := by decide +kernel
theorem dX1_greatest_18 : decode cX1_greatest 18 = .ok (.iinc 1 (-1), 3) := by decide +kernel
theorem dX1_greatest_21 : decode cX1_greatest 21 = .ok (.goto (-18), 3) := by decide +kernel
theorem dX1_greatest_24 : decode cX1_greatest 24 = .ok (.bipush (-5), 2) := by decide +kernel
theorem dX1_greatest_26 : decode cX1_greatest 26 = .ok (.ireturn, 1) := by decide +kernel
theorem dX1_middle_0 : decode cX1_middle 0 = .ok (.iconst 0, 1) := by decide +kernel
theorem dX1_middle_1 : decode cX1_middle 1 = .ok (.istore_n 1, 1) := by decide +kernel
theorem dX1_middle_2 : decode cX1_middle 2 = .ok (.iconst 0, 1) := by decide +kernel
theorem dX1_middle_3 : decode cX1_middle 3 = .ok (.istore_n 2, 1) := by decide +kernel
theorem dX1_middle_4 : decode cX1_middle 4 = .ok (.iload_n 2, 1) := by decide +kernel
theorem dX1_middle_5 : decode cX1_middle 5 = .ok (.bipush 16, 2) := by decide +kernel
theorem dX1_middle_7 : decode cX1_middle 7 = .ok (.if_icmp .ge 34, 3) := by decide +kernel
theorem dX1_middle_10 : decode cX1_middle 10 = .ok (.iload_n 1, 1) := by decide +kernel
theorem dX1_middle_11 : decode cX1_middle 11 = .ok (.aload_n 0, 1) := by decide +kernel
theorem dX1_middle_12 : decode cX1_middle 12 = .ok (.getfield 18, 3) := by decide +kernel
theorem dX1_middle_15 : decode cX1_middle 15 = .ok (.iload_n 2, 1) := by decide +kernel
theorem dX1_middle_16 : decode cX1_middle 16 = .ok (.iaload, 1) := by decide +kernel
theorem dX1_middle_17 : decode cX1_middle 17 = .ok (.iadd, 1) := by decide +kernel
theorem dX1_middle_18 : decode cX1_middle 18 = .ok (.istore_n 1, 1) := by decide +kernel
theorem dX1_middle_19 : decode cX1_middle 19 = .ok (.iload_n 1, 1) := by decide +kernel
theorem dX1_middle_20 : decode cX1_middle 20 = .ok (.ifCond .le 15, 3) := by decide +kernel
theorem dX1_middle_23 : decode cX1_middle 23 = .ok (.iload_n 1, 1) := by decide +kernel
theorem dX1_middle_24 : decode cX1_middle 24 = .ok (.iconst 2, 1) := by decide +kernel
theorem dX1_middle_25 : decode cX1_middle 25 = .ok (.imul, 1) := by decide +kernel
theorem dX1_middle_26 : decode cX1_middle 26 = .ok (.aload_n 0, 1) := by decide +kernel
theorem dX1_middle_27 : decode cX1_middle 27 = .ok (.getfield 22, 3) := by decide +kernel
theorem dX1_middle_30 : decode cX1_middle 30 = .ok (.if_icmp .lt 5, 3) := by decide +kernel
theorem dX1_middle_33 : decode cX1_middle 33 = .ok (.iload_n 2, 1) := by decide +kernel
theorem dX1_middle_34 : decode cX1_middle 34 = .ok (.ireturn, 1) := by decide +kernel
theorem dX1_middle_35 : decode cX1_middle 35 = .ok (.iinc 2 1, 3) := by decide +kernel
theorem dX1_middle_38 : decode cX1_middle 38 = .ok (.goto (-34), 3) := by decide +kernel
theorem dX1_middle_41 : decode cX1_middle 41 = .ok (.bipush (-5), 2) := by decide +kernel
theorem dX1_middle_43 : decode cX1_middle 43 = .ok (.ireturn, 1) := by decide +kernel
theorem dX1_unlike_0 : decode cX1_unlike 0 = .ok (.iconst 0, 1) := by decide +kernel
theorem dX1_unlike_1 : decode cX1_unlike 1 = .ok (.istore_n 1, 1) := by decide +kernel
theorem dX1_unlike_2 : decode cX1_unlike 2 = .ok (.iconst 0, 1) := by decide +kernel
theorem dX1_unlike_3 : decode cX1_unlike 3 = .ok (.istore_n 2, 1) := by decide +kernel
theorem dX1_unlike_4 : decode cX1_unlike 4 = .ok (.iload_n 2, 1) := by decide +kernel
theorem dX1_unlike_5 : decode cX1_unlike 5 = .ok (.bipush 16, 2) := by decide +kernel
theorem dX1_unlike_7 : decode cX1_unlike 7 = .ok (.if_icmp .ge 21, 3) := by decide +kernel
theorem dX1_unlike_10 : decode cX1_unlike 10 = .ok (.aload_n 0, 1) := by decide +kernel
theorem dX1_unlike_11 : decode cX1_unlike 11 = .ok (.getfield 18, 3) := by decide +kernel
theorem dX1_unlike_14 : decode cX1_unlike 14 = .ok (.iload_n 2, 1) := by decide +kernel
theorem dX1_unlike_15 : decode cX1_unlike 15 = .ok (.iaload, 1) := by decide +kernel
theorem dX1_unlike_16 : decode cX1_unlike 16 = .ok (.ifCond .le 6, 3) := by decide +kernel
theorem dX1_unlike_19 : decode cX1_unlike 19 = .ok (.iinc 1 1, 3) := by decide +kernel
theorem dX1_unlike_22 : decode cX1_unlike 22 = .ok (.iinc 2 1, 3) := by decide +kernel
theorem dX1_unlike_25 : decode cX1_unlike 25 = .ok (.goto (-21), 3) := by decide +kernel
theorem dX1_unlike_28 : decode cX1_unlike 28 = .ok (.iload_n 1, 1) := by decide +kernel
theorem dX1_unlike_29 : decode cX1_unlike 29 = .ok (.ireturn, 1) := by decide +kernel
theorem dX1_greatestGroup_0 : decode cX1_greatestGroup 0 = .ok (.iconst 0, 1) := by decide +kernel
theorem dX1_greatestGroup_1 : decode cX1_greatestGroup 1 = .ok (.istore_n 1, 1) := by decide +kernel
theorem dX1_greatestGroup_2 : decode cX1_greatestGroup 2 = .ok (.bipush (-5), 2) := by decide +kernel
theorem dX1_greatestGroup_4 : decode cX1_greatestGroup 4 = .ok (.istore_n 2, 1) := by decide +kernel
theorem dX1_greatestGroup_5 : decode cX1_greatestGroup 5 = .ok (.iconst 0, 1) := by decide +kernel
theorem dX1_greatestGroup_6 : decode cX1_greatestGroup 6 = .ok (.istore_n 3, 1) := by decide +kernel
theorem dX1_greatestGroup_7 : decode cX1_greatestGroup 7 = .ok (.iload_n 3, 1) := by decide +kernel
theorem dX1_greatestGroup_8 : decode cX1_greatestGroup 8 = .ok (.bipush 16, 2) := by decide +kernel
theorem dX1_greatestGroup_10 : decode cX1_greatestGroup 10 = .ok (.if_icmp .ge 28, 3) := by decide +kernel
theorem dX1_greatestGroup_13 : decode cX1_greatestGroup 13 = .ok (.aload_n 0, 1) := by decide +kernel
theorem dX1_greatestGroup_14 : decode cX1_greatestGroup 14 = .ok (.getfield 18, 3) := by decide +kernel
theorem dX1_greatestGroup_17 : decode cX1_greatestGroup 17 = .ok (.iload_n 3, 1) := by decide +kernel
theorem dX1_greatestGroup_18 : decode cX1_greatestGroup 18 = .ok (.iaload, 1) := by decide +kernel
theorem dX1_greatestGroup_19 : decode cX1_greatestGroup 19 = .ok (.iload_n 1, 1) := by decide +kernel
theorem dX1_greatestGroup_20 : decode cX1_greatestGroup 20 = .ok (.if_icmp .le 12, 3) := by decide +kernel
theorem dX1_greatestGroup_23 : decode cX1_greatestGroup 23 = .ok (.aload_n 0, 1) := by decide +kernel
theorem dX1_greatestGroup_24 : decode cX1_greatestGroup 24 = .ok (.getfield 18, 3) := by decide +kernel
theorem dX1_greatestGroup_27 : decode cX1_greatestGroup 27 = .ok (.iload_n 3, 1) := by decide +kernel
theorem dX1_greatestGroup_28 : decode cX1_greatestGroup 28 = .ok (.iaload, 1) := by decide +kernel
theorem dX1_greatestGroup_29 : decode cX1_greatestGroup 29 = .ok (.istore_n 1, 1) := by decide +kernel
theorem dX1_greatestGroup_30 : decode cX1_greatestGroup 30 = .ok (.iload_n 3, 1) := by decide +kernel
theorem dX1_greatestGroup_31 : decode cX1_greatestGroup 31 = .ok (.istore_n 2, 1) := by decide +kernel
theorem dX1_greatestGroup_32 : decode cX1_greatestGroup 32 = .ok (.iinc 3 1, 3) := by decide +kernel
theorem dX1_greatestGroup_35 : decode cX1_greatestGroup 35 = .ok (.goto (-28), 3) := by decide +kernel
theorem dX1_greatestGroup_38 : decode cX1_greatestGroup 38 = .ok (.iload_n 2, 1) := by decide +kernel
theorem dX1_greatestGroup_39 : decode cX1_greatestGroup 39 = .ok (.ireturn, 1) := by decide +kernel
theorem dX2_init_0 : decode cX2_init 0 = .ok (.aload_n 0, 1) := by decide +kernel
theorem dX2_init_1 : decode cX2_init 1 = .ok (.invokespecial 3, 3) := by decide +kernel
theorem dX2_init_4 : decode cX2_init 4 = .ok (.aload_n 0, 1) := by decide +kernel
theorem dX2_init_5 : decode cX2_init 5 = .ok (.iconst 0, 1) := by decide +kernel
theorem dX2_init_6 : decode cX2_init 6 = .ok (.putfield 9, 3) := by decide +kernel
theorem dX2_init_9 : decode cX2_init 9 = .ok (.aload_n 0, 1) := by decide +kernel
theorem dX2_init_10 : decode cX2_init 10 = .ok (.iload_n 1, 1) := by decide +kernel
theorem dX2_init_11 : decode cX2_init 11 = .ok (.putfield 15, 3) := by decide +kernel
theorem dX2_init_14 : decode cX2_init 14 = .ok (.aload_n 0, 1) := by decide +kernel
theorem dX2_init_15 : decode cX2_init 15 = .ok (.iload_n 1, 1) := by decide +kernel
theorem dX2_init_16 : decode cX2_init 16 = .ok (.newarray .int, 2) := by decide +kernel
theorem dX2_init_18 : decode cX2_init 18 = .ok (.putfield 18, 3) := by decide +kernel
theorem dX2_init_21 : decode cX2_init 21 = .ok (.aload_n 0, 1) := by decide +kernel
theorem dX2_init_22 : decode cX2_init 22 = .ok (.iload_n 1, 1) := by decide +kernel
theorem dX2_init_23 : decode cX2_init 23 = .ok (.newarray .int, 2) := by decide +kernel
theorem dX2_init_25 : decode cX2_init 25 = .ok (.putfield 22, 3) := by decide +kernel
theorem dX2_init_28 : decode cX2_init 28 = .ok (.return_, 1) := by decide +kernel
theorem dX2_append_0 : decode cX2_append 0 = .ok (.aload_n 0, 1) := by decide +kernel
theorem dX2_append_1 : decode cX2_append 1 = .ok (.getfield 9, 3) := by decide +kernel
theorem dX2_append_4 : decode cX2_append 4 = .ok (.aload_n 0, 1) := by decide +kernel
theorem dX2_append_5 : decode cX2_append 5 = .ok (.getfield 15, 3) := by decide +kernel
theorem dX2_append_8 : decode cX2_append 8 = .ok (.if_icmp .lt 6, 3) := by decide +kernel
theorem dX2_append_11 : decode cX2_append 11 = .ok (.bipush (-4), 2) := by decide +kernel
theorem dX2_append_13 : decode cX2_append 13 = .ok (.ireturn, 1) := by decide +kernel
theorem dX2_append_14 : decode cX2_append 14 = .ok (.aload_n 0, 1) := by decide +kernel
theorem dX2_append_15 : decode cX2_append 15 = .ok (.getfield 18, 3) := by decide +kernel
theorem dX2_append_18 : decode cX2_append 18 = .ok (.aload_n 0, 1) := by decide +kernel
theorem dX2_append_19 : decode cX2_append 19 = .ok (.getfield 9, 3) := by decide +kernel
theorem dX2_append_22 : decode cX2_append 22 = .ok (.iload_n 1, 1) := by decide +kernel
theorem dX2_append_23 : decode cX2_append 23 = .ok (.iastore, 1) := by decide +kernel
theorem dX2_append_24 : decode cX2_append 24 = .ok (.aload_n 0, 1) := by decide +kernel
theorem dX2_append_25 : decode cX2_append 25 = .ok (.getfield 22, 3) := by decide +kernel
theorem dX2_append_28 : decode cX2_append 28 = .ok (.aload_n 0, 1) := by decide +kernel
theorem dX2_append_29 : decode cX2_append 29 = .ok (.getfield 9, 3) := by decide +kernel
theorem dX2_append_32 : decode cX2_append 32 = .ok (.iload_n 2, 1) := by decide +kernel
theorem dX2_append_33 : decode cX2_append 33 = .ok (.iastore, 1) := by decide +kernel
theorem dX2_append_34 : decode cX2_append 34 = .ok (.aload_n 0, 1) := by decide +kernel
theorem dX2_append_35 : decode cX2_append 35 = .ok (.dup, 1) := by decide +kernel
theorem dX2_append_36 : decode cX2_append 36 = .ok (.getfield 9, 3) := by decide +kernel
theorem dX2_append_39 : decode cX2_append 39 = .ok (.iconst 1, 1) := by decide +kernel
theorem dX2_append_40 : decode cX2_append 40 = .ok (.iadd, 1) := by decide +kernel
theorem dX2_append_41 : decode cX2_append 41 = .ok (.putfield 9, 3) := by decide +kernel
theorem dX2_append_44 : decode cX2_append 44 = .ok (.aload_n 0, 1) := by decide +kernel
theorem dX2_append_45 : decode cX2_append 45 = .ok (.getfield 9, 3) := by decide +kernel
theorem dX2_append_48 : decode cX2_append 48 = .ok (.ireturn, 1) := by decide +kernel
theorem dX2_become_0 : decode cX2_become 0 = .ok (.aload_n 1, 1) := by decide +kernel
theorem dX2_become_1 : decode cX2_become 1 = .ok (.getfield 18, 3) := by decide +kernel
theorem dX2_become_4 : decode cX2_become 4 = .ok (.iconst 0, 1) := by decide +kernel
theorem dX2_become_5 : decode cX2_become 5 = .ok (.aload_n 0, 1) := by decide +kernel
theorem dX2_become_6 : decode cX2_become 6 = .ok (.getfield 18, 3) := by decide +kernel
theorem dX2_become_9 : decode cX2_become 9 = .ok (.iconst 0, 1) := by decide +kernel
theorem dX2_become_10 : decode cX2_become 10 = .ok (.aload_n 0, 1) := by decide +kernel
theorem dX2_become_11 : decode cX2_become 11 = .ok (.getfield 15, 3) := by decide +kernel
theorem dX2_become_14 : decode cX2_become 14 = .ok (.invokestatic 25, 3) := by decide +kernel
theorem dX2_become_17 : decode cX2_become 17 = .ok (.aload_n 1, 1) := by decide +kernel
theorem dX2_become_18 : decode cX2_become 18 = .ok (.getfield 22, 3) := by decide +kernel
theorem dX2_become_21 : decode cX2_become 21 = .ok (.iconst 0, 1) := by decide +kernel
theorem dX2_become_22 : decode cX2_become 22 = .ok (.aload_n 0, 1) := by decide +kernel
theorem dX2_become_23 : decode cX2_become 23 = .ok (.getfield 22, 3) := by decide +kernel
theorem dX2_become_26 : decode cX2_become 26 = .ok (.iconst 0, 1) := by decide +kernel
theorem dX2_become_27 : decode cX2_become 27 = .ok (.aload_n 0, 1) := by decide +kernel
theorem dX2_become_28 : decode cX2_become 28 = .ok (.getfield 15, 3) := by decide +kernel
theorem dX2_become_31 : decode cX2_become 31 = .ok (.invokestatic 25, 3) := by decide +kernel
theorem dX2_become_34 : decode cX2_become 34 = .ok (.aload_n 0, 1) := by decide +kernel
theorem dX2_become_35 : decode cX2_become 35 = .ok (.aload_n 1, 1) := by decide +kernel
theorem dX2_become_36 : decode cX2_become 36 = .ok (.getfield 9, 3) := by decide +kernel
theorem dX2_become_39 : decode cX2_become 39 = .ok (.putfield 9, 3) := by decide +kernel
theorem dX2_become_42 : decode cX2_become 42 = .ok (.return_, 1) := by decide +kernel
theorem dX3_init_0 : decode cX3_init 0 = .ok (.aload_n 0, 1) := by decide +kernel
theorem dX3_init_1 : decode cX3_init 1 = .ok (.invokespecial 3, 3) := by decide +kernel
theorem dX3_init_4 : decode cX3_init 4 = .ok (.aload_n 0, 1) := by decide +kernel
theorem dX3_init_5 : decode cX3_init 5 = .ok (.bipush 50, 2) := by decide +kernel
theorem dX3_init_7 : decode cX3_init 7 = .ok (.newarray .byte, 2) := by decide +kernel
theorem dX3_init_9 : decode cX3_init 9 = .ok (.putfield 9, 3) := by decide +kernel
theorem dX3_init_12 : decode cX3_init 12 = .ok (.aload_n 0, 1) := by decide +kernel
theorem dX3_init_13 : decode cX3_init 13 = .ok (.bipush 50, 2) := by decide +kernel
theorem dX3_init_15 : decode cX3_init 15 = .ok (.newarray .byte, 2) := by decide +kernel
theorem dX3_init_17 : decode cX3_init 17 = .ok (.putfield 15, 3) := by decide +kernel
theorem dX3_init_20 : decode cX3_init 20 = .ok (.aload_n 0, 1) := by decide +kernel
theorem dX3_init_21 : decode cX3_init 21 = .ok (.bipush 50, 2) := by decide +kernel
theorem dX3_init_23 : decode cX3_init 23 = .ok (.newarray .byte, 2) := by decide +kernel
theorem dX3_init_25 : decode cX3_init 25 = .ok (.putfield 18, 3) := by decide +kernel
theorem dX3_init_28 : decode cX3_init 28 = .ok (.aload_n 0, 1) := by decide +kernel
theorem dX3_init_29 : decode cX3_init 29 = .ok (.bipush 50, 2) := by decide +kernel
theorem dX3_init_31 : decode cX3_init 31 = .ok (.newarray .byte, 2) := by decide +kernel
theorem dX3_init_33 : decode cX3_init 33 = .ok (.putfield 21, 3) := by decide +kernel
theorem dX3_init_36 : decode cX3_init 36 = .ok (.aload_n 0, 1) := by decide +kernel
theorem dX3_init_37 : decode cX3_init 37 = .ok (.iconst 0, 1) := by decide +kernel
theorem dX3_init_38 : decode cX3_init 38 = .ok (.putfield 24, 3) := by decide +kernel
theorem dX3_init_41 : decode cX3_init 41 = .ok (.return_, 1) := by decide +kernel
theorem dX3_appendJoin_0 : decode cX3_appendJoin 0 = .ok (.aload_n 0, 1) := by decide +kernel
theorem dX3_appendJoin_1 : decode cX3_appendJoin 1 = .ok (.iload_n 1, 1) := by decide +kernel
theorem dX3_appendJoin_2 : decode cX3_appendJoin 2 = .ok (.iconst 0, 1) := by decide +kernel
theorem dX3_appendJoin_3 : decode cX3_appendJoin 3 = .ok (.iconst 0, 1) := by decide +kernel
theorem dX3_appendJoin_4 : decode cX3_appendJoin 4 = .ok (.iconst 0, 1) := by decide +kernel
theorem dX3_appendJoin_5 : decode cX3_appendJoin 5 = .ok (.invokevirtual 28, 3) := by decide +kernel
theorem dX3_appendJoin_8 : decode cX3_appendJoin 8 = .ok (.return_, 1) := by decide +kernel
theorem dX3_appendLeaf_0 : decode cX3_appendLeaf 0 = .ok (.aload_n 0, 1) := by decide +kernel
theorem dX3_appendLeaf_1 : decode cX3_appendLeaf 1 = .ok (.getfield 24, 3) := by decide +kernel
theorem dX3_appendLeaf_4 : decode cX3_appendLeaf 4 = .ok (.bipush 50, 2) := by decide +kernel
theorem dX3_appendLeaf_6 : decode cX3_appendLeaf 6 = .ok (.if_icmp .lt 4, 3) := by decide +kernel
theorem dX3_appendLeaf_9 : decode cX3_appendLeaf 9 = .ok (.return_, 1) := by decide +kernel
theorem dX3_appendLeaf_10 : decode cX3_appendLeaf 10 = .ok (.aload_n 0, 1) := by decide +kernel
theorem dX3_appendLeaf_11 : decode cX3_appendLeaf 11 = .ok (.getfield 9, 3) := by decide +kernel
theorem dX3_appendLeaf_14 : decode cX3_appendLeaf 14 = .ok (.aload_n 0, 1) := by decide +kernel
theorem dX3_appendLeaf_15 : decode cX3_appendLeaf 15 = .ok (.getfield 24, 3) := by decide +kernel
theorem dX3_appendLeaf_18 : decode cX3_appendLeaf 18 = .ok (.iload_n 1, 1) := by decide +kernel
theorem dX3_appendLeaf_19 : decode cX3_appendLeaf 19 = .ok (.i2b, 1) := by decide +kernel
theorem dX3_appendLeaf_20 : decode cX3_appendLeaf 20 = .ok (.bastore, 1) := by decide +kernel
theorem dX3_appendLeaf_21 : decode cX3_appendLeaf 21 = .ok (.aload_n 0, 1) := by decide +kernel
theorem dX3_appendLeaf_22 : decode cX3_appendLeaf 22 = .ok (.getfield 15, 3) := by decide +kernel
theorem dX3_appendLeaf_25 : decode cX3_appendLeaf 25 = .ok (.aload_n 0, 1) := by decide +kernel
theorem dX3_appendLeaf_26 : decode cX3_appendLeaf 26 = .ok (.getfield 24, 3) := by decide +kernel
theorem dX3_appendLeaf_29 : decode cX3_appendLeaf 29 = .ok (.iload_n 2, 1) := by decide +kernel
theorem dX3_appendLeaf_30 : decode cX3_appendLeaf 30 = .ok (.i2b, 1) := by decide +kernel
theorem dX3_appendLeaf_31 : decode cX3_appendLeaf 31 = .ok (.bastore, 1) := by decide +kernel
theorem dX3_appendLeaf_32 : decode cX3_appendLeaf 32 = .ok (.aload_n 0, 1) := by decide +kernel
theorem dX3_appendLeaf_33 : decode cX3_appendLeaf 33 = .ok (.getfield 18, 3) := by decide +kernel
theorem dX3_appendLeaf_36 : decode cX3_appendLeaf 36 = .ok (.aload_n 0, 1) := by decide +kernel
theorem dX3_appendLeaf_37 : decode cX3_appendLeaf 37 = .ok (.getfield 24, 3) := by decide +kernel
theorem dX3_appendLeaf_40 : decode cX3_appendLeaf 40 = .ok (.iload_n 3, 1) := by decide +kernel
theorem dX3_appendLeaf_41 : decode cX3_appendLeaf 41 = .ok (.i2b, 1) := by decide +kernel
theorem dX3_appendLeaf_42 : decode cX3_appendLeaf 42 = .ok (.bastore, 1) := by decide +kernel
theorem dX3_appendLeaf_43 : decode cX3_appendLeaf 43 = .ok (.aload_n 0, 1) := by decide +kernel
theorem dX3_appendLeaf_44 : decode cX3_appendLeaf 44 = .ok (.getfield 21, 3) := by decide +kernel
theorem dX3_appendLeaf_47 : decode cX3_appendLeaf 47 = .ok (.aload_n 0, 1) := by decide +kernel
theorem dX3_appendLeaf_48 : decode cX3_appendLeaf 48 = .ok (.getfield 24, 3) := by decide +kernel
theorem dX3_appendLeaf_51 : decode cX3_appendLeaf 51 = .ok (.iload 4, 2) := by decide +kernel
theorem dX3_appendLeaf_53 : decode cX3_appendLeaf 53 = .ok (.i2b, 1) := by decide +kernel
theorem dX3_appendLeaf_54 : decode cX3_appendLeaf 54 = .ok (.bastore, 1) := by decide +kernel
theorem dX3_appendLeaf_55 : decode cX3_appendLeaf 55 = .ok (.aload_n 0, 1) := by decide +kernel
theorem dX3_appendLeaf_56 : decode cX3_appendLeaf 56 = .ok (.dup, 1) := by decide +kernel
theorem dX3_appendLeaf_57 : decode cX3_appendLeaf 57 = .ok (.getfield 24, 3) := by decide +kernel
theorem dX3_appendLeaf_60 : decode cX3_appendLeaf 60 = .ok (.iconst 1, 1) := by decide +kernel
theorem dX3_appendLeaf_61 : decode cX3_appendLeaf 61 = .ok (.iadd, 1) := by decide +kernel
theorem dX3_appendLeaf_62 : decode cX3_appendLeaf 62 = .ok (.putfield 24, 3) := by decide +kernel
theorem dX3_appendLeaf_65 : decode cX3_appendLeaf 65 = .ok (.return_, 1) := by decide +kernel
theorem dX3_lastSort_0 : decode cX3_lastSort 0 = .ok (.aload_n 0, 1) := by decide +kernel
theorem dX3_lastSort_1 : decode cX3_lastSort 1 = .ok (.getfield 24, 3) := by decide +kernel
theorem dX3_lastSort_4 : decode cX3_lastSort 4 = .ok (.ifCond .ne 7, 3) := by decide +kernel
theorem dX3_lastSort_7 : decode cX3_lastSort 7 = .ok (.iconst 0, 1) := by decide +kernel
theorem dX3_lastSort_8 : decode cX3_lastSort 8 = .ok (.goto 14, 3) := by decide +kernel
theorem dX3_lastSort_11 : decode cX3_lastSort 11 = .ok (.aload_n 0, 1) := by decide +kernel
theorem dX3_lastSort_12 : decode cX3_lastSort 12 = .ok (.getfield 9, 3) := by decide +kernel
theorem dX3_lastSort_15 : decode cX3_lastSort 15 = .ok (.aload_n 0, 1) := by decide +kernel
theorem dX3_lastSort_16 : decode cX3_lastSort 16 = .ok (.getfield 24, 3) := by decide +kernel
theorem dX3_lastSort_19 : decode cX3_lastSort 19 = .ok (.iconst 1, 1) := by decide +kernel
theorem dX3_lastSort_20 : decode cX3_lastSort 20 = .ok (.isub, 1) := by decide +kernel
theorem dX3_lastSort_21 : decode cX3_lastSort 21 = .ok (.baload, 1) := by decide +kernel
theorem dX3_lastSort_22 : decode cX3_lastSort 22 = .ok (.ireturn, 1) := by decide +kernel
theorem dX3_stepsBetween_0 : decode cX3_stepsBetween 0 = .ok (.iconst 0, 1) := by decide +kernel
theorem dX3_stepsBetween_1 : decode cX3_stepsBetween 1 = .ok (.istore_n 3, 1) := by decide +kernel
theorem dX3_stepsBetween_2 : decode cX3_stepsBetween 2 = .ok (.iconst 0, 1) := by decide +kernel
theorem dX3_stepsBetween_3 : decode cX3_stepsBetween 3 = .ok (.istore 4, 2) := by decide +kernel
theorem dX3_stepsBetween_5 : decode cX3_stepsBetween 5 = .ok (.iload 4, 2) := by decide +kernel
theorem dX3_stepsBetween_7 : decode cX3_stepsBetween 7 = .ok (.aload_n 0, 1) := by decide +kernel
theorem dX3_stepsBetween_8 : decode cX3_stepsBetween 8 = .ok (.getfield 24, 3) := by decide +kernel
theorem dX3_stepsBetween_11 : decode cX3_stepsBetween 11 = .ok (.if_icmp .ge 34, 3) := by decide +kernel
theorem dX3_stepsBetween_14 : decode cX3_stepsBetween 14 = .ok (.aload_n 0, 1) := by decide +kernel
theorem dX3_stepsBetween_15 : decode cX3_stepsBetween 15 = .ok (.getfield 9, 3) := by decide +kernel
theorem dX3_stepsBetween_18 : decode cX3_stepsBetween 18 = .ok (.iload 4, 2) := by decide +kernel
theorem dX3_stepsBetween_20 : decode cX3_stepsBetween 20 = .ok (.baload, 1) := by decide +kernel
theorem dX3_stepsBetween_21 : decode cX3_stepsBetween 21 = .ok (.iload_n 1, 1) := by decide +kernel
theorem dX3_stepsBetween_22 : decode cX3_stepsBetween 22 = .ok (.if_icmp .lt 17, 3) := by decide +kernel
theorem dX3_stepsBetween_25 : decode cX3_stepsBetween 25 = .ok (.aload_n 0, 1) := by decide +kernel
theorem dX3_stepsBetween_26 : decode cX3_stepsBetween 26 = .ok (.getfield 9, 3) := by decide +kernel
theorem dX3_stepsBetween_29 : decode cX3_stepsBetween 29 = .ok (.iload 4, 2) := by decide +kernel
theorem dX3_stepsBetween_31 : decode cX3_stepsBetween 31 = .ok (.baload, 1) := by decide +kernel
theorem dX3_stepsBetween_32 : decode cX3_stepsBetween 32 = .ok (.iload_n 2, 1) := by decide +kernel
theorem dX3_stepsBetween_33 : decode cX3_stepsBetween 33 = .ok (.if_icmp .gt 6, 3) := by decide +kernel
theorem dX3_stepsBetween_36 : decode cX3_stepsBetween 36 = .ok (.iinc 3 1, 3) := by decide +kernel
theorem dX3_stepsBetween_39 : decode cX3_stepsBetween 39 = .ok (.iinc 4 1, 3) := by decide +kernel
theorem dX3_stepsBetween_42 : decode cX3_stepsBetween 42 = .ok (.goto (-37), 3) := by decide +kernel
theorem dX3_stepsBetween_45 : decode cX3_stepsBetween 45 = .ok (.iload_n 3, 1) := by decide +kernel
theorem dX3_stepsBetween_46 : decode cX3_stepsBetween 46 = .ok (.ireturn, 1) := by decide +kernel
theorem dX4_init_0 : decode cX4_init 0 = .ok (.aload_n 0, 1) := by decide +kernel
theorem dX4_init_1 : decode cX4_init 1 = .ok (.invokespecial 3, 3) := by decide +kernel
theorem dX4_init_4 : decode cX4_init 4 = .ok (.aload_n 0, 1) := by decide +kernel
theorem dX4_init_5 : decode cX4_init 5 = .ok (.bipush 100, 2) := by decide +kernel
theorem dX4_init_7 : decode cX4_init 7 = .ok (.newarray .byte, 2) := by decide +kernel
theorem dX4_init_9 : decode cX4_init 9 = .ok (.putfield 9, 3) := by decide +kernel
theorem dX4_init_12 : decode cX4_init 12 = .ok (.aload_n 0, 1) := by decide +kernel
theorem dX4_init_13 : decode cX4_init 13 = .ok (.iconst 0, 1) := by decide +kernel
theorem dX4_init_14 : decode cX4_init 14 = .ok (.putfield 15, 3) := by decide +kernel
theorem dX4_init_17 : decode cX4_init 17 = .ok (.aload_n 0, 1) := by decide +kernel
theorem dX4_init_18 : decode cX4_init 18 = .ok (.iconst 0, 1) := by decide +kernel
theorem dX4_init_19 : decode cX4_init 19 = .ok (.putfield 19, 3) := by decide +kernel
theorem dX4_init_22 : decode cX4_init 22 = .ok (.aload_n 0, 1) := by decide +kernel
theorem dX4_init_23 : decode cX4_init 23 = .ok (.iconst (-1), 1) := by decide +kernel
theorem dX4_init_24 : decode cX4_init 24 = .ok (.putfield 22, 3) := by decide +kernel
theorem dX4_init_27 : decode cX4_init 27 = .ok (.return_, 1) := by decide +kernel
theorem dX4_append_0 : decode cX4_append 0 = .ok (.aload_n 0, 1) := by decide +kernel
theorem dX4_append_1 : decode cX4_append 1 = .ok (.getfield 15, 3) := by decide +kernel
theorem dX4_append_4 : decode cX4_append 4 = .ok (.bipush 100, 2) := by decide +kernel
theorem dX4_append_6 : decode cX4_append 6 = .ok (.if_icmp .ge 24, 3) := by decide +kernel
theorem dX4_append_9 : decode cX4_append 9 = .ok (.aload_n 0, 1) := by decide +kernel
theorem dX4_append_10 : decode cX4_append 10 = .ok (.getfield 9, 3) := by decide +kernel
theorem dX4_append_13 : decode cX4_append 13 = .ok (.aload_n 0, 1) := by decide +kernel
theorem dX4_append_14 : decode cX4_append 14 = .ok (.getfield 15, 3) := by decide +kernel
theorem dX4_append_17 : decode cX4_append 17 = .ok (.iload_n 1, 1) := by decide +kernel
theorem dX4_append_18 : decode cX4_append 18 = .ok (.i2b, 1) := by decide +kernel
theorem dX4_append_19 : decode cX4_append 19 = .ok (.bastore, 1) := by decide +kernel
theorem dX4_append_20 : decode cX4_append 20 = .ok (.aload_n 0, 1) := by decide +kernel
theorem dX4_append_21 : decode cX4_append 21 = .ok (.dup, 1) := by decide +kernel
theorem dX4_append_22 : decode cX4_append 22 = .ok (.getfield 15, 3) := by decide +kernel
theorem dX4_append_25 : decode cX4_append 25 = .ok (.iconst 1, 1) := by decide +kernel
theorem dX4_append_26 : decode cX4_append 26 = .ok (.iadd, 1) := by decide +kernel
theorem dX4_append_27 : decode cX4_append 27 = .ok (.putfield 15, 3) := by decide +kernel
theorem dX4_append_30 : decode cX4_append 30 = .ok (.return_, 1) := by decide +kernel
theorem dX4_readInto_0 : decode cX4_readInto 0 = .ok (.aload_n 1, 1) := by decide +kernel
theorem dX4_readInto_1 : decode cX4_readInto 1 = .ok (.iconst 0, 1) := by decide +kernel
theorem dX4_readInto_2 : decode cX4_readInto 2 = .ok (.putfield 25, 3) := by decide +kernel
theorem dX4_readInto_5 : decode cX4_readInto 5 = .ok (.aload_n 0, 1) := by decide +kernel
theorem dX4_readInto_6 : decode cX4_readInto 6 = .ok (.iconst 0, 1) := by decide +kernel
theorem dX4_readInto_7 : decode cX4_readInto 7 = .ok (.putfield 19, 3) := by decide +kernel
theorem dX4_readInto_10 : decode cX4_readInto 10 = .ok (.aload_n 0, 1) := by decide +kernel
theorem dX4_readInto_11 : decode cX4_readInto 11 = .ok (.iconst (-1), 1) := by decide +kernel
theorem dX4_readInto_12 : decode cX4_readInto 12 = .ok (.putfield 22, 3) := by decide +kernel
theorem dX4_readInto_15 : decode cX4_readInto 15 = .ok (.aload_n 0, 1) := by decide +kernel
theorem dX4_readInto_16 : decode cX4_readInto 16 = .ok (.aload_n 1, 1) := by decide +kernel
theorem dX4_readInto_17 : decode cX4_readInto 17 = .ok (.iconst 0, 1) := by decide +kernel
theorem dX4_readInto_18 : decode cX4_readInto 18 = .ok (.invokevirtual 30, 3) := by decide +kernel
theorem dX4_readInto_21 : decode cX4_readInto 21 = .ok (.aload_n 0, 1) := by decide +kernel
theorem dX4_readInto_22 : decode cX4_readInto 22 = .ok (.getfield 19, 3) := by decide +kernel
theorem dX4_readInto_25 : decode cX4_readInto 25 = .ok (.aload_n 0, 1) := by decide +kernel
theorem dX4_readInto_26 : decode cX4_readInto 26 = .ok (.getfield 15, 3) := by decide +kernel
theorem dX4_readInto_29 : decode cX4_readInto 29 = .ok (.if_icmp .ge 7, 3) := by decide +kernel
theorem dX4_readInto_32 : decode cX4_readInto 32 = .ok (.aload_n 0, 1) := by decide +kernel
theorem dX4_readInto_33 : decode cX4_readInto 33 = .ok (.invokevirtual 34, 3) := by decide +kernel
theorem dX4_readInto_36 : decode cX4_readInto 36 = .ok (.aload_n 0, 1) := by decide +kernel
theorem dX4_readInto_37 : decode cX4_readInto 37 = .ok (.getfield 22, 3) := by decide +kernel
theorem dX4_readInto_40 : decode cX4_readInto 40 = .ok (.ireturn, 1) := by decide +kernel
theorem dX4_readEither_0 : decode cX4_readEither 0 = .ok (.aload_n 0, 1) := by decide +kernel
theorem dX4_readEither_1 : decode cX4_readEither 1 = .ok (.aload_n 1, 1) := by decide +kernel
theorem dX4_readEither_2 : decode cX4_readEither 2 = .ok (.iload_n 2, 1) := by decide +kernel
theorem dX4_readEither_3 : decode cX4_readEither 3 = .ok (.invokevirtual 37, 3) := by decide +kernel
theorem dX4_readEither_6 : decode cX4_readEither 6 = .ok (.iconst 0, 1) := by decide +kernel
theorem dX4_readEither_7 : decode cX4_readEither 7 = .ok (.istore_n 3, 1) := by decide +kernel
theorem dX4_readEither_8 : decode cX4_readEither 8 = .ok (.iload_n 3, 1) := by decide +kernel
theorem dX4_readEither_9 : decode cX4_readEither 9 = .ok (.bipush 100, 2) := by decide +kernel
theorem dX4_readEither_11 : decode cX4_readEither 11 = .ok (.if_icmp .ge 36, 3) := by decide +kernel
theorem dX4_readEither_14 : decode cX4_readEither 14 = .ok (.aload_n 0, 1) := by decide +kernel
theorem dX4_readEither_15 : decode cX4_readEither 15 = .ok (.ldc 40, 2) := by decide +kernel
theorem dX4_readEither_17 : decode cX4_readEither 17 = .ok (.invokevirtual 42, 3) := by decide +kernel
theorem dX4_readEither_20 : decode cX4_readEither 20 = .ok (.ifCond .eq 27, 3) := by decide +kernel
theorem dX4_readEither_23 : decode cX4_readEither 23 = .ok (.aload_n 0, 1) := by decide +kernel
theorem dX4_readEither_24 : decode cX4_readEither 24 = .ok (.ldc 40, 2) := by decide +kernel
theorem dX4_readEither_26 : decode cX4_readEither 26 = .ok (.invokevirtual 46, 3) := by decide +kernel
theorem dX4_readEither_29 : decode cX4_readEither 29 = .ok (.aload_n 0, 1) := by decide +kernel
theorem dX4_readEither_30 : decode cX4_readEither 30 = .ok (.aload_n 1, 1) := by decide +kernel
theorem dX4_readEither_31 : decode cX4_readEither 31 = .ok (.iload_n 2, 1) := by decide +kernel
theorem dX4_readEither_32 : decode cX4_readEither 32 = .ok (.invokevirtual 37, 3) := by decide +kernel
theorem dX4_readEither_35 : decode cX4_readEither 35 = .ok (.aload_n 1, 1) := by decide +kernel
theorem dX4_readEither_36 : decode cX4_readEither 36 = .ok (.bipush 6, 2) := by decide +kernel
theorem dX4_readEither_38 : decode cX4_readEither 38 = .ok (.invokevirtual 50, 3) := by decide +kernel
theorem dX4_readEither_41 : decode cX4_readEither 41 = .ok (.iinc 3 1, 3) := by decide +kernel
theorem dX4_readEither_44 : decode cX4_readEither 44 = .ok (.goto (-36), 3) := by decide +kernel
theorem dX4_readEither_47 : decode cX4_readEither 47 = .ok (.return_, 1) := by decide +kernel
theorem dX4_readBoth_0 : decode cX4_readBoth 0 = .ok (.aload_n 0, 1) := by decide +kernel
theorem dX4_readBoth_1 : decode cX4_readBoth 1 = .ok (.aload_n 1, 1) := by decide +kernel
theorem dX4_readBoth_2 : decode cX4_readBoth 2 = .ok (.iload_n 2, 1) := by decide +kernel
theorem dX4_readBoth_3 : decode cX4_readBoth 3 = .ok (.invokevirtual 54, 3) := by decide +kernel
theorem dX4_readBoth_6 : decode cX4_readBoth 6 = .ok (.iconst 0, 1) := by decide +kernel
theorem dX4_readBoth_7 : decode cX4_readBoth 7 = .ok (.istore_n 3, 1) := by decide +kernel
theorem dX4_readBoth_8 : decode cX4_readBoth 8 = .ok (.iload_n 3, 1) := by decide +kernel
theorem dX4_readBoth_9 : decode cX4_readBoth 9 = .ok (.bipush 100, 2) := by decide +kernel
theorem dX4_readBoth_11 : decode cX4_readBoth 11 = .ok (.if_icmp .ge 35, 3) := by decide +kernel
theorem dX4_readBoth_14 : decode cX4_readBoth 14 = .ok (.aload_n 0, 1) := by decide +kernel
theorem dX4_readBoth_15 : decode cX4_readBoth 15 = .ok (.ldc 57, 2) := by decide +kernel
theorem dX4_readBoth_17 : decode cX4_readBoth 17 = .ok (.invokevirtual 42, 3) := by decide +kernel
theorem dX4_readBoth_20 : decode cX4_readBoth 20 = .ok (.ifCond .eq 26, 3) := by decide +kernel
theorem dX4_readBoth_23 : decode cX4_readBoth 23 = .ok (.aload_n 0, 1) := by decide +kernel
theorem dX4_readBoth_24 : decode cX4_readBoth 24 = .ok (.ldc 57, 2) := by decide +kernel
theorem dX4_readBoth_26 : decode cX4_readBoth 26 = .ok (.invokevirtual 46, 3) := by decide +kernel
theorem dX4_readBoth_29 : decode cX4_readBoth 29 = .ok (.aload_n 0, 1) := by decide +kernel
theorem dX4_readBoth_30 : decode cX4_readBoth 30 = .ok (.aload_n 1, 1) := by decide +kernel
theorem dX4_readBoth_31 : decode cX4_readBoth 31 = .ok (.iload_n 2, 1) := by decide +kernel
theorem dX4_readBoth_32 : decode cX4_readBoth 32 = .ok (.invokevirtual 54, 3) := by decide +kernel
theorem dX4_readBoth_35 : decode cX4_readBoth 35 = .ok (.aload_n 1, 1) := by decide +kernel
theorem dX4_readBoth_36 : decode cX4_readBoth 36 = .ok (.iconst 5, 1) := by decide +kernel
theorem dX4_readBoth_37 : decode cX4_readBoth 37 = .ok (.invokevirtual 50, 3) := by decide +kernel
theorem dX4_readBoth_40 : decode cX4_readBoth 40 = .ok (.iinc 3 1, 3) := by decide +kernel
theorem dX4_readBoth_43 : decode cX4_readBoth 43 = .ok (.goto (-35), 3) := by decide +kernel
theorem dX4_readBoth_46 : decode cX4_readBoth 46 = .ok (.return_, 1) := by decide +kernel
theorem dX4_readFactor_0 : decode cX4_readFactor 0 = .ok (.aload_n 0, 1) := by decide +kernel
theorem dX4_readFactor_1 : decode cX4_readFactor 1 = .ok (.getfield 22, 3) := by decide +kernel
theorem dX4_readFactor_4 : decode cX4_readFactor 4 = .ok (.iconst (-1), 1) := by decide +kernel
theorem dX4_readFactor_5 : decode cX4_readFactor 5 = .ok (.if_icmp .eq 4, 3) := by decide +kernel
theorem dX4_readFactor_8 : decode cX4_readFactor 8 = .ok (.return_, 1) := by decide +kernel
theorem dX4_readFactor_9 : decode cX4_readFactor 9 = .ok (.aload_n 0, 1) := by decide +kernel
theorem dX4_readFactor_10 : decode cX4_readFactor 10 = .ok (.aload_n 0, 1) := by decide +kernel
theorem dX4_readFactor_11 : decode cX4_readFactor 11 = .ok (.getfield 19, 3) := by decide +kernel
theorem dX4_readFactor_14 : decode cX4_readFactor 14 = .ok (.ldc 59, 2) := by decide +kernel
theorem dX4_readFactor_16 : decode cX4_readFactor 16 = .ok (.invokevirtual 61, 3) := by decide +kernel
theorem dX4_readFactor_19 : decode cX4_readFactor 19 = .ok (.istore_n 3, 1) := by decide +kernel
theorem dX4_readFactor_20 : decode cX4_readFactor 20 = .ok (.aload_n 0, 1) := by decide +kernel
theorem dX4_readFactor_21 : decode cX4_readFactor 21 = .ok (.aload_n 0, 1) := by decide +kernel
theorem dX4_readFactor_22 : decode cX4_readFactor 22 = .ok (.getfield 19, 3) := by decide +kernel
theorem dX4_readFactor_25 : decode cX4_readFactor 25 = .ok (.invokevirtual 65, 3) := by decide +kernel
theorem dX4_readFactor_28 : decode cX4_readFactor 28 = .ok (.bipush 40, 2) := by decide +kernel
theorem dX4_readFactor_30 : decode cX4_readFactor 30 = .ok (.if_icmp .ne 7, 3) := by decide +kernel
theorem dX4_readFactor_33 : decode cX4_readFactor 33 = .ok (.iconst 1, 1) := by decide +kernel
theorem dX4_readFactor_34 : decode cX4_readFactor 34 = .ok (.goto 4, 3) := by decide +kernel
theorem dX4_readFactor_37 : decode cX4_readFactor 37 = .ok (.iconst 0, 1) := by decide +kernel
theorem dX4_readFactor_38 : decode cX4_readFactor 38 = .ok (.istore 4, 2) := by decide +kernel
theorem dX4_readFactor_40 : decode cX4_readFactor 40 = .ok (.iload_n 3, 1) := by decide +kernel
theorem dX4_readFactor_41 : decode cX4_readFactor 41 = .ok (.ifCond .ne 8, 3) := by decide +kernel
theorem dX4_readFactor_44 : decode cX4_readFactor 44 = .ok (.iload 4, 2) := by decide +kernel
theorem dX4_readFactor_46 : decode cX4_readFactor 46 = .ok (.ifCond .eq 20, 3) := by decide +kernel
theorem dX4_readFactor_49 : decode cX4_readFactor 49 = .ok (.iload_n 2, 1) := by decide +kernel
theorem dX4_readFactor_50 : decode cX4_readFactor 50 = .ok (.bipush 6, 2) := by decide +kernel
theorem dX4_readFactor_52 : decode cX4_readFactor 52 = .ok (.if_icmp .lt 14, 3) := by decide +kernel
theorem dX4_readFactor_55 : decode cX4_readFactor 55 = .ok (.aload_n 0, 1) := by decide +kernel
theorem dX4_readFactor_56 : decode cX4_readFactor 56 = .ok (.aload_n 0, 1) := by decide +kernel
theorem dX4_readFactor_57 : decode cX4_readFactor 57 = .ok (.getfield 19, 3) := by decide +kernel
theorem dX4_readFactor_60 : decode cX4_readFactor 60 = .ok (.invokevirtual 69, 3) := by decide +kernel
theorem dX4_readFactor_63 : decode cX4_readFactor 63 = .ok (.goto 96, 3) := by decide +kernel
theorem dX4_readFactor_66 : decode cX4_readFactor 66 = .ok (.iload_n 3, 1) := by decide +kernel
theorem dX4_readFactor_67 : decode cX4_readFactor 67 = .ok (.ifCond .eq 31, 3) := by decide +kernel
theorem dX4_readFactor_70 : decode cX4_readFactor 70 = .ok (.aload_n 0, 1) := by decide +kernel
theorem dX4_readFactor_71 : decode cX4_readFactor 71 = .ok (.ldc 59, 2) := by decide +kernel
theorem dX4_readFactor_73 : decode cX4_readFactor 73 = .ok (.invokevirtual 72, 3) := by decide +kernel
theorem dX4_readFactor_76 : decode cX4_readFactor 76 = .ok (.aload_n 0, 1) := by decide +kernel
theorem dX4_readFactor_77 : decode cX4_readFactor 77 = .ok (.bipush 32, 2) := by decide +kernel
theorem dX4_readFactor_79 : decode cX4_readFactor 79 = .ok (.invokevirtual 75, 3) := by decide +kernel
theorem dX4_readFactor_82 : decode cX4_readFactor 82 = .ok (.aload_n 0, 1) := by decide +kernel
theorem dX4_readFactor_83 : decode cX4_readFactor 83 = .ok (.aload_n 1, 1) := by decide +kernel
theorem dX4_readFactor_84 : decode cX4_readFactor 84 = .ok (.iload_n 2, 1) := by decide +kernel
theorem dX4_readFactor_85 : decode cX4_readFactor 85 = .ok (.iconst 1, 1) := by decide +kernel
theorem dX4_readFactor_86 : decode cX4_readFactor 86 = .ok (.iadd, 1) := by decide +kernel
theorem dX4_readFactor_87 : decode cX4_readFactor 87 = .ok (.invokevirtual 54, 3) := by decide +kernel
theorem dX4_readFactor_90 : decode cX4_readFactor 90 = .ok (.aload_n 1, 1) := by decide +kernel
theorem dX4_readFactor_91 : decode cX4_readFactor 91 = .ok (.iconst 4, 1) := by decide +kernel
theorem dX4_readFactor_92 : decode cX4_readFactor 92 = .ok (.invokevirtual 50, 3) := by decide +kernel
theorem dX4_readFactor_95 : decode cX4_readFactor 95 = .ok (.goto 64, 3) := by decide +kernel
theorem dX4_readFactor_98 : decode cX4_readFactor 98 = .ok (.iload 4, 2) := by decide +kernel
theorem dX4_readFactor_100 : decode cX4_readFactor 100 = .ok (.ifCond .eq 24, 3) := by decide +kernel
theorem dX4_readFactor_103 : decode cX4_readFactor 103 = .ok (.aload_n 0, 1) := by decide +kernel
theorem dX4_readFactor_104 : decode cX4_readFactor 104 = .ok (.bipush 40, 2) := by decide +kernel
theorem dX4_readFactor_106 : decode cX4_readFactor 106 = .ok (.invokevirtual 75, 3) := by decide +kernel
theorem dX4_readFactor_109 : decode cX4_readFactor 109 = .ok (.aload_n 0, 1) := by decide +kernel
theorem dX4_readFactor_110 : decode cX4_readFactor 110 = .ok (.aload_n 1, 1) := by decide +kernel
theorem dX4_readFactor_111 : decode cX4_readFactor 111 = .ok (.iload_n 2, 1) := by decide +kernel
theorem dX4_readFactor_112 : decode cX4_readFactor 112 = .ok (.iconst 1, 1) := by decide +kernel
theorem dX4_readFactor_113 : decode cX4_readFactor 113 = .ok (.iadd, 1) := by decide +kernel
theorem dX4_readFactor_114 : decode cX4_readFactor 114 = .ok (.invokevirtual 30, 3) := by decide +kernel
theorem dX4_readFactor_117 : decode cX4_readFactor 117 = .ok (.aload_n 0, 1) := by decide +kernel
theorem dX4_readFactor_118 : decode cX4_readFactor 118 = .ok (.invokevirtual 79, 3) := by decide +kernel
theorem dX4_readFactor_121 : decode cX4_readFactor 121 = .ok (.goto 38, 3) := by decide +kernel
theorem dX4_readFactor_124 : decode cX4_readFactor 124 = .ok (.aload_n 0, 1) := by decide +kernel
theorem dX4_readFactor_125 : decode cX4_readFactor 125 = .ok (.aload_n 0, 1) := by decide +kernel
theorem dX4_readFactor_126 : decode cX4_readFactor 126 = .ok (.getfield 19, 3) := by decide +kernel
theorem dX4_readFactor_129 : decode cX4_readFactor 129 = .ok (.ldc 82, 2) := by decide +kernel
theorem dX4_readFactor_131 : decode cX4_readFactor 131 = .ok (.invokevirtual 61, 3) := by decide +kernel
theorem dX4_readFactor_134 : decode cX4_readFactor 134 = .ok (.ifCond .eq 20, 3) := by decide +kernel
theorem dX4_readFactor_137 : decode cX4_readFactor 137 = .ok (.aload_n 0, 1) := by decide +kernel
theorem dX4_readFactor_138 : decode cX4_readFactor 138 = .ok (.ldc 82, 2) := by decide +kernel
theorem dX4_readFactor_140 : decode cX4_readFactor 140 = .ok (.invokevirtual 72, 3) := by decide +kernel
theorem dX4_readFactor_143 : decode cX4_readFactor 143 = .ok (.aload_n 1, 1) := by decide +kernel
theorem dX4_readFactor_144 : decode cX4_readFactor 144 = .ok (.iconst 0, 1) := by decide +kernel
theorem dX4_readFactor_145 : decode cX4_readFactor 145 = .ok (.iconst 0, 1) := by decide +kernel
theorem dX4_readFactor_146 : decode cX4_readFactor 146 = .ok (.iconst 0, 1) := by decide +kernel
theorem dX4_readFactor_147 : decode cX4_readFactor 147 = .ok (.iconst 0, 1) := by decide +kernel
theorem dX4_readFactor_148 : decode cX4_readFactor 148 = .ok (.invokevirtual 84, 3) := by decide +kernel
theorem dX4_readFactor_151 : decode cX4_readFactor 151 = .ok (.goto 8, 3) := by decide +kernel
theorem dX4_readFactor_154 : decode cX4_readFactor 154 = .ok (.aload_n 0, 1) := by decide +kernel
theorem dX4_readFactor_155 : decode cX4_readFactor 155 = .ok (.aload_n 1, 1) := by decide +kernel
theorem dX4_readFactor_156 : decode cX4_readFactor 156 = .ok (.invokevirtual 88, 3) := by decide +kernel
theorem dX4_readFactor_159 : decode cX4_readFactor 159 = .ok (.return_, 1) := by decide +kernel
theorem dX4_readQuestion_0 : decode cX4_readQuestion 0 = .ok (.aload_n 0, 1) := by decide +kernel
theorem dX4_readQuestion_1 : decode cX4_readQuestion 1 = .ok (.invokevirtual 92, 3) := by decide +kernel
theorem dX4_readQuestion_4 : decode cX4_readQuestion 4 = .ok (.istore_n 2, 1) := by decide +kernel
theorem dX4_readQuestion_5 : decode cX4_readQuestion 5 = .ok (.aload_n 0, 1) := by decide +kernel
theorem dX4_readQuestion_6 : decode cX4_readQuestion 6 = .ok (.bipush 32, 2) := by decide +kernel
theorem dX4_readQuestion_8 : decode cX4_readQuestion 8 = .ok (.invokevirtual 75, 3) := by decide +kernel
theorem dX4_readQuestion_11 : decode cX4_readQuestion 11 = .ok (.aload_n 0, 1) := by decide +kernel
theorem dX4_readQuestion_12 : decode cX4_readQuestion 12 = .ok (.aload_n 0, 1) := by decide +kernel
theorem dX4_readQuestion_13 : decode cX4_readQuestion 13 = .ok (.getfield 19, 3) := by decide +kernel
theorem dX4_readQuestion_16 : decode cX4_readQuestion 16 = .ok (.ldc 96, 2) := by decide +kernel
theorem dX4_readQuestion_18 : decode cX4_readQuestion 18 = .ok (.invokevirtual 61, 3) := by decide +kernel
theorem dX4_readQuestion_21 : decode cX4_readQuestion 21 = .ok (.istore_n 3, 1) := by decide +kernel
theorem dX4_readQuestion_22 : decode cX4_readQuestion 22 = .ok (.aload_n 0, 1) := by decide +kernel
theorem dX4_readQuestion_23 : decode cX4_readQuestion 23 = .ok (.aload_n 0, 1) := by decide +kernel
theorem dX4_readQuestion_24 : decode cX4_readQuestion 24 = .ok (.getfield 19, 3) := by decide +kernel
theorem dX4_readQuestion_27 : decode cX4_readQuestion 27 = .ok (.ldc 98, 2) := by decide +kernel
theorem dX4_readQuestion_29 : decode cX4_readQuestion 29 = .ok (.invokevirtual 61, 3) := by decide +kernel
theorem dX4_readQuestion_32 : decode cX4_readQuestion 32 = .ok (.istore 4, 2) := by decide +kernel
theorem dX4_readQuestion_34 : decode cX4_readQuestion 34 = .ok (.iload_n 3, 1) := by decide +kernel
theorem dX4_readQuestion_35 : decode cX4_readQuestion 35 = .ok (.ifCond .ne 30, 3) := by decide +kernel
theorem dX4_readQuestion_38 : decode cX4_readQuestion 38 = .ok (.iload 4, 2) := by decide +kernel
theorem dX4_readQuestion_40 : decode cX4_readQuestion 40 = .ok (.ifCond .ne 25, 3) := by decide +kernel
theorem dX4_readQuestion_43 : decode cX4_readQuestion 43 = .ok (.aload_n 0, 1) := by decide +kernel
theorem dX4_readQuestion_44 : decode cX4_readQuestion 44 = .ok (.aload_n 0, 1) := by decide +kernel
theorem dX4_readQuestion_45 : decode cX4_readQuestion 45 = .ok (.getfield 19, 3) := by decide +kernel
theorem dX4_readQuestion_48 : decode cX4_readQuestion 48 = .ok (.ldc 100, 2) := by decide +kernel
theorem dX4_readQuestion_50 : decode cX4_readQuestion 50 = .ok (.invokevirtual 61, 3) := by decide +kernel
theorem dX4_readQuestion_53 : decode cX4_readQuestion 53 = .ok (.ifCond .ne 12, 3) := by decide +kernel
theorem dX4_readQuestion_56 : decode cX4_readQuestion 56 = .ok (.aload_n 0, 1) := by decide +kernel
theorem dX4_readQuestion_57 : decode cX4_readQuestion 57 = .ok (.aload_n 0, 1) := by decide +kernel
theorem dX4_readQuestion_58 : decode cX4_readQuestion 58 = .ok (.getfield 19, 3) := by decide +kernel
theorem dX4_readQuestion_61 : decode cX4_readQuestion 61 = .ok (.invokevirtual 69, 3) := by decide +kernel
theorem dX4_readQuestion_64 : decode cX4_readQuestion 64 = .ok (.return_, 1) := by decide +kernel
theorem dX4_readQuestion_65 : decode cX4_readQuestion 65 = .ok (.aload_n 0, 1) := by decide +kernel
theorem dX4_readQuestion_66 : decode cX4_readQuestion 66 = .ok (.iload_n 3, 1) := by decide +kernel
theorem dX4_readQuestion_67 : decode cX4_readQuestion 67 = .ok (.ifCond .eq 8, 3) := by decide +kernel
theorem dX4_readQuestion_70 : decode cX4_readQuestion 70 = .ok (.ldc 96, 2) := by decide +kernel
theorem dX4_readQuestion_72 : decode cX4_readQuestion 72 = .ok (.goto 15, 3) := by decide +kernel
theorem dX4_readQuestion_75 : decode cX4_readQuestion 75 = .ok (.iload 4, 2) := by decide +kernel
theorem dX4_readQuestion_77 : decode cX4_readQuestion 77 = .ok (.ifCond .eq 8, 3) := by decide +kernel
theorem dX4_readQuestion_80 : decode cX4_readQuestion 80 = .ok (.ldc 98, 2) := by decide +kernel
theorem dX4_readQuestion_82 : decode cX4_readQuestion 82 = .ok (.goto 5, 3) := by decide +kernel
theorem dX4_readQuestion_85 : decode cX4_readQuestion 85 = .ok (.ldc 100, 2) := by decide +kernel
theorem dX4_readQuestion_87 : decode cX4_readQuestion 87 = .ok (.invokevirtual 72, 3) := by decide +kernel
theorem dX4_readQuestion_90 : decode cX4_readQuestion 90 = .ok (.aload_n 0, 1) := by decide +kernel
theorem dX4_readQuestion_91 : decode cX4_readQuestion 91 = .ok (.bipush 32, 2) := by decide +kernel
theorem dX4_readQuestion_93 : decode cX4_readQuestion 93 = .ok (.invokevirtual 75, 3) := by decide +kernel
theorem dX4_readQuestion_96 : decode cX4_readQuestion 96 = .ok (.aload_n 0, 1) := by decide +kernel
theorem dX4_readQuestion_97 : decode cX4_readQuestion 97 = .ok (.invokevirtual 102, 3) := by decide +kernel
theorem dX4_readQuestion_100 : decode cX4_readQuestion 100 = .ok (.istore 5, 2) := by decide +kernel
theorem dX4_readQuestion_102 : decode cX4_readQuestion 102 = .ok (.iload_n 3, 1) := by decide +kernel
theorem dX4_readQuestion_103 : decode cX4_readQuestion 103 = .ok (.ifCond .eq 16, 3) := by decide +kernel
theorem dX4_readQuestion_106 : decode cX4_readQuestion 106 = .ok (.aload_n 1, 1) := by decide +kernel
theorem dX4_readQuestion_107 : decode cX4_readQuestion 107 = .ok (.iconst 1, 1) := by decide +kernel
theorem dX4_readQuestion_108 : decode cX4_readQuestion 108 = .ok (.iload_n 2, 1) := by decide +kernel
theorem dX4_readQuestion_109 : decode cX4_readQuestion 109 = .ok (.iload 5, 2) := by decide +kernel
theorem dX4_readQuestion_111 : decode cX4_readQuestion 111 = .ok (.iload 5, 2) := by decide +kernel
theorem dX4_readQuestion_113 : decode cX4_readQuestion 113 = .ok (.invokevirtual 84, 3) := by decide +kernel
theorem dX4_readQuestion_116 : decode cX4_readQuestion 116 = .ok (.goto 46, 3) := by decide +kernel
theorem dX4_readQuestion_119 : decode cX4_readQuestion 119 = .ok (.iload 4, 2) := by decide +kernel
theorem dX4_readQuestion_121 : decode cX4_readQuestion 121 = .ok (.ifCond .eq 17, 3) := by decide +kernel
theorem dX4_readQuestion_124 : decode cX4_readQuestion 124 = .ok (.aload_n 1, 1) := by decide +kernel
theorem dX4_readQuestion_125 : decode cX4_readQuestion 125 = .ok (.iconst 2, 1) := by decide +kernel
theorem dX4_readQuestion_126 : decode cX4_readQuestion 126 = .ok (.iload_n 2, 1) := by decide +kernel
theorem dX4_readQuestion_127 : decode cX4_readQuestion 127 = .ok (.iconst 0, 1) := by decide +kernel
theorem dX4_readQuestion_128 : decode cX4_readQuestion 128 = .ok (.iload 5, 2) := by decide +kernel
theorem dX4_readQuestion_130 : decode cX4_readQuestion 130 = .ok (.iconst 1, 1) := by decide +kernel
theorem dX4_readQuestion_131 : decode cX4_readQuestion 131 = .ok (.isub, 1) := by decide +kernel
theorem dX4_readQuestion_132 : decode cX4_readQuestion 132 = .ok (.invokevirtual 84, 3) := by decide +kernel
theorem dX4_readQuestion_135 : decode cX4_readQuestion 135 = .ok (.goto 27, 3) := by decide +kernel
theorem dX4_readQuestion_138 : decode cX4_readQuestion 138 = .ok (.aload_n 0, 1) := by decide +kernel
theorem dX4_readQuestion_139 : decode cX4_readQuestion 139 = .ok (.bipush 46, 2) := by decide +kernel
theorem dX4_readQuestion_141 : decode cX4_readQuestion 141 = .ok (.invokevirtual 75, 3) := by decide +kernel
theorem dX4_readQuestion_144 : decode cX4_readQuestion 144 = .ok (.aload_n 0, 1) := by decide +kernel
theorem dX4_readQuestion_145 : decode cX4_readQuestion 145 = .ok (.bipush 46, 2) := by decide +kernel
theorem dX4_readQuestion_147 : decode cX4_readQuestion 147 = .ok (.invokevirtual 75, 3) := by decide +kernel
theorem dX4_readQuestion_150 : decode cX4_readQuestion 150 = .ok (.aload_n 1, 1) := by decide +kernel
theorem dX4_readQuestion_151 : decode cX4_readQuestion 151 = .ok (.iconst 3, 1) := by decide +kernel
theorem dX4_readQuestion_152 : decode cX4_readQuestion 152 = .ok (.iload_n 2, 1) := by decide +kernel
theorem dX4_readQuestion_153 : decode cX4_readQuestion 153 = .ok (.iload 5, 2) := by decide +kernel
theorem dX4_readQuestion_155 : decode cX4_readQuestion 155 = .ok (.aload_n 0, 1) := by decide +kernel
theorem dX4_readQuestion_156 : decode cX4_readQuestion 156 = .ok (.invokevirtual 102, 3) := by decide +kernel
theorem dX4_readQuestion_159 : decode cX4_readQuestion 159 = .ok (.invokevirtual 84, 3) := by decide +kernel
theorem dX4_readQuestion_162 : decode cX4_readQuestion 162 = .ok (.return_, 1) := by decide +kernel
theorem dX4_passColumn_0 : decode cX4_passColumn 0 = .ok (.aload_n 0, 1) := by decide +kernel
theorem dX4_passColumn_1 : decode cX4_passColumn 1 = .ok (.aload_n 0, 1) := by decide +kernel
theorem dX4_passColumn_2 : decode cX4_passColumn 2 = .ok (.getfield 19, 3) := by decide +kernel
theorem dX4_passColumn_5 : decode cX4_passColumn 5 = .ok (.invokevirtual 65, 3) := by decide +kernel
theorem dX4_passColumn_8 : decode cX4_passColumn 8 = .ok (.istore_n 1, 1) := by decide +kernel
theorem dX4_passColumn_9 : decode cX4_passColumn 9 = .ok (.iload_n 1, 1) := by decide +kernel
theorem dX4_passColumn_10 : decode cX4_passColumn 10 = .ok (.bipush 97, 2) := by decide +kernel
theorem dX4_passColumn_12 : decode cX4_passColumn 12 = .ok (.if_icmp .lt 25, 3) := by decide +kernel
theorem dX4_passColumn_15 : decode cX4_passColumn 15 = .ok (.iload_n 1, 1) := by decide +kernel
theorem dX4_passColumn_16 : decode cX4_passColumn 16 = .ok (.bipush 101, 2) := by decide +kernel
theorem dX4_passColumn_18 : decode cX4_passColumn 18 = .ok (.if_icmp .ge 19, 3) := by decide +kernel
theorem dX4_passColumn_21 : decode cX4_passColumn 21 = .ok (.aload_n 0, 1) := by decide +kernel
theorem dX4_passColumn_22 : decode cX4_passColumn 22 = .ok (.aload_n 0, 1) := by decide +kernel
theorem dX4_passColumn_23 : decode cX4_passColumn 23 = .ok (.getfield 19, 3) := by decide +kernel
theorem dX4_passColumn_26 : decode cX4_passColumn 26 = .ok (.iconst 1, 1) := by decide +kernel
theorem dX4_passColumn_27 : decode cX4_passColumn 27 = .ok (.iadd, 1) := by decide +kernel
theorem dX4_passColumn_28 : decode cX4_passColumn 28 = .ok (.invokevirtual 65, 3) := by decide +kernel
theorem dX4_passColumn_31 : decode cX4_passColumn 31 = .ok (.invokestatic 105, 3) := by decide +kernel
theorem dX4_passColumn_34 : decode cX4_passColumn 34 = .ok (.ifCond .eq 13, 3) := by decide +kernel
theorem dX4_passColumn_37 : decode cX4_passColumn 37 = .ok (.aload_n 0, 1) := by decide +kernel
theorem dX4_passColumn_38 : decode cX4_passColumn 38 = .ok (.aload_n 0, 1) := by decide +kernel
theorem dX4_passColumn_39 : decode cX4_passColumn 39 = .ok (.getfield 19, 3) := by decide +kernel
theorem dX4_passColumn_42 : decode cX4_passColumn 42 = .ok (.invokevirtual 69, 3) := by decide +kernel
theorem dX4_passColumn_45 : decode cX4_passColumn 45 = .ok (.iconst (-1), 1) := by decide +kernel
theorem dX4_passColumn_46 : decode cX4_passColumn 46 = .ok (.ireturn, 1) := by decide +kernel
theorem dX4_passColumn_47 : decode cX4_passColumn 47 = .ok (.aload_n 0, 1) := by decide +kernel
theorem dX4_passColumn_48 : decode cX4_passColumn 48 = .ok (.dup, 1) := by decide +kernel
theorem dX4_passColumn_49 : decode cX4_passColumn 49 = .ok (.getfield 19, 3) := by decide +kernel
theorem dX4_passColumn_52 : decode cX4_passColumn 52 = .ok (.iconst 1, 1) := by decide +kernel
theorem dX4_passColumn_53 : decode cX4_passColumn 53 = .ok (.iadd, 1) := by decide +kernel
theorem dX4_passColumn_54 : decode cX4_passColumn 54 = .ok (.putfield 19, 3) := by decide +kernel
theorem dX4_passColumn_57 : decode cX4_passColumn 57 = .ok (.iload_n 1, 1) := by decide +kernel
theorem dX4_passColumn_58 : decode cX4_passColumn 58 = .ok (.bipush 97, 2) := by decide +kernel
theorem dX4_passColumn_60 : decode cX4_passColumn 60 = .ok (.isub, 1) := by decide +kernel
theorem dX4_passColumn_61 : decode cX4_passColumn 61 = .ok (.ireturn, 1) := by decide +kernel
theorem dX4_passValue_0 : decode cX4_passValue 0 = .ok (.aload_n 0, 1) := by decide +kernel
theorem dX4_passValue_1 : decode cX4_passValue 1 = .ok (.aload_n 0, 1) := by decide +kernel
theorem dX4_passValue_2 : decode cX4_passValue 2 = .ok (.getfield 19, 3) := by decide +kernel
theorem dX4_passValue_5 : decode cX4_passValue 5 = .ok (.invokevirtual 65, 3) := by decide +kernel
theorem dX4_passValue_8 : decode cX4_passValue 8 = .ok (.invokestatic 109, 3) := by decide +kernel
theorem dX4_passValue_11 : decode cX4_passValue 11 = .ok (.ifCond .ne 13, 3) := by decide +kernel
theorem dX4_passValue_14 : decode cX4_passValue 14 = .ok (.aload_n 0, 1) := by decide +kernel
theorem dX4_passValue_15 : decode cX4_passValue 15 = .ok (.aload_n 0, 1) := by decide +kernel
theorem dX4_passValue_16 : decode cX4_passValue 16 = .ok (.getfield 19, 3) := by decide +kernel
theorem dX4_passValue_19 : decode cX4_passValue 19 = .ok (.invokevirtual 69, 3) := by decide +kernel
theorem dX4_passValue_22 : decode cX4_passValue 22 = .ok (.iconst 0, 1) := by decide +kernel
theorem dX4_passValue_23 : decode cX4_passValue 23 = .ok (.ireturn, 1) := by decide +kernel
theorem dX4_passValue_24 : decode cX4_passValue 24 = .ok (.aload_n 0, 1) := by decide +kernel
theorem dX4_passValue_25 : decode cX4_passValue 25 = .ok (.aload_n 0, 1) := by decide +kernel
theorem dX4_passValue_26 : decode cX4_passValue 26 = .ok (.getfield 19, 3) := by decide +kernel
theorem dX4_passValue_29 : decode cX4_passValue 29 = .ok (.invokevirtual 65, 3) := by decide +kernel
theorem dX4_passValue_32 : decode cX4_passValue 32 = .ok (.bipush 48, 2) := by decide +kernel
theorem dX4_passValue_34 : decode cX4_passValue 34 = .ok (.isub, 1) := by decide +kernel
theorem dX4_passValue_35 : decode cX4_passValue 35 = .ok (.istore_n 1, 1) := by decide +kernel
theorem dX4_passValue_36 : decode cX4_passValue 36 = .ok (.aload_n 0, 1) := by decide +kernel
theorem dX4_passValue_37 : decode cX4_passValue 37 = .ok (.dup, 1) := by decide +kernel
theorem dX4_passValue_38 : decode cX4_passValue 38 = .ok (.getfield 19, 3) := by decide +kernel
theorem dX4_passValue_41 : decode cX4_passValue 41 = .ok (.iconst 1, 1) := by decide +kernel
theorem dX4_passValue_42 : decode cX4_passValue 42 = .ok (.iadd, 1) := by decide +kernel
theorem dX4_passValue_43 : decode cX4_passValue 43 = .ok (.putfield 19, 3) := by decide +kernel
theorem dX4_passValue_46 : decode cX4_passValue 46 = .ok (.aload_n 0, 1) := by decide +kernel
theorem dX4_passValue_47 : decode cX4_passValue 47 = .ok (.aload_n 0, 1) := by decide +kernel
theorem dX4_passValue_48 : decode cX4_passValue 48 = .ok (.getfield 19, 3) := by decide +kernel
theorem dX4_passValue_51 : decode cX4_passValue 51 = .ok (.invokevirtual 65, 3) := by decide +kernel
theorem dX4_passValue_54 : decode cX4_passValue 54 = .ok (.invokestatic 109, 3) := by decide +kernel
theorem dX4_passValue_57 : decode cX4_passValue 57 = .ok (.ifCond .eq 44, 3) := by decide +kernel
theorem dX4_passValue_60 : decode cX4_passValue 60 = .ok (.iload_n 1, 1) := by decide +kernel
theorem dX4_passValue_61 : decode cX4_passValue 61 = .ok (.bipush 10, 2) := by decide +kernel
theorem dX4_passValue_63 : decode cX4_passValue 63 = .ok (.imul, 1) := by decide +kernel
theorem dX4_passValue_64 : decode cX4_passValue 64 = .ok (.aload_n 0, 1) := by decide +kernel
theorem dX4_passValue_65 : decode cX4_passValue 65 = .ok (.aload_n 0, 1) := by decide +kernel
theorem dX4_passValue_66 : decode cX4_passValue 66 = .ok (.getfield 19, 3) := by decide +kernel
theorem dX4_passValue_69 : decode cX4_passValue 69 = .ok (.invokevirtual 65, 3) := by decide +kernel
theorem dX4_passValue_72 : decode cX4_passValue 72 = .ok (.iadd, 1) := by decide +kernel
theorem dX4_passValue_73 : decode cX4_passValue 73 = .ok (.bipush 48, 2) := by decide +kernel
theorem dX4_passValue_75 : decode cX4_passValue 75 = .ok (.isub, 1) := by decide +kernel
theorem dX4_passValue_76 : decode cX4_passValue 76 = .ok (.istore_n 1, 1) := by decide +kernel
theorem dX4_passValue_77 : decode cX4_passValue 77 = .ok (.iload_n 1, 1) := by decide +kernel
theorem dX4_passValue_78 : decode cX4_passValue 78 = .ok (.bipush 16, 2) := by decide +kernel
theorem dX4_passValue_80 : decode cX4_passValue 80 = .ok (.if_icmp .lt 11, 3) := by decide +kernel
theorem dX4_passValue_83 : decode cX4_passValue 83 = .ok (.aload_n 0, 1) := by decide +kernel
theorem dX4_passValue_84 : decode cX4_passValue 84 = .ok (.aload_n 0, 1) := by decide +kernel
theorem dX4_passValue_85 : decode cX4_passValue 85 = .ok (.getfield 19, 3) := by decide +kernel
theorem dX4_passValue_88 : decode cX4_passValue 88 = .ok (.invokevirtual 69, 3) := by decide +kernel
theorem dX4_passValue_91 : decode cX4_passValue 91 = .ok (.aload_n 0, 1) := by decide +kernel
theorem dX4_passValue_92 : decode cX4_passValue 92 = .ok (.dup, 1) := by decide +kernel
theorem dX4_passValue_93 : decode cX4_passValue 93 = .ok (.getfield 19, 3) := by decide +kernel
theorem dX4_passValue_96 : decode cX4_passValue 96 = .ok (.iconst 1, 1) := by decide +kernel
theorem dX4_passValue_97 : decode cX4_passValue 97 = .ok (.iadd, 1) := by decide +kernel
theorem dX4_passValue_98 : decode cX4_passValue 98 = .ok (.putfield 19, 3) := by decide +kernel
theorem dX4_passValue_101 : decode cX4_passValue 101 = .ok (.iload_n 1, 1) := by decide +kernel
theorem dX4_passValue_102 : decode cX4_passValue 102 = .ok (.ireturn, 1) := by decide +kernel
theorem dX4_passClosing_0 : decode cX4_passClosing 0 = .ok (.aload_n 0, 1) := by decide +kernel
theorem dX4_passClosing_1 : decode cX4_passClosing 1 = .ok (.aload_n 0, 1) := by decide +kernel
theorem dX4_passClosing_2 : decode cX4_passClosing 2 = .ok (.getfield 19, 3) := by decide +kernel
theorem dX4_passClosing_5 : decode cX4_passClosing 5 = .ok (.invokevirtual 65, 3) := by decide +kernel
theorem dX4_passClosing_8 : decode cX4_passClosing 8 = .ok (.bipush 41, 2) := by decide +kernel
theorem dX4_passClosing_10 : decode cX4_passClosing 10 = .ok (.if_icmp .ne 16, 3) := by decide +kernel
theorem dX4_passClosing_13 : decode cX4_passClosing 13 = .ok (.aload_n 0, 1) := by decide +kernel
theorem dX4_passClosing_14 : decode cX4_passClosing 14 = .ok (.dup, 1) := by decide +kernel
theorem dX4_passClosing_15 : decode cX4_passClosing 15 = .ok (.getfield 19, 3) := by decide +kernel
theorem dX4_passClosing_18 : decode cX4_passClosing 18 = .ok (.iconst 1, 1) := by decide +kernel
theorem dX4_passClosing_19 : decode cX4_passClosing 19 = .ok (.iadd, 1) := by decide +kernel
theorem dX4_passClosing_20 : decode cX4_passClosing 20 = .ok (.putfield 19, 3) := by decide +kernel
theorem dX4_passClosing_23 : decode cX4_passClosing 23 = .ok (.goto 7, 3) := by decide +kernel
theorem dX4_passClosing_26 : decode cX4_passClosing 26 = .ok (.aload_n 0, 1) := by decide +kernel
theorem dX4_passClosing_27 : decode cX4_passClosing 27 = .ok (.invokevirtual 34, 3) := by decide +kernel
theorem dX4_passClosing_30 : decode cX4_passClosing 30 = .ok (.return_, 1) := by decide +kernel
theorem dX4_blameWhatFollows_0 : decode cX4_blameWhatFollows 0 = .ok (.aload_n 0, 1) := by decide +kernel
theorem dX4_blameWhatFollows_1 : decode cX4_blameWhatFollows 1 = .ok (.aload_n 0, 1) := by decide +kernel
theorem dX4_blameWhatFollows_2 : decode cX4_blameWhatFollows 2 = .ok (.aload_n 0, 1) := by decide +kernel
theorem dX4_blameWhatFollows_3 : decode cX4_blameWhatFollows 3 = .ok (.getfield 19, 3) := by decide +kernel
theorem dX4_blameWhatFollows_6 : decode cX4_blameWhatFollows 6 = .ok (.invokevirtual 65, 3) := by decide +kernel
theorem dX4_blameWhatFollows_9 : decode cX4_blameWhatFollows 9 = .ok (.bipush 32, 2) := by decide +kernel
theorem dX4_blameWhatFollows_11 : decode cX4_blameWhatFollows 11 = .ok (.if_icmp .ne 12, 3) := by decide +kernel
theorem dX4_blameWhatFollows_14 : decode cX4_blameWhatFollows 14 = .ok (.aload_n 0, 1) := by decide +kernel
theorem dX4_blameWhatFollows_15 : decode cX4_blameWhatFollows 15 = .ok (.getfield 19, 3) := by decide +kernel
theorem dX4_blameWhatFollows_18 : decode cX4_blameWhatFollows 18 = .ok (.iconst 1, 1) := by decide +kernel
theorem dX4_blameWhatFollows_19 : decode cX4_blameWhatFollows 19 = .ok (.iadd, 1) := by decide +kernel
theorem dX4_blameWhatFollows_20 : decode cX4_blameWhatFollows 20 = .ok (.goto 7, 3) := by decide +kernel
theorem dX4_blameWhatFollows_23 : decode cX4_blameWhatFollows 23 = .ok (.aload_n 0, 1) := by decide +kernel
theorem dX4_blameWhatFollows_24 : decode cX4_blameWhatFollows 24 = .ok (.getfield 19, 3) := by decide +kernel
theorem dX4_blameWhatFollows_27 : decode cX4_blameWhatFollows 27 = .ok (.invokevirtual 69, 3) := by decide +kernel
theorem dX4_blameWhatFollows_30 : decode cX4_blameWhatFollows 30 = .ok (.return_, 1) := by decide +kernel
theorem dX4_isJoinedBy_0 : decode cX4_isJoinedBy 0 = .ok (.aload_n 0, 1) := by decide +kernel
theorem dX4_isJoinedBy_1 : decode cX4_isJoinedBy 1 = .ok (.getfield 22, 3) := by decide +kernel
theorem dX4_isJoinedBy_4 : decode cX4_isJoinedBy 4 = .ok (.iconst (-1), 1) := by decide +kernel
theorem dX4_isJoinedBy_5 : decode cX4_isJoinedBy 5 = .ok (.if_icmp .ne 34, 3) := by decide +kernel
theorem dX4_isJoinedBy_8 : decode cX4_isJoinedBy 8 = .ok (.aload_n 0, 1) := by decide +kernel
theorem dX4_isJoinedBy_9 : decode cX4_isJoinedBy 9 = .ok (.aload_n 0, 1) := by decide +kernel
theorem dX4_isJoinedBy_10 : decode cX4_isJoinedBy 10 = .ok (.getfield 19, 3) := by decide +kernel
theorem dX4_isJoinedBy_13 : decode cX4_isJoinedBy 13 = .ok (.invokevirtual 65, 3) := by decide +kernel
theorem dX4_isJoinedBy_16 : decode cX4_isJoinedBy 16 = .ok (.bipush 32, 2) := by decide +kernel
theorem dX4_isJoinedBy_18 : decode cX4_isJoinedBy 18 = .ok (.if_icmp .ne 21, 3) := by decide +kernel
theorem dX4_isJoinedBy_21 : decode cX4_isJoinedBy 21 = .ok (.aload_n 0, 1) := by decide +kernel
theorem dX4_isJoinedBy_22 : decode cX4_isJoinedBy 22 = .ok (.aload_n 0, 1) := by decide +kernel
theorem dX4_isJoinedBy_23 : decode cX4_isJoinedBy 23 = .ok (.getfield 19, 3) := by decide +kernel
theorem dX4_isJoinedBy_26 : decode cX4_isJoinedBy 26 = .ok (.iconst 1, 1) := by decide +kernel
theorem dX4_isJoinedBy_27 : decode cX4_isJoinedBy 27 = .ok (.iadd, 1) := by decide +kernel
theorem dX4_isJoinedBy_28 : decode cX4_isJoinedBy 28 = .ok (.aload_n 1, 1) := by decide +kernel
theorem dX4_isJoinedBy_29 : decode cX4_isJoinedBy 29 = .ok (.invokevirtual 61, 3) := by decide +kernel
theorem dX4_isJoinedBy_32 : decode cX4_isJoinedBy 32 = .ok (.ifCond .eq 7, 3) := by decide +kernel
theorem dX4_isJoinedBy_35 : decode cX4_isJoinedBy 35 = .ok (.iconst 1, 1) := by decide +kernel
theorem dX4_isJoinedBy_36 : decode cX4_isJoinedBy 36 = .ok (.goto 4, 3) := by decide +kernel
theorem dX4_isJoinedBy_39 : decode cX4_isJoinedBy 39 = .ok (.iconst 0, 1) := by decide +kernel
theorem dX4_isJoinedBy_40 : decode cX4_isJoinedBy 40 = .ok (.ireturn, 1) := by decide +kernel
theorem dX4_passJoin_0 : decode cX4_passJoin 0 = .ok (.aload_n 0, 1) := by decide +kernel
theorem dX4_passJoin_1 : decode cX4_passJoin 1 = .ok (.bipush 32, 2) := by decide +kernel
theorem dX4_passJoin_3 : decode cX4_passJoin 3 = .ok (.invokevirtual 75, 3) := by decide +kernel
theorem dX4_passJoin_6 : decode cX4_passJoin 6 = .ok (.aload_n 0, 1) := by decide +kernel
theorem dX4_passJoin_7 : decode cX4_passJoin 7 = .ok (.aload_n 1, 1) := by decide +kernel
theorem dX4_passJoin_8 : decode cX4_passJoin 8 = .ok (.invokevirtual 72, 3) := by decide +kernel
theorem dX4_passJoin_11 : decode cX4_passJoin 11 = .ok (.aload_n 0, 1) := by decide +kernel
theorem dX4_passJoin_12 : decode cX4_passJoin 12 = .ok (.bipush 32, 2) := by decide +kernel
theorem dX4_passJoin_14 : decode cX4_passJoin 14 = .ok (.invokevirtual 75, 3) := by decide +kernel
theorem dX4_passJoin_17 : decode cX4_passJoin 17 = .ok (.return_, 1) := by decide +kernel
theorem dX4_isWordAt_0 : decode cX4_isWordAt 0 = .ok (.iconst 0, 1) := by decide +kernel
theorem dX4_isWordAt_1 : decode cX4_isWordAt 1 = .ok (.istore_n 3, 1) := by decide +kernel
theorem dX4_isWordAt_2 : decode cX4_isWordAt 2 = .ok (.iload_n 3, 1) := by decide +kernel
theorem dX4_isWordAt_3 : decode cX4_isWordAt 3 = .ok (.aload_n 2, 1) := by decide +kernel
theorem dX4_isWordAt_4 : decode cX4_isWordAt 4 = .ok (.invokevirtual 112, 3) := by decide +kernel
theorem dX4_isWordAt_7 : decode cX4_isWordAt 7 = .ok (.if_icmp .ge 26, 3) := by decide +kernel
theorem dX4_isWordAt_10 : decode cX4_isWordAt 10 = .ok (.aload_n 0, 1) := by decide +kernel
theorem dX4_isWordAt_11 : decode cX4_isWordAt 11 = .ok (.iload_n 1, 1) := by decide +kernel
theorem dX4_isWordAt_12 : decode cX4_isWordAt 12 = .ok (.iload_n 3, 1) := by decide +kernel
theorem dX4_isWordAt_13 : decode cX4_isWordAt 13 = .ok (.iadd, 1) := by decide +kernel
theorem dX4_isWordAt_14 : decode cX4_isWordAt 14 = .ok (.invokevirtual 65, 3) := by decide +kernel
theorem dX4_isWordAt_17 : decode cX4_isWordAt 17 = .ok (.aload_n 2, 1) := by decide +kernel
theorem dX4_isWordAt_18 : decode cX4_isWordAt 18 = .ok (.iload_n 3, 1) := by decide +kernel
theorem dX4_isWordAt_19 : decode cX4_isWordAt 19 = .ok (.invokevirtual 116, 3) := by decide +kernel
theorem dX4_isWordAt_22 : decode cX4_isWordAt 22 = .ok (.if_icmp .eq 5, 3) := by decide +kernel
theorem dX4_isWordAt_25 : decode cX4_isWordAt 25 = .ok (.iconst 0, 1) := by decide +kernel
theorem dX4_isWordAt_26 : decode cX4_isWordAt 26 = .ok (.ireturn, 1) := by decide +kernel
theorem dX4_isWordAt_27 : decode cX4_isWordAt 27 = .ok (.iinc 3 1, 3) := by decide +kernel
theorem dX4_isWordAt_30 : decode cX4_isWordAt 30 = .ok (.goto (-28), 3) := by decide +kernel
theorem dX4_isWordAt_33 : decode cX4_isWordAt 33 = .ok (.aload_n 0, 1) := by decide +kernel
theorem dX4_isWordAt_34 : decode cX4_isWordAt 34 = .ok (.iload_n 1, 1) := by decide +kernel
theorem dX4_isWordAt_35 : decode cX4_isWordAt 35 = .ok (.aload_n 2, 1) := by decide +kernel
theorem dX4_isWordAt_36 : decode cX4_isWordAt 36 = .ok (.invokevirtual 112, 3) := by decide +kernel
theorem dX4_isWordAt_39 : decode cX4_isWordAt 39 = .ok (.iadd, 1) := by decide +kernel
theorem dX4_isWordAt_40 : decode cX4_isWordAt 40 = .ok (.invokevirtual 65, 3) := by decide +kernel
theorem dX4_isWordAt_43 : decode cX4_isWordAt 43 = .ok (.invokestatic 105, 3) := by decide +kernel
theorem dX4_isWordAt_46 : decode cX4_isWordAt 46 = .ok (.ifCond .ne 7, 3) := by decide +kernel
theorem dX4_isWordAt_49 : decode cX4_isWordAt 49 = .ok (.iconst 1, 1) := by decide +kernel
theorem dX4_isWordAt_50 : decode cX4_isWordAt 50 = .ok (.goto 4, 3) := by decide +kernel
theorem dX4_isWordAt_53 : decode cX4_isWordAt 53 = .ok (.iconst 0, 1) := by decide +kernel
theorem dX4_isWordAt_54 : decode cX4_isWordAt 54 = .ok (.ireturn, 1) := by decide +kernel
theorem dX4_passWord_0 : decode cX4_passWord 0 = .ok (.aload_n 0, 1) := by decide +kernel
theorem dX4_passWord_1 : decode cX4_passWord 1 = .ok (.dup, 1) := by decide +kernel
theorem dX4_passWord_2 : decode cX4_passWord 2 = .ok (.getfield 19, 3) := by decide +kernel
theorem dX4_passWord_5 : decode cX4_passWord 5 = .ok (.aload_n 1, 1) := by decide +kernel
theorem dX4_passWord_6 : decode cX4_passWord 6 = .ok (.invokevirtual 112, 3) := by decide +kernel
theorem dX4_passWord_9 : decode cX4_passWord 9 = .ok (.iadd, 1) := by decide +kernel
theorem dX4_passWord_10 : decode cX4_passWord 10 = .ok (.putfield 19, 3) := by decide +kernel
theorem dX4_passWord_13 : decode cX4_passWord 13 = .ok (.return_, 1) := by decide +kernel
theorem dX4_pass_0 : decode cX4_pass 0 = .ok (.aload_n 0, 1) := by decide +kernel
theorem dX4_pass_1 : decode cX4_pass 1 = .ok (.aload_n 0, 1) := by decide +kernel
theorem dX4_pass_2 : decode cX4_pass 2 = .ok (.getfield 19, 3) := by decide +kernel
theorem dX4_pass_5 : decode cX4_pass 5 = .ok (.invokevirtual 65, 3) := by decide +kernel
theorem dX4_pass_8 : decode cX4_pass 8 = .ok (.iload_n 1, 1) := by decide +kernel
theorem dX4_pass_9 : decode cX4_pass 9 = .ok (.if_icmp .ne 16, 3) := by decide +kernel
theorem dX4_pass_12 : decode cX4_pass 12 = .ok (.aload_n 0, 1) := by decide +kernel
theorem dX4_pass_13 : decode cX4_pass 13 = .ok (.dup, 1) := by decide +kernel
theorem dX4_pass_14 : decode cX4_pass 14 = .ok (.getfield 19, 3) := by decide +kernel
theorem dX4_pass_17 : decode cX4_pass 17 = .ok (.iconst 1, 1) := by decide +kernel
theorem dX4_pass_18 : decode cX4_pass 18 = .ok (.iadd, 1) := by decide +kernel
theorem dX4_pass_19 : decode cX4_pass 19 = .ok (.putfield 19, 3) := by decide +kernel
theorem dX4_pass_22 : decode cX4_pass 22 = .ok (.goto 11, 3) := by decide +kernel
theorem dX4_pass_25 : decode cX4_pass 25 = .ok (.aload_n 0, 1) := by decide +kernel
theorem dX4_pass_26 : decode cX4_pass 26 = .ok (.aload_n 0, 1) := by decide +kernel
theorem dX4_pass_27 : decode cX4_pass 27 = .ok (.getfield 19, 3) := by decide +kernel
theorem dX4_pass_30 : decode cX4_pass 30 = .ok (.invokevirtual 69, 3) := by decide +kernel
theorem dX4_pass_33 : decode cX4_pass 33 = .ok (.return_, 1) := by decide +kernel
theorem dX4_blame_0 : decode cX4_blame 0 = .ok (.aload_n 0, 1) := by decide +kernel
theorem dX4_blame_1 : decode cX4_blame 1 = .ok (.getfield 22, 3) := by decide +kernel
theorem dX4_blame_4 : decode cX4_blame 4 = .ok (.iconst (-1), 1) := by decide +kernel
theorem dX4_blame_5 : decode cX4_blame 5 = .ok (.if_icmp .ne 8, 3) := by decide +kernel
theorem dX4_blame_8 : decode cX4_blame 8 = .ok (.aload_n 0, 1) := by decide +kernel
theorem dX4_blame_9 : decode cX4_blame 9 = .ok (.iload_n 1, 1) := by decide +kernel
theorem dX4_blame_10 : decode cX4_blame 10 = .ok (.putfield 22, 3) := by decide +kernel
theorem dX4_blame_13 : decode cX4_blame 13 = .ok (.return_, 1) := by decide +kernel
theorem dX4_isLetter_0 : decode cX4_isLetter 0 = .ok (.iload_n 0, 1) := by decide +kernel
theorem dX4_isLetter_1 : decode cX4_isLetter 1 = .ok (.bipush 97, 2) := by decide +kernel
theorem dX4_isLetter_3 : decode cX4_isLetter 3 = .ok (.if_icmp .lt 13, 3) := by decide +kernel
theorem dX4_isLetter_6 : decode cX4_isLetter 6 = .ok (.iload_n 0, 1) := by decide +kernel
theorem dX4_isLetter_7 : decode cX4_isLetter 7 = .ok (.bipush 122, 2) := by decide +kernel
theorem dX4_isLetter_9 : decode cX4_isLetter 9 = .ok (.if_icmp .gt 7, 3) := by decide +kernel
theorem dX4_isLetter_12 : decode cX4_isLetter 12 = .ok (.iconst 1, 1) := by decide +kernel
theorem dX4_isLetter_13 : decode cX4_isLetter 13 = .ok (.goto 4, 3) := by decide +kernel
theorem dX4_isLetter_16 : decode cX4_isLetter 16 = .ok (.iconst 0, 1) := by decide +kernel
theorem dX4_isLetter_17 : decode cX4_isLetter 17 = .ok (.ireturn, 1) := by decide +kernel
theorem dX4_isDigit_0 : decode cX4_isDigit 0 = .ok (.iload_n 0, 1) := by decide +kernel
theorem dX4_isDigit_1 : decode cX4_isDigit 1 = .ok (.bipush 48, 2) := by decide +kernel
theorem dX4_isDigit_3 : decode cX4_isDigit 3 = .ok (.if_icmp .lt 13, 3) := by decide +kernel
theorem dX4_isDigit_6 : decode cX4_isDigit 6 = .ok (.iload_n 0, 1) := by decide +kernel
theorem dX4_isDigit_7 : decode cX4_isDigit 7 = .ok (.bipush 57, 2) := by decide +kernel
theorem dX4_isDigit_9 : decode cX4_isDigit 9 = .ok (.if_icmp .gt 7, 3) := by decide +kernel
theorem dX4_isDigit_12 : decode cX4_isDigit 12 = .ok (.iconst 1, 1) := by decide +kernel
theorem dX4_isDigit_13 : decode cX4_isDigit 13 = .ok (.goto 4, 3) := by decide +kernel
theorem dX4_isDigit_16 : decode cX4_isDigit 16 = .ok (.iconst 0, 1) := by decide +kernel
theorem dX4_isDigit_17 : decode cX4_isDigit 17 = .ok (.ireturn, 1) := by decide +kernel
theorem dX4_signAt_0 : decode cX4_signAt 0 = .ok (.iload_n 1, 1) := by decide +kernel
theorem dX4_signAt_1 : decode cX4_signAt 1 = .ok (.ifCond .lt 20, 3) := by decide +kernel
theorem dX4_signAt_4 : decode cX4_signAt 4 = .ok (.iload_n 1, 1) := by decide +kernel
theorem dX4_signAt_5 : decode cX4_signAt 5 = .ok (.aload_n 0, 1) := by decide +kernel
theorem dX4_signAt_6 : decode cX4_signAt 6 = .ok (.getfield 15, 3) := by decide +kernel
theorem dX4_signAt_9 : decode cX4_signAt 9 = .ok (.if_icmp .ge 12, 3) := by decide +kernel
theorem dX4_signAt_12 : decode cX4_signAt 12 = .ok (.aload_n 0, 1) := by decide +kernel
theorem dX4_signAt_13 : decode cX4_signAt 13 = .ok (.getfield 9, 3) := by decide +kernel
theorem dX4_signAt_16 : decode cX4_signAt 16 = .ok (.iload_n 1, 1) := by decide +kernel
theorem dX4_signAt_17 : decode cX4_signAt 17 = .ok (.baload, 1) := by decide +kernel
theorem dX4_signAt_18 : decode cX4_signAt 18 = .ok (.goto 4, 3) := by decide +kernel
theorem dX4_signAt_21 : decode cX4_signAt 21 = .ok (.iconst (-1), 1) := by decide +kernel
theorem dX4_signAt_22 : decode cX4_signAt 22 = .ok (.ireturn, 1) := by decide +kernel
theorem dX5_init_0 : decode cX5_init 0 = .ok (.aload_n 0, 1) := by decide +kernel
theorem dX5_init_1 : decode cX5_init 1 = .ok (.invokespecial 3, 3) := by decide +kernel
theorem dX5_init_4 : decode cX5_init 4 = .ok (.aload_n 0, 1) := by decide +kernel
theorem dX5_init_5 : decode cX5_init 5 = .ok (.bipush 80, 2) := by decide +kernel
theorem dX5_init_7 : decode cX5_init 7 = .ok (.anewarray 9, 3) := by decide +kernel
theorem dX5_init_10 : decode cX5_init 10 = .ok (.putfield 11, 3) := by decide +kernel
theorem dX5_init_13 : decode cX5_init 13 = .ok (.aload_n 0, 1) := by decide +kernel
theorem dX5_init_14 : decode cX5_init 14 = .ok (.iconst 0, 1) := by decide +kernel
theorem dX5_init_15 : decode cX5_init 15 = .ok (.putfield 17, 3) := by decide +kernel
theorem dX5_init_18 : decode cX5_init 18 = .ok (.iconst 0, 1) := by decide +kernel
theorem dX5_init_19 : decode cX5_init 19 = .ok (.istore_n 1, 1) := by decide +kernel
theorem dX5_init_20 : decode cX5_init 20 = .ok (.iload_n 1, 1) := by decide +kernel
theorem dX5_init_21 : decode cX5_init 21 = .ok (.bipush 80, 2) := by decide +kernel
theorem dX5_init_23 : decode cX5_init 23 = .ok (.if_icmp .ge 22, 3) := by decide +kernel
theorem dX5_init_26 : decode cX5_init 26 = .ok (.aload_n 0, 1) := by decide +kernel
theorem dX5_init_27 : decode cX5_init 27 = .ok (.getfield 11, 3) := by decide +kernel
theorem dX5_init_30 : decode cX5_init 30 = .ok (.iload_n 1, 1) := by decide +kernel
theorem dX5_init_31 : decode cX5_init 31 = .ok (.new 9, 3) := by decide +kernel
theorem dX5_init_34 : decode cX5_init 34 = .ok (.dup, 1) := by decide +kernel
theorem dX5_init_35 : decode cX5_init 35 = .ok (.invokespecial 21, 3) := by decide +kernel
theorem dX5_init_38 : decode cX5_init 38 = .ok (.aastore, 1) := by decide +kernel
theorem dX5_init_39 : decode cX5_init 39 = .ok (.iinc 1 1, 3) := by decide +kernel
theorem dX5_init_42 : decode cX5_init 42 = .ok (.goto (-22), 3) := by decide +kernel
theorem dX5_init_45 : decode cX5_init 45 = .ok (.return_, 1) := by decide +kernel
theorem dX5_hasRow_0 : decode cX5_hasRow 0 = .ok (.iload_n 1, 1) := by decide +kernel
theorem dX5_hasRow_1 : decode cX5_hasRow 1 = .ok (.ifCond .lt 15, 3) := by decide +kernel
theorem dX5_hasRow_4 : decode cX5_hasRow 4 = .ok (.iload_n 1, 1) := by decide +kernel
theorem dX5_hasRow_5 : decode cX5_hasRow 5 = .ok (.aload_n 0, 1) := by decide +kernel
theorem dX5_hasRow_6 : decode cX5_hasRow 6 = .ok (.getfield 17, 3) := by decide +kernel
theorem dX5_hasRow_9 : decode cX5_hasRow 9 = .ok (.if_icmp .ge 7, 3) := by decide +kernel
theorem dX5_hasRow_12 : decode cX5_hasRow 12 = .ok (.iconst 1, 1) := by decide +kernel
theorem dX5_hasRow_13 : decode cX5_hasRow 13 = .ok (.goto 4, 3) := by decide +kernel
theorem dX5_hasRow_16 : decode cX5_hasRow 16 = .ok (.iconst 0, 1) := by decide +kernel
theorem dX5_hasRow_17 : decode cX5_hasRow 17 = .ok (.ireturn, 1) := by decide +kernel
theorem dX5_isFull_0 : decode cX5_isFull 0 = .ok (.aload_n 0, 1) := by decide +kernel
theorem dX5_isFull_1 : decode cX5_isFull 1 = .ok (.getfield 17, 3) := by decide +kernel
theorem dX5_isFull_4 : decode cX5_isFull 4 = .ok (.bipush 120, 2) := by decide +kernel
theorem dX5_isFull_6 : decode cX5_isFull 6 = .ok (.if_icmp .lt 7, 3) := by decide +kernel
theorem dX5_isFull_9 : decode cX5_isFull 9 = .ok (.iconst 1, 1) := by decide +kernel
theorem dX5_isFull_10 : decode cX5_isFull 10 = .ok (.goto 4, 3) := by decide +kernel
theorem dX5_isFull_13 : decode cX5_isFull 13 = .ok (.iconst 0, 1) := by decide +kernel
theorem dX5_isFull_14 : decode cX5_isFull 14 = .ok (.ireturn, 1) := by decide +kernel
theorem dX5_bitsOf_0 : decode cX5_bitsOf 0 = .ok (.aload_n 0, 1) := by decide +kernel
theorem dX5_bitsOf_1 : decode cX5_bitsOf 1 = .ok (.getfield 11, 3) := by decide +kernel
theorem dX5_bitsOf_4 : decode cX5_bitsOf 4 = .ok (.iload_n 1, 1) := by decide +kernel
theorem dX5_bitsOf_5 : decode cX5_bitsOf 5 = .ok (.bipush 20, 2) := by decide +kernel
theorem dX5_bitsOf_7 : decode cX5_bitsOf 7 = .ok (.imul, 1) := by decide +kernel
theorem dX5_bitsOf_8 : decode cX5_bitsOf 8 = .ok (.iload_n 2, 1) := by decide +kernel
theorem dX5_bitsOf_9 : decode cX5_bitsOf 9 = .ok (.iadd, 1) := by decide +kernel
theorem dX5_bitsOf_10 : decode cX5_bitsOf 10 = .ok (.aaload, 1) := by decide +kernel
theorem dX5_bitsOf_11 : decode cX5_bitsOf 11 = .ok (.areturn, 1) := by decide +kernel
theorem dX5_valueOf_0 : decode cX5_valueOf 0 = .ok (.iconst 0, 1) := by decide +kernel
theorem dX5_valueOf_1 : decode cX5_valueOf 1 = .ok (.istore_n 3, 1) := by decide +kernel
theorem dX5_valueOf_2 : decode cX5_valueOf 2 = .ok (.iconst 0, 1) := by decide +kernel
theorem dX5_valueOf_3 : decode cX5_valueOf 3 = .ok (.istore 4, 2) := by decide +kernel
theorem dX5_valueOf_5 : decode cX5_valueOf 5 = .ok (.iload 4, 2) := by decide +kernel
theorem dX5_valueOf_7 : decode cX5_valueOf 7 = .ok (.iconst 4, 1) := by decide +kernel
theorem dX5_valueOf_8 : decode cX5_valueOf 8 = .ok (.if_icmp .ge 33, 3) := by decide +kernel
theorem dX5_valueOf_11 : decode cX5_valueOf 11 = .ok (.aload_n 0, 1) := by decide +kernel
theorem dX5_valueOf_12 : decode cX5_valueOf 12 = .ok (.iload_n 2, 1) := by decide +kernel
theorem dX5_valueOf_13 : decode cX5_valueOf 13 = .ok (.bipush 16, 2) := by decide +kernel
theorem dX5_valueOf_15 : decode cX5_valueOf 15 = .ok (.iload 4, 2) := by decide +kernel
theorem dX5_valueOf_17 : decode cX5_valueOf 17 = .ok (.iadd, 1) := by decide +kernel
theorem dX5_valueOf_18 : decode cX5_valueOf 18 = .ok (.invokevirtual 22, 3) := by decide +kernel
theorem dX5_valueOf_21 : decode cX5_valueOf 21 = .ok (.iload_n 1, 1) := by decide +kernel
theorem dX5_valueOf_22 : decode cX5_valueOf 22 = .ok (.invokevirtual 26, 3) := by decide +kernel
theorem dX5_valueOf_25 : decode cX5_valueOf 25 = .ok (.ifCond .eq 10, 3) := by decide +kernel
theorem dX5_valueOf_28 : decode cX5_valueOf 28 = .ok (.iload_n 3, 1) := by decide +kernel
theorem dX5_valueOf_29 : decode cX5_valueOf 29 = .ok (.iconst 1, 1) := by decide +kernel
theorem dX5_valueOf_30 : decode cX5_valueOf 30 = .ok (.iload 4, 2) := by decide +kernel
theorem dX5_valueOf_32 : decode cX5_valueOf 32 = .ok (.ishl, 1) := by decide +kernel
theorem dX5_valueOf_33 : decode cX5_valueOf 33 = .ok (.ior, 1) := by decide +kernel
theorem dX5_valueOf_34 : decode cX5_valueOf 34 = .ok (.istore_n 3, 1) := by decide +kernel
theorem dX5_valueOf_35 : decode cX5_valueOf 35 = .ok (.iinc 4 1, 3) := by decide +kernel
theorem dX5_valueOf_38 : decode cX5_valueOf 38 = .ok (.goto (-33), 3) := by decide +kernel
theorem dX5_valueOf_41 : decode cX5_valueOf 41 = .ok (.iload_n 3, 1) := by decide +kernel
theorem dX5_valueOf_42 : decode cX5_valueOf 42 = .ok (.ireturn, 1) := by decide +kernel
theorem dX5_append_0 : decode cX5_append 0 = .ok (.aload_n 0, 1) := by decide +kernel
theorem dX5_append_1 : decode cX5_append 1 = .ok (.iconst 0, 1) := by decide +kernel
theorem dX5_append_2 : decode cX5_append 2 = .ok (.iload_n 1, 1) := by decide +kernel
theorem dX5_append_3 : decode cX5_append 3 = .ok (.invokevirtual 30, 3) := by decide +kernel
theorem dX5_append_6 : decode cX5_append 6 = .ok (.aload_n 0, 1) := by decide +kernel
theorem dX5_append_7 : decode cX5_append 7 = .ok (.iconst 1, 1) := by decide +kernel
theorem dX5_append_8 : decode cX5_append 8 = .ok (.iload_n 2, 1) := by decide +kernel
theorem dX5_append_9 : decode cX5_append 9 = .ok (.invokevirtual 30, 3) := by decide +kernel
theorem dX5_append_12 : decode cX5_append 12 = .ok (.aload_n 0, 1) := by decide +kernel
theorem dX5_append_13 : decode cX5_append 13 = .ok (.iconst 2, 1) := by decide +kernel
theorem dX5_append_14 : decode cX5_append 14 = .ok (.iload_n 3, 1) := by decide +kernel
theorem dX5_append_15 : decode cX5_append 15 = .ok (.invokevirtual 30, 3) := by decide +kernel
theorem dX5_append_18 : decode cX5_append 18 = .ok (.aload_n 0, 1) := by decide +kernel
theorem dX5_append_19 : decode cX5_append 19 = .ok (.iconst 3, 1) := by decide +kernel
theorem dX5_append_20 : decode cX5_append 20 = .ok (.iload 4, 2) := by decide +kernel
theorem dX5_append_22 : decode cX5_append 22 = .ok (.invokevirtual 30, 3) := by decide +kernel
theorem dX5_append_25 : decode cX5_append 25 = .ok (.aload_n 0, 1) := by decide +kernel
theorem dX5_append_26 : decode cX5_append 26 = .ok (.dup, 1) := by decide +kernel
theorem dX5_append_27 : decode cX5_append 27 = .ok (.getfield 17, 3) := by decide +kernel
theorem dX5_append_30 : decode cX5_append 30 = .ok (.iconst 1, 1) := by decide +kernel
theorem dX5_append_31 : decode cX5_append 31 = .ok (.iadd, 1) := by decide +kernel
theorem dX5_append_32 : decode cX5_append 32 = .ok (.putfield 17, 3) := by decide +kernel
theorem dX5_append_35 : decode cX5_append 35 = .ok (.return_, 1) := by decide +kernel
theorem dX5_appendLike_0 : decode cX5_appendLike 0 = .ok (.aload_n 0, 1) := by decide +kernel
theorem dX5_appendLike_1 : decode cX5_appendLike 1 = .ok (.aload_n 0, 1) := by decide +kernel
theorem dX5_appendLike_2 : decode cX5_appendLike 2 = .ok (.iload_n 1, 1) := by decide +kernel
theorem dX5_appendLike_3 : decode cX5_appendLike 3 = .ok (.iconst 0, 1) := by decide +kernel
theorem dX5_appendLike_4 : decode cX5_appendLike 4 = .ok (.invokevirtual 34, 3) := by decide +kernel
theorem dX5_appendLike_7 : decode cX5_appendLike 7 = .ok (.aload_n 0, 1) := by decide +kernel
theorem dX5_appendLike_8 : decode cX5_appendLike 8 = .ok (.iload_n 1, 1) := by decide +kernel
theorem dX5_appendLike_9 : decode cX5_appendLike 9 = .ok (.iconst 1, 1) := by decide +kernel
theorem dX5_appendLike_10 : decode cX5_appendLike 10 = .ok (.invokevirtual 34, 3) := by decide +kernel
theorem dX5_appendLike_13 : decode cX5_appendLike 13 = .ok (.aload_n 0, 1) := by decide +kernel
theorem dX5_appendLike_14 : decode cX5_appendLike 14 = .ok (.iload_n 1, 1) := by decide +kernel
theorem dX5_appendLike_15 : decode cX5_appendLike 15 = .ok (.iconst 2, 1) := by decide +kernel
theorem dX5_appendLike_16 : decode cX5_appendLike 16 = .ok (.invokevirtual 34, 3) := by decide +kernel
theorem dX5_appendLike_19 : decode cX5_appendLike 19 = .ok (.aload_n 0, 1) := by decide +kernel
theorem dX5_appendLike_20 : decode cX5_appendLike 20 = .ok (.iload_n 1, 1) := by decide +kernel
theorem dX5_appendLike_21 : decode cX5_appendLike 21 = .ok (.iconst 3, 1) := by decide +kernel
theorem dX5_appendLike_22 : decode cX5_appendLike 22 = .ok (.invokevirtual 34, 3) := by decide +kernel
theorem dX5_appendLike_25 : decode cX5_appendLike 25 = .ok (.invokevirtual 38, 3) := by decide +kernel
theorem dX5_appendLike_28 : decode cX5_appendLike 28 = .ok (.return_, 1) := by decide +kernel
theorem dX5_putLast_0 : decode cX5_putLast 0 = .ok (.aload_n 0, 1) := by decide +kernel
theorem dX5_putLast_1 : decode cX5_putLast 1 = .ok (.iload_n 1, 1) := by decide +kernel
theorem dX5_putLast_2 : decode cX5_putLast 2 = .ok (.iload_n 2, 1) := by decide +kernel
theorem dX5_putLast_3 : decode cX5_putLast 3 = .ok (.invokevirtual 22, 3) := by decide +kernel
theorem dX5_putLast_6 : decode cX5_putLast 6 = .ok (.aload_n 0, 1) := by decide +kernel
theorem dX5_putLast_7 : decode cX5_putLast 7 = .ok (.getfield 17, 3) := by decide +kernel
theorem dX5_putLast_10 : decode cX5_putLast 10 = .ok (.invokevirtual 42, 3) := by decide +kernel
theorem dX5_putLast_13 : decode cX5_putLast 13 = .ok (.iconst 0, 1) := by decide +kernel
theorem dX5_putLast_14 : decode cX5_putLast 14 = .ok (.istore_n 3, 1) := by decide +kernel
theorem dX5_putLast_15 : decode cX5_putLast 15 = .ok (.iload_n 3, 1) := by decide +kernel
theorem dX5_putLast_16 : decode cX5_putLast 16 = .ok (.iconst 4, 1) := by decide +kernel
theorem dX5_putLast_17 : decode cX5_putLast 17 = .ok (.if_icmp .ge 33, 3) := by decide +kernel
theorem dX5_putLast_20 : decode cX5_putLast 20 = .ok (.iload_n 2, 1) := by decide +kernel
theorem dX5_putLast_21 : decode cX5_putLast 21 = .ok (.iload_n 3, 1) := by decide +kernel
theorem dX5_putLast_22 : decode cX5_putLast 22 = .ok (.ishr, 1) := by decide +kernel
theorem dX5_putLast_23 : decode cX5_putLast 23 = .ok (.iconst 1, 1) := by decide +kernel
theorem dX5_putLast_24 : decode cX5_putLast 24 = .ok (.iand, 1) := by decide +kernel
theorem dX5_putLast_25 : decode cX5_putLast 25 = .ok (.ifCond .eq 19, 3) := by decide +kernel
theorem dX5_putLast_28 : decode cX5_putLast 28 = .ok (.aload_n 0, 1) := by decide +kernel
theorem dX5_putLast_29 : decode cX5_putLast 29 = .ok (.iload_n 1, 1) := by decide +kernel
theorem dX5_putLast_30 : decode cX5_putLast 30 = .ok (.bipush 16, 2) := by decide +kernel
theorem dX5_putLast_32 : decode cX5_putLast 32 = .ok (.iload_n 3, 1) := by decide +kernel
theorem dX5_putLast_33 : decode cX5_putLast 33 = .ok (.iadd, 1) := by decide +kernel
theorem dX5_putLast_34 : decode cX5_putLast 34 = .ok (.invokevirtual 22, 3) := by decide +kernel
theorem dX5_putLast_37 : decode cX5_putLast 37 = .ok (.aload_n 0, 1) := by decide +kernel
theorem dX5_putLast_38 : decode cX5_putLast 38 = .ok (.getfield 17, 3) := by decide +kernel
theorem dX5_putLast_41 : decode cX5_putLast 41 = .ok (.invokevirtual 42, 3) := by decide +kernel
theorem dX5_putLast_44 : decode cX5_putLast 44 = .ok (.iinc 3 1, 3) := by decide +kernel
theorem dX5_putLast_47 : decode cX5_putLast 47 = .ok (.goto (-32), 3) := by decide +kernel
theorem dX5_putLast_50 : decode cX5_putLast 50 = .ok (.return_, 1) := by decide +kernel
theorem dX5_cutTo_0 : decode cX5_cutTo 0 = .ok (.iload_n 1, 1) := by decide +kernel
theorem dX5_cutTo_1 : decode cX5_cutTo 1 = .ok (.aload_n 0, 1) := by decide +kernel
theorem dX5_cutTo_2 : decode cX5_cutTo 2 = .ok (.getfield 17, 3) := by decide +kernel
theorem dX5_cutTo_5 : decode cX5_cutTo 5 = .ok (.if_icmp .lt 4, 3) := by decide +kernel
theorem dX5_cutTo_8 : decode cX5_cutTo 8 = .ok (.return_, 1) := by decide +kernel
theorem dX5_cutTo_9 : decode cX5_cutTo 9 = .ok (.iconst 0, 1) := by decide +kernel
theorem dX5_cutTo_10 : decode cX5_cutTo 10 = .ok (.istore_n 2, 1) := by decide +kernel
theorem dX5_cutTo_11 : decode cX5_cutTo 11 = .ok (.iload_n 2, 1) := by decide +kernel
theorem dX5_cutTo_12 : decode cX5_cutTo 12 = .ok (.bipush 80, 2) := by decide +kernel
theorem dX5_cutTo_14 : decode cX5_cutTo 14 = .ok (.if_icmp .ge 19, 3) := by decide +kernel
theorem dX5_cutTo_17 : decode cX5_cutTo 17 = .ok (.aload_n 0, 1) := by decide +kernel
theorem dX5_cutTo_18 : decode cX5_cutTo 18 = .ok (.getfield 11, 3) := by decide +kernel
theorem dX5_cutTo_21 : decode cX5_cutTo 21 = .ok (.iload_n 2, 1) := by decide +kernel
theorem dX5_cutTo_22 : decode cX5_cutTo 22 = .ok (.aaload, 1) := by decide +kernel
theorem dX5_cutTo_23 : decode cX5_cutTo 23 = .ok (.iload_n 1, 1) := by decide +kernel
theorem dX5_cutTo_24 : decode cX5_cutTo 24 = .ok (.invokevirtual 46, 3) := by decide +kernel
theorem dX5_cutTo_27 : decode cX5_cutTo 27 = .ok (.iinc 2 1, 3) := by decide +kernel
theorem dX5_cutTo_30 : decode cX5_cutTo 30 = .ok (.goto (-19), 3) := by decide +kernel
theorem dX5_cutTo_33 : decode cX5_cutTo 33 = .ok (.aload_n 0, 1) := by decide +kernel
theorem dX5_cutTo_34 : decode cX5_cutTo 34 = .ok (.iload_n 1, 1) := by decide +kernel
theorem dX5_cutTo_35 : decode cX5_cutTo 35 = .ok (.putfield 17, 3) := by decide +kernel
theorem dX5_cutTo_38 : decode cX5_cutTo 38 = .ok (.return_, 1) := by decide +kernel
theorem dX5_become_0 : decode cX5_become 0 = .ok (.iconst 0, 1) := by decide +kernel
theorem dX5_become_1 : decode cX5_become 1 = .ok (.istore_n 2, 1) := by decide +kernel
theorem dX5_become_2 : decode cX5_become 2 = .ok (.iload_n 2, 1) := by decide +kernel
theorem dX5_become_3 : decode cX5_become 3 = .ok (.bipush 80, 2) := by decide +kernel
theorem dX5_become_5 : decode cX5_become 5 = .ok (.if_icmp .ge 24, 3) := by decide +kernel
theorem dX5_become_8 : decode cX5_become 8 = .ok (.aload_n 0, 1) := by decide +kernel
theorem dX5_become_9 : decode cX5_become 9 = .ok (.getfield 11, 3) := by decide +kernel
theorem dX5_become_12 : decode cX5_become 12 = .ok (.iload_n 2, 1) := by decide +kernel
theorem dX5_become_13 : decode cX5_become 13 = .ok (.aaload, 1) := by decide +kernel
theorem dX5_become_14 : decode cX5_become 14 = .ok (.aload_n 1, 1) := by decide +kernel
theorem dX5_become_15 : decode cX5_become 15 = .ok (.getfield 11, 3) := by decide +kernel
theorem dX5_become_18 : decode cX5_become 18 = .ok (.iload_n 2, 1) := by decide +kernel
theorem dX5_become_19 : decode cX5_become 19 = .ok (.aaload, 1) := by decide +kernel
theorem dX5_become_20 : decode cX5_become 20 = .ok (.invokevirtual 49, 3) := by decide +kernel
theorem dX5_become_23 : decode cX5_become 23 = .ok (.iinc 2 1, 3) := by decide +kernel
theorem dX5_become_26 : decode cX5_become 26 = .ok (.goto (-24), 3) := by decide +kernel
theorem dX5_become_29 : decode cX5_become 29 = .ok (.aload_n 0, 1) := by decide +kernel
theorem dX5_become_30 : decode cX5_become 30 = .ok (.aload_n 1, 1) := by decide +kernel
theorem dX5_become_31 : decode cX5_become 31 = .ok (.getfield 17, 3) := by decide +kernel
theorem dX5_become_34 : decode cX5_become 34 = .ok (.putfield 17, 3) := by decide +kernel
theorem dX5_become_37 : decode cX5_become 37 = .ok (.return_, 1) := by decide +kernel
theorem dX5_runsOfSlices_0 : decode cX5_runsOfSlices 0 = .ok (.iconst 0, 1) := by decide +kernel
theorem dX5_runsOfSlices_1 : decode cX5_runsOfSlices 1 = .ok (.istore_n 2, 1) := by decide +kernel
theorem dX5_runsOfSlices_2 : decode cX5_runsOfSlices 2 = .ok (.iconst 0, 1) := by decide +kernel
theorem dX5_runsOfSlices_3 : decode cX5_runsOfSlices 3 = .ok (.istore_n 3, 1) := by decide +kernel
theorem dX5_runsOfSlices_4 : decode cX5_runsOfSlices 4 = .ok (.iload_n 3, 1) := by decide +kernel
theorem dX5_runsOfSlices_5 : decode cX5_runsOfSlices 5 = .ok (.iconst 4, 1) := by decide +kernel
theorem dX5_runsOfSlices_6 : decode cX5_runsOfSlices 6 = .ok (.if_icmp .ge 28, 3) := by decide +kernel
theorem dX5_runsOfSlices_9 : decode cX5_runsOfSlices 9 = .ok (.iload_n 2, 1) := by decide +kernel
theorem dX5_runsOfSlices_10 : decode cX5_runsOfSlices 10 = .ok (.aload_n 0, 1) := by decide +kernel
theorem dX5_runsOfSlices_11 : decode cX5_runsOfSlices 11 = .ok (.iload_n 1, 1) := by decide +kernel
theorem dX5_runsOfSlices_12 : decode cX5_runsOfSlices 12 = .ok (.bipush 16, 2) := by decide +kernel
theorem dX5_runsOfSlices_14 : decode cX5_runsOfSlices 14 = .ok (.iload_n 3, 1) := by decide +kernel
theorem dX5_runsOfSlices_15 : decode cX5_runsOfSlices 15 = .ok (.iadd, 1) := by decide +kernel
theorem dX5_runsOfSlices_16 : decode cX5_runsOfSlices 16 = .ok (.invokevirtual 22, 3) := by decide +kernel
theorem dX5_runsOfSlices_19 : decode cX5_runsOfSlices 19 = .ok (.aload_n 0, 1) := by decide +kernel
theorem dX5_runsOfSlices_20 : decode cX5_runsOfSlices 20 = .ok (.getfield 17, 3) := by decide +kernel
theorem dX5_runsOfSlices_23 : decode cX5_runsOfSlices 23 = .ok (.invokevirtual 53, 3) := by decide +kernel
theorem dX5_runsOfSlices_26 : decode cX5_runsOfSlices 26 = .ok (.iadd, 1) := by decide +kernel
theorem dX5_runsOfSlices_27 : decode cX5_runsOfSlices 27 = .ok (.istore_n 2, 1) := by decide +kernel
theorem dX5_runsOfSlices_28 : decode cX5_runsOfSlices 28 = .ok (.iinc 3 1, 3) := by decide +kernel
theorem dX5_runsOfSlices_31 : decode cX5_runsOfSlices 31 = .ok (.goto (-27), 3) := by decide +kernel
theorem dX5_runsOfSlices_34 : decode cX5_runsOfSlices 34 = .ok (.iload_n 2, 1) := by decide +kernel
theorem dX5_runsOfSlices_35 : decode cX5_runsOfSlices 35 = .ok (.ireturn, 1) := by decide +kernel
theorem dX6_init_0 : decode cX6_init 0 = .ok (.aload_n 0, 1) := by decide +kernel
theorem dX6_init_1 : decode cX6_init 1 = .ok (.invokespecial 3, 3) := by decide +kernel
theorem dX6_init_4 : decode cX6_init 4 = .ok (.aload_n 0, 1) := by decide +kernel
theorem dX6_init_5 : decode cX6_init 5 = .ok (.new 9, 3) := by decide +kernel
theorem dX6_init_8 : decode cX6_init 8 = .ok (.dup, 1) := by decide +kernel
theorem dX6_init_9 : decode cX6_init 9 = .ok (.invokespecial 11, 3) := by decide +kernel
theorem dX6_init_12 : decode cX6_init 12 = .ok (.putfield 12, 3) := by decide +kernel
theorem dX6_init_15 : decode cX6_init 15 = .ok (.aload_n 0, 1) := by decide +kernel
theorem dX6_init_16 : decode cX6_init 16 = .ok (.bipush 10, 2) := by decide +kernel
theorem dX6_init_18 : decode cX6_init 18 = .ok (.newarray .int, 2) := by decide +kernel
theorem dX6_init_20 : decode cX6_init 20 = .ok (.putfield 18, 3) := by decide +kernel
theorem dX6_init_23 : decode cX6_init 23 = .ok (.aload_n 0, 1) := by decide +kernel
theorem dX6_init_24 : decode cX6_init 24 = .ok (.iconst 0, 1) := by decide +kernel
theorem dX6_init_25 : decode cX6_init 25 = .ok (.putfield 22, 3) := by decide +kernel
theorem dX6_init_28 : decode cX6_init 28 = .ok (.aload_n 0, 1) := by decide +kernel
theorem dX6_init_29 : decode cX6_init 29 = .ok (.new 26, 3) := by decide +kernel
theorem dX6_init_32 : decode cX6_init 32 = .ok (.dup, 1) := by decide +kernel
theorem dX6_init_33 : decode cX6_init 33 = .ok (.bipush 6, 2) := by decide +kernel
theorem dX6_init_35 : decode cX6_init 35 = .ok (.invokespecial 28, 3) := by decide +kernel
theorem dX6_init_38 : decode cX6_init 38 = .ok (.putfield 31, 3) := by decide +kernel
theorem dX6_init_41 : decode cX6_init 41 = .ok (.aload_n 0, 1) := by decide +kernel
theorem dX6_init_42 : decode cX6_init 42 = .ok (.new 26, 3) := by decide +kernel
theorem dX6_init_45 : decode cX6_init 45 = .ok (.dup, 1) := by decide +kernel
theorem dX6_init_46 : decode cX6_init 46 = .ok (.bipush 10, 2) := by decide +kernel
theorem dX6_init_48 : decode cX6_init 48 = .ok (.invokespecial 28, 3) := by decide +kernel
theorem dX6_init_51 : decode cX6_init 51 = .ok (.putfield 35, 3) := by decide +kernel
theorem dX6_init_54 : decode cX6_init 54 = .ok (.aload_n 0, 1) := by decide +kernel
theorem dX6_init_55 : decode cX6_init 55 = .ok (.new 26, 3) := by decide +kernel
theorem dX6_init_58 : decode cX6_init 58 = .ok (.dup, 1) := by decide +kernel
theorem dX6_init_59 : decode cX6_init 59 = .ok (.bipush 8, 2) := by decide +kernel
theorem dX6_init_61 : decode cX6_init 61 = .ok (.invokespecial 28, 3) := by decide +kernel
theorem dX6_init_64 : decode cX6_init 64 = .ok (.putfield 38, 3) := by decide +kernel
theorem dX6_init_67 : decode cX6_init 67 = .ok (.return_, 1) := by decide +kernel
theorem dX6_hasMark_0 : decode cX6_hasMark 0 = .ok (.iload_n 1, 1) := by decide +kernel
theorem dX6_hasMark_1 : decode cX6_hasMark 1 = .ok (.ifCond .lt 15, 3) := by decide +kernel
theorem dX6_hasMark_4 : decode cX6_hasMark 4 = .ok (.iload_n 1, 1) := by decide +kernel
theorem dX6_hasMark_5 : decode cX6_hasMark 5 = .ok (.aload_n 0, 1) := by decide +kernel
theorem dX6_hasMark_6 : decode cX6_hasMark 6 = .ok (.getfield 22, 3) := by decide +kernel
theorem dX6_hasMark_9 : decode cX6_hasMark 9 = .ok (.if_icmp .ge 7, 3) := by decide +kernel
theorem dX6_hasMark_12 : decode cX6_hasMark 12 = .ok (.iconst 1, 1) := by decide +kernel
theorem dX6_hasMark_13 : decode cX6_hasMark 13 = .ok (.goto 4, 3) := by decide +kernel
theorem dX6_hasMark_16 : decode cX6_hasMark 16 = .ok (.iconst 0, 1) := by decide +kernel
theorem dX6_hasMark_17 : decode cX6_hasMark 17 = .ok (.ireturn, 1) := by decide +kernel
theorem dX6_become_0 : decode cX6_become 0 = .ok (.aload_n 0, 1) := by decide +kernel
theorem dX6_become_1 : decode cX6_become 1 = .ok (.getfield 12, 3) := by decide +kernel
theorem dX6_become_4 : decode cX6_become 4 = .ok (.aload_n 1, 1) := by decide +kernel
theorem dX6_become_5 : decode cX6_become 5 = .ok (.getfield 12, 3) := by decide +kernel
theorem dX6_become_8 : decode cX6_become 8 = .ok (.invokevirtual 41, 3) := by decide +kernel
theorem dX6_become_11 : decode cX6_become 11 = .ok (.aload_n 1, 1) := by decide +kernel
theorem dX6_become_12 : decode cX6_become 12 = .ok (.getfield 18, 3) := by decide +kernel
theorem dX6_become_15 : decode cX6_become 15 = .ok (.iconst 0, 1) := by decide +kernel
theorem dX6_become_16 : decode cX6_become 16 = .ok (.aload_n 0, 1) := by decide +kernel
theorem dX6_become_17 : decode cX6_become 17 = .ok (.getfield 18, 3) := by decide +kernel
theorem dX6_become_20 : decode cX6_become 20 = .ok (.iconst 0, 1) := by decide +kernel
theorem dX6_become_21 : decode cX6_become 21 = .ok (.bipush 10, 2) := by decide +kernel
theorem dX6_become_23 : decode cX6_become 23 = .ok (.invokestatic 45, 3) := by decide +kernel
theorem dX6_become_26 : decode cX6_become 26 = .ok (.aload_n 0, 1) := by decide +kernel
theorem dX6_become_27 : decode cX6_become 27 = .ok (.aload_n 1, 1) := by decide +kernel
theorem dX6_become_28 : decode cX6_become 28 = .ok (.getfield 22, 3) := by decide +kernel
theorem dX6_become_31 : decode cX6_become 31 = .ok (.putfield 22, 3) := by decide +kernel
theorem dX6_become_34 : decode cX6_become 34 = .ok (.aload_n 0, 1) := by decide +kernel
theorem dX6_become_35 : decode cX6_become 35 = .ok (.getfield 31, 3) := by decide +kernel
theorem dX6_become_38 : decode cX6_become 38 = .ok (.aload_n 1, 1) := by decide +kernel
theorem dX6_become_39 : decode cX6_become 39 = .ok (.getfield 31, 3) := by decide +kernel
theorem dX6_become_42 : decode cX6_become 42 = .ok (.invokevirtual 51, 3) := by decide +kernel
theorem dX6_become_45 : decode cX6_become 45 = .ok (.aload_n 0, 1) := by decide +kernel
theorem dX6_become_46 : decode cX6_become 46 = .ok (.getfield 35, 3) := by decide +kernel
theorem dX6_become_49 : decode cX6_become 49 = .ok (.aload_n 1, 1) := by decide +kernel
theorem dX6_become_50 : decode cX6_become 50 = .ok (.getfield 35, 3) := by decide +kernel
theorem dX6_become_53 : decode cX6_become 53 = .ok (.invokevirtual 51, 3) := by decide +kernel
theorem dX6_become_56 : decode cX6_become 56 = .ok (.aload_n 0, 1) := by decide +kernel
theorem dX6_become_57 : decode cX6_become 57 = .ok (.getfield 38, 3) := by decide +kernel
theorem dX6_become_60 : decode cX6_become 60 = .ok (.aload_n 1, 1) := by decide +kernel
theorem dX6_become_61 : decode cX6_become 61 = .ok (.getfield 38, 3) := by decide +kernel
theorem dX6_become_64 : decode cX6_become 64 = .ok (.invokevirtual 51, 3) := by decide +kernel
theorem dX6_become_67 : decode cX6_become 67 = .ok (.return_, 1) := by decide +kernel
theorem dX6_isSeenBelow_0 : decode cX6_isSeenBelow 0 = .ok (.iconst 0, 1) := by decide +kernel
theorem dX6_isSeenBelow_1 : decode cX6_isSeenBelow 1 = .ok (.istore_n 3, 1) := by decide +kernel
theorem dX6_isSeenBelow_2 : decode cX6_isSeenBelow 2 = .ok (.iload_n 3, 1) := by decide +kernel
theorem dX6_isSeenBelow_3 : decode cX6_isSeenBelow 3 = .ok (.aload_n 0, 1) := by decide +kernel
theorem dX6_isSeenBelow_4 : decode cX6_isSeenBelow 4 = .ok (.getfield 31, 3) := by decide +kernel
theorem dX6_isSeenBelow_7 : decode cX6_isSeenBelow 7 = .ok (.getfield 54, 3) := by decide +kernel
theorem dX6_isSeenBelow_10 : decode cX6_isSeenBelow 10 = .ok (.if_icmp .ge 79, 3) := by decide +kernel
theorem dX6_isSeenBelow_13 : decode cX6_isSeenBelow 13 = .ok (.aload_n 0, 1) := by decide +kernel
theorem dX6_isSeenBelow_14 : decode cX6_isSeenBelow 14 = .ok (.getfield 31, 3) := by decide +kernel
theorem dX6_isSeenBelow_17 : decode cX6_isSeenBelow 17 = .ok (.getfield 57, 3) := by decide +kernel
theorem dX6_isSeenBelow_20 : decode cX6_isSeenBelow 20 = .ok (.iload_n 3, 1) := by decide +kernel
theorem dX6_isSeenBelow_21 : decode cX6_isSeenBelow 21 = .ok (.iaload, 1) := by decide +kernel
theorem dX6_isSeenBelow_22 : decode cX6_isSeenBelow 22 = .ok (.istore 4, 2) := by decide +kernel
theorem dX6_isSeenBelow_24 : decode cX6_isSeenBelow 24 = .ok (.aload_n 0, 1) := by decide +kernel
theorem dX6_isSeenBelow_25 : decode cX6_isSeenBelow 25 = .ok (.getfield 12, 3) := by decide +kernel
theorem dX6_isSeenBelow_28 : decode cX6_isSeenBelow 28 = .ok (.iload 4, 2) := by decide +kernel
theorem dX6_isSeenBelow_30 : decode cX6_isSeenBelow 30 = .ok (.invokevirtual 60, 3) := by decide +kernel
theorem dX6_isSeenBelow_33 : decode cX6_isSeenBelow 33 = .ok (.ifCond .ne 5, 3) := by decide +kernel
theorem dX6_isSeenBelow_36 : decode cX6_isSeenBelow 36 = .ok (.iconst 0, 1) := by decide +kernel
theorem dX6_isSeenBelow_37 : decode cX6_isSeenBelow 37 = .ok (.ireturn, 1) := by decide +kernel
theorem dX6_isSeenBelow_38 : decode cX6_isSeenBelow 38 = .ok (.aload_n 0, 1) := by decide +kernel
theorem dX6_isSeenBelow_39 : decode cX6_isSeenBelow 39 = .ok (.getfield 12, 3) := by decide +kernel
theorem dX6_isSeenBelow_42 : decode cX6_isSeenBelow 42 = .ok (.iload 4, 2) := by decide +kernel
theorem dX6_isSeenBelow_44 : decode cX6_isSeenBelow 44 = .ok (.iload_n 1, 1) := by decide +kernel
theorem dX6_isSeenBelow_45 : decode cX6_isSeenBelow 45 = .ok (.invokevirtual 64, 3) := by decide +kernel
theorem dX6_isSeenBelow_48 : decode cX6_isSeenBelow 48 = .ok (.iload_n 2, 1) := by decide +kernel
theorem dX6_isSeenBelow_49 : decode cX6_isSeenBelow 49 = .ok (.if_icmp .ge 7, 3) := by decide +kernel
theorem dX6_isSeenBelow_52 : decode cX6_isSeenBelow 52 = .ok (.iconst 1, 1) := by decide +kernel
theorem dX6_isSeenBelow_53 : decode cX6_isSeenBelow 53 = .ok (.goto 4, 3) := by decide +kernel
theorem dX6_isSeenBelow_56 : decode cX6_isSeenBelow 56 = .ok (.iconst 0, 1) := by decide +kernel
theorem dX6_isSeenBelow_57 : decode cX6_isSeenBelow 57 = .ok (.istore 5, 2) := by decide +kernel
theorem dX6_isSeenBelow_59 : decode cX6_isSeenBelow 59 = .ok (.iload 5, 2) := by decide +kernel
theorem dX6_isSeenBelow_61 : decode cX6_isSeenBelow 61 = .ok (.aload_n 0, 1) := by decide +kernel
theorem dX6_isSeenBelow_62 : decode cX6_isSeenBelow 62 = .ok (.getfield 31, 3) := by decide +kernel
theorem dX6_isSeenBelow_65 : decode cX6_isSeenBelow 65 = .ok (.getfield 68, 3) := by decide +kernel
theorem dX6_isSeenBelow_68 : decode cX6_isSeenBelow 68 = .ok (.iload_n 3, 1) := by decide +kernel
theorem dX6_isSeenBelow_69 : decode cX6_isSeenBelow 69 = .ok (.iaload, 1) := by decide +kernel
theorem dX6_isSeenBelow_70 : decode cX6_isSeenBelow 70 = .ok (.ifCond .eq 7, 3) := by decide +kernel
theorem dX6_isSeenBelow_73 : decode cX6_isSeenBelow 73 = .ok (.iconst 1, 1) := by decide +kernel
theorem dX6_isSeenBelow_74 : decode cX6_isSeenBelow 74 = .ok (.goto 4, 3) := by decide +kernel
theorem dX6_isSeenBelow_77 : decode cX6_isSeenBelow 77 = .ok (.iconst 0, 1) := by decide +kernel
theorem dX6_isSeenBelow_78 : decode cX6_isSeenBelow 78 = .ok (.if_icmp .eq 5, 3) := by decide +kernel
theorem dX6_isSeenBelow_81 : decode cX6_isSeenBelow 81 = .ok (.iconst 0, 1) := by decide +kernel
theorem dX6_isSeenBelow_82 : decode cX6_isSeenBelow 82 = .ok (.ireturn, 1) := by decide +kernel
theorem dX6_isSeenBelow_83 : decode cX6_isSeenBelow 83 = .ok (.iinc 3 1, 3) := by decide +kernel
theorem dX6_isSeenBelow_86 : decode cX6_isSeenBelow 86 = .ok (.goto (-84), 3) := by decide +kernel
theorem dX6_isSeenBelow_89 : decode cX6_isSeenBelow 89 = .ok (.iconst 1, 1) := by decide +kernel
theorem dX6_isSeenBelow_90 : decode cX6_isSeenBelow 90 = .ok (.ireturn, 1) := by decide +kernel
theorem dX6_tryPlan_0 : decode cX6_tryPlan 0 = .ok (.aload_n 1, 1) := by decide +kernel
theorem dX6_tryPlan_1 : decode cX6_tryPlan 1 = .ok (.aload_n 0, 1) := by decide +kernel
theorem dX6_tryPlan_2 : decode cX6_tryPlan 2 = .ok (.getfield 12, 3) := by decide +kernel
theorem dX6_tryPlan_5 : decode cX6_tryPlan 5 = .ok (.invokevirtual 41, 3) := by decide +kernel
theorem dX6_tryPlan_8 : decode cX6_tryPlan 8 = .ok (.iconst 0, 1) := by decide +kernel
theorem dX6_tryPlan_9 : decode cX6_tryPlan 9 = .ok (.istore_n 2, 1) := by decide +kernel
theorem dX6_tryPlan_10 : decode cX6_tryPlan 10 = .ok (.iload_n 2, 1) := by decide +kernel
theorem dX6_tryPlan_11 : decode cX6_tryPlan 11 = .ok (.aload_n 0, 1) := by decide +kernel
theorem dX6_tryPlan_12 : decode cX6_tryPlan 12 = .ok (.getfield 35, 3) := by decide +kernel
theorem dX6_tryPlan_15 : decode cX6_tryPlan 15 = .ok (.getfield 54, 3) := by decide +kernel
theorem dX6_tryPlan_18 : decode cX6_tryPlan 18 = .ok (.if_icmp .ge 32, 3) := by decide +kernel
theorem dX6_tryPlan_21 : decode cX6_tryPlan 21 = .ok (.aload_n 0, 1) := by decide +kernel
theorem dX6_tryPlan_22 : decode cX6_tryPlan 22 = .ok (.aload_n 0, 1) := by decide +kernel
theorem dX6_tryPlan_23 : decode cX6_tryPlan 23 = .ok (.getfield 35, 3) := by decide +kernel
theorem dX6_tryPlan_26 : decode cX6_tryPlan 26 = .ok (.getfield 57, 3) := by decide +kernel
theorem dX6_tryPlan_29 : decode cX6_tryPlan 29 = .ok (.iload_n 2, 1) := by decide +kernel
theorem dX6_tryPlan_30 : decode cX6_tryPlan 30 = .ok (.iaload, 1) := by decide +kernel
theorem dX6_tryPlan_31 : decode cX6_tryPlan 31 = .ok (.aload_n 0, 1) := by decide +kernel
theorem dX6_tryPlan_32 : decode cX6_tryPlan 32 = .ok (.getfield 35, 3) := by decide +kernel
theorem dX6_tryPlan_35 : decode cX6_tryPlan 35 = .ok (.getfield 68, 3) := by decide +kernel
theorem dX6_tryPlan_38 : decode cX6_tryPlan 38 = .ok (.iload_n 2, 1) := by decide +kernel
theorem dX6_tryPlan_39 : decode cX6_tryPlan 39 = .ok (.iaload, 1) := by decide +kernel
theorem dX6_tryPlan_40 : decode cX6_tryPlan 40 = .ok (.aload_n 1, 1) := by decide +kernel
theorem dX6_tryPlan_41 : decode cX6_tryPlan 41 = .ok (.invokevirtual 71, 3) := by decide +kernel
theorem dX6_tryPlan_44 : decode cX6_tryPlan 44 = .ok (.iinc 2 1, 3) := by decide +kernel
theorem dX6_tryPlan_47 : decode cX6_tryPlan 47 = .ok (.goto (-37), 3) := by decide +kernel
theorem dX6_tryPlan_50 : decode cX6_tryPlan 50 = .ok (.return_, 1) := by decide +kernel
theorem dX6_tryStep_0 : decode cX6_tryStep 0 = .ok (.iload_n 1, 1) := by decide +kernel
theorem dX6_tryStep_1 : decode cX6_tryStep 1 = .ok (.ifCond .ne 23, 3) := by decide +kernel
theorem dX6_tryStep_4 : decode cX6_tryStep 4 = .ok (.aload_n 3, 1) := by decide +kernel
theorem dX6_tryStep_5 : decode cX6_tryStep 5 = .ok (.getfield 75, 3) := by decide +kernel
theorem dX6_tryStep_8 : decode cX6_tryStep 8 = .ok (.ifCond .le 62, 3) := by decide +kernel
theorem dX6_tryStep_11 : decode cX6_tryStep 11 = .ok (.aload_n 3, 1) := by decide +kernel
theorem dX6_tryStep_12 : decode cX6_tryStep 12 = .ok (.aload_n 3, 1) := by decide +kernel
theorem dX6_tryStep_13 : decode cX6_tryStep 13 = .ok (.getfield 75, 3) := by decide +kernel
theorem dX6_tryStep_16 : decode cX6_tryStep 16 = .ok (.iconst 1, 1) := by decide +kernel
theorem dX6_tryStep_17 : decode cX6_tryStep 17 = .ok (.isub, 1) := by decide +kernel
theorem dX6_tryStep_18 : decode cX6_tryStep 18 = .ok (.invokevirtual 76, 3) := by decide +kernel
theorem dX6_tryStep_21 : decode cX6_tryStep 21 = .ok (.goto 49, 3) := by decide +kernel
theorem dX6_tryStep_24 : decode cX6_tryStep 24 = .ok (.iload_n 1, 1) := by decide +kernel
theorem dX6_tryStep_25 : decode cX6_tryStep 25 = .ok (.iconst 1, 1) := by decide +kernel
theorem dX6_tryStep_26 : decode cX6_tryStep 26 = .ok (.if_icmp .ne 26, 3) := by decide +kernel
theorem dX6_tryStep_29 : decode cX6_tryStep 29 = .ok (.aload_n 3, 1) := by decide +kernel
theorem dX6_tryStep_30 : decode cX6_tryStep 30 = .ok (.iload_n 2, 1) := by decide +kernel
theorem dX6_tryStep_31 : decode cX6_tryStep 31 = .ok (.invokevirtual 60, 3) := by decide +kernel
theorem dX6_tryStep_34 : decode cX6_tryStep 34 = .ok (.ifCond .eq 36, 3) := by decide +kernel
theorem dX6_tryStep_37 : decode cX6_tryStep 37 = .ok (.aload_n 3, 1) := by decide +kernel
theorem dX6_tryStep_38 : decode cX6_tryStep 38 = .ok (.invokevirtual 79, 3) := by decide +kernel
theorem dX6_tryStep_41 : decode cX6_tryStep 41 = .ok (.ifCond .ne 29, 3) := by decide +kernel
theorem dX6_tryStep_44 : decode cX6_tryStep 44 = .ok (.aload_n 3, 1) := by decide +kernel
theorem dX6_tryStep_45 : decode cX6_tryStep 45 = .ok (.iload_n 2, 1) := by decide +kernel
theorem dX6_tryStep_46 : decode cX6_tryStep 46 = .ok (.invokevirtual 83, 3) := by decide +kernel
theorem dX6_tryStep_49 : decode cX6_tryStep 49 = .ok (.goto 21, 3) := by decide +kernel
theorem dX6_tryStep_52 : decode cX6_tryStep 52 = .ok (.aload_n 0, 1) := by decide +kernel
theorem dX6_tryStep_53 : decode cX6_tryStep 53 = .ok (.iload_n 2, 1) := by decide +kernel
theorem dX6_tryStep_54 : decode cX6_tryStep 54 = .ok (.invokevirtual 86, 3) := by decide +kernel
theorem dX6_tryStep_57 : decode cX6_tryStep 57 = .ok (.ifCond .eq 13, 3) := by decide +kernel
theorem dX6_tryStep_60 : decode cX6_tryStep 60 = .ok (.aload_n 3, 1) := by decide +kernel
theorem dX6_tryStep_61 : decode cX6_tryStep 61 = .ok (.aload_n 0, 1) := by decide +kernel
theorem dX6_tryStep_62 : decode cX6_tryStep 62 = .ok (.getfield 18, 3) := by decide +kernel
theorem dX6_tryStep_65 : decode cX6_tryStep 65 = .ok (.iload_n 2, 1) := by decide +kernel
theorem dX6_tryStep_66 : decode cX6_tryStep 66 = .ok (.iaload, 1) := by decide +kernel
theorem dX6_tryStep_67 : decode cX6_tryStep 67 = .ok (.invokevirtual 76, 3) := by decide +kernel
theorem dX6_tryStep_70 : decode cX6_tryStep 70 = .ok (.return_, 1) := by decide +kernel
theorem dX7_init_0 : decode cX7_init 0 = .ok (.aload_n 0, 1) := by decide +kernel
theorem dX7_init_1 : decode cX7_init 1 = .ok (.invokespecial 3, 3) := by decide +kernel
theorem dX7_init_4 : decode cX7_init 4 = .ok (.aload_n 0, 1) := by decide +kernel
theorem dX7_init_5 : decode cX7_init 5 = .ok (.bipush 60, 2) := by decide +kernel
theorem dX7_init_7 : decode cX7_init 7 = .ok (.newarray .long, 2) := by decide +kernel
theorem dX7_init_9 : decode cX7_init 9 = .ok (.putfield 9, 3) := by decide +kernel
theorem dX7_init_12 : decode cX7_init 12 = .ok (.aload_n 0, 1) := by decide +kernel
theorem dX7_init_13 : decode cX7_init 13 = .ok (.iconst (-1), 1) := by decide +kernel
theorem dX7_init_14 : decode cX7_init 14 = .ok (.putfield 15, 3) := by decide +kernel
theorem dX7_init_17 : decode cX7_init 17 = .ok (.aload_n 0, 1) := by decide +kernel
theorem dX7_init_18 : decode cX7_init 18 = .ok (.iconst 0, 1) := by decide +kernel
theorem dX7_init_19 : decode cX7_init 19 = .ok (.putfield 19, 3) := by decide +kernel
theorem dX7_init_22 : decode cX7_init 22 = .ok (.return_, 1) := by decide +kernel
theorem dX7_isNothing_0 : decode cX7_isNothing 0 = .ok (.aload_n 0, 1) := by decide +kernel
theorem dX7_isNothing_1 : decode cX7_isNothing 1 = .ok (.getfield 15, 3) := by decide +kernel
theorem dX7_isNothing_4 : decode cX7_isNothing 4 = .ok (.iconst (-1), 1) := by decide +kernel
theorem dX7_isNothing_5 : decode cX7_isNothing 5 = .ok (.if_icmp .ne 7, 3) := by decide +kernel
theorem dX7_isNothing_8 : decode cX7_isNothing 8 = .ok (.iconst 1, 1) := by decide +kernel
theorem dX7_isNothing_9 : decode cX7_isNothing 9 = .ok (.goto 4, 3) := by decide +kernel
theorem dX7_isNothing_12 : decode cX7_isNothing 12 = .ok (.iconst 0, 1) := by decide +kernel
theorem dX7_isNothing_13 : decode cX7_isNothing 13 = .ok (.ireturn, 1) := by decide +kernel
theorem dX7_hasItem_0 : decode cX7_hasItem 0 = .ok (.iload_n 1, 1) := by decide +kernel
theorem dX7_hasItem_1 : decode cX7_hasItem 1 = .ok (.ifCond .lt 15, 3) := by decide +kernel
theorem dX7_hasItem_4 : decode cX7_hasItem 4 = .ok (.iload_n 1, 1) := by decide +kernel
theorem dX7_hasItem_5 : decode cX7_hasItem 5 = .ok (.aload_n 0, 1) := by decide +kernel
theorem dX7_hasItem_6 : decode cX7_hasItem 6 = .ok (.getfield 19, 3) := by decide +kernel
theorem dX7_hasItem_9 : decode cX7_hasItem 9 = .ok (.if_icmp .ge 7, 3) := by decide +kernel
theorem dX7_hasItem_12 : decode cX7_hasItem 12 = .ok (.iconst 1, 1) := by decide +kernel
theorem dX7_hasItem_13 : decode cX7_hasItem 13 = .ok (.goto 4, 3) := by decide +kernel
theorem dX7_hasItem_16 : decode cX7_hasItem 16 = .ok (.iconst 0, 1) := by decide +kernel
theorem dX7_hasItem_17 : decode cX7_hasItem 17 = .ok (.ireturn, 1) := by decide +kernel
theorem dX7_hasStretch_0 : decode cX7_hasStretch 0 = .ok (.iload_n 2, 1) := by decide +kernel
theorem dX7_hasStretch_1 : decode cX7_hasStretch 1 = .ok (.ifCond .lt 21, 3) := by decide +kernel
theorem dX7_hasStretch_4 : decode cX7_hasStretch 4 = .ok (.iload_n 1, 1) := by decide +kernel
theorem dX7_hasStretch_5 : decode cX7_hasStretch 5 = .ok (.ifCond .lt 17, 3) := by decide +kernel
theorem dX7_hasStretch_8 : decode cX7_hasStretch 8 = .ok (.iload_n 1, 1) := by decide +kernel
theorem dX7_hasStretch_9 : decode cX7_hasStretch 9 = .ok (.aload_n 0, 1) := by decide +kernel
theorem dX7_hasStretch_10 : decode cX7_hasStretch 10 = .ok (.getfield 19, 3) := by decide +kernel
theorem dX7_hasStretch_13 : decode cX7_hasStretch 13 = .ok (.iload_n 2, 1) := by decide +kernel
theorem dX7_hasStretch_14 : decode cX7_hasStretch 14 = .ok (.isub, 1) := by decide +kernel
theorem dX7_hasStretch_15 : decode cX7_hasStretch 15 = .ok (.if_icmp .gt 7, 3) := by decide +kernel
theorem dX7_hasStretch_18 : decode cX7_hasStretch 18 = .ok (.iconst 1, 1) := by decide +kernel
theorem dX7_hasStretch_19 : decode cX7_hasStretch 19 = .ok (.goto 4, 3) := by decide +kernel
theorem dX7_hasStretch_22 : decode cX7_hasStretch 22 = .ok (.iconst 0, 1) := by decide +kernel
theorem dX7_hasStretch_23 : decode cX7_hasStretch 23 = .ok (.ireturn, 1) := by decide +kernel
theorem dX7_become_0 : decode cX7_become 0 = .ok (.aload_n 0, 1) := by decide +kernel
theorem dX7_become_1 : decode cX7_become 1 = .ok (.getfield 9, 3) := by decide +kernel
theorem dX7_become_4 : decode cX7_become 4 = .ok (.lconst 0, 1) := by decide +kernel
theorem dX7_become_5 : decode cX7_become 5 = .ok (.invokestatic 22, 3) := by decide +kernel
theorem dX7_become_8 : decode cX7_become 8 = .ok (.aload_n 0, 1) := by decide +kernel
theorem dX7_become_9 : decode cX7_become 9 = .ok (.iload_n 1, 1) := by decide +kernel
theorem dX7_become_10 : decode cX7_become 10 = .ok (.putfield 15, 3) := by decide +kernel
theorem dX7_become_13 : decode cX7_become 13 = .ok (.aload_n 0, 1) := by decide +kernel
theorem dX7_become_14 : decode cX7_become 14 = .ok (.iload_n 2, 1) := by decide +kernel
theorem dX7_become_15 : decode cX7_become 15 = .ok (.putfield 19, 3) := by decide +kernel
theorem dX7_become_18 : decode cX7_become 18 = .ok (.return_, 1) := by decide +kernel
theorem dX7_put_0 : decode cX7_put 0 = .ok (.aload_n 0, 1) := by decide +kernel
theorem dX7_put_1 : decode cX7_put 1 = .ok (.getfield 15, 3) := by decide +kernel
theorem dX7_put_4 : decode cX7_put 4 = .ok (.tableswitch 94 0 4 #[36, 49, 62, 94, 74], 36) := by decide +kernel
theorem dX7_put_40 : decode cX7_put 40 = .ok (.aload_n 0, 1) := by decide +kernel
theorem dX7_put_41 : decode cX7_put 41 = .ok (.getfield 9, 3) := by decide +kernel
theorem dX7_put_44 : decode cX7_put 44 = .ok (.iload_n 1, 1) := by decide +kernel
theorem dX7_put_45 : decode cX7_put 45 = .ok (.lload_n 2, 1) := by decide +kernel
theorem dX7_put_46 : decode cX7_put 46 = .ok (.l2i, 1) := by decide +kernel
theorem dX7_put_47 : decode cX7_put 47 = .ok (.i2b, 1) := by decide +kernel
theorem dX7_put_48 : decode cX7_put 48 = .ok (.i2l, 1) := by decide +kernel
theorem dX7_put_49 : decode cX7_put 49 = .ok (.lastore, 1) := by decide +kernel
theorem dX7_put_50 : decode cX7_put 50 = .ok (.goto 55, 3) := by decide +kernel
theorem dX7_put_53 : decode cX7_put 53 = .ok (.aload_n 0, 1) := by decide +kernel
theorem dX7_put_54 : decode cX7_put 54 = .ok (.getfield 9, 3) := by decide +kernel
theorem dX7_put_57 : decode cX7_put 57 = .ok (.iload_n 1, 1) := by decide +kernel
theorem dX7_put_58 : decode cX7_put 58 = .ok (.lload_n 2, 1) := by decide +kernel
theorem dX7_put_59 : decode cX7_put 59 = .ok (.l2i, 1) := by decide +kernel
theorem dX7_put_60 : decode cX7_put 60 = .ok (.i2s, 1) := by decide +kernel
theorem dX7_put_61 : decode cX7_put 61 = .ok (.i2l, 1) := by decide +kernel
theorem dX7_put_62 : decode cX7_put 62 = .ok (.lastore, 1) := by decide +kernel
theorem dX7_put_63 : decode cX7_put 63 = .ok (.goto 42, 3) := by decide +kernel
theorem dX7_put_66 : decode cX7_put 66 = .ok (.aload_n 0, 1) := by decide +kernel
theorem dX7_put_67 : decode cX7_put 67 = .ok (.getfield 9, 3) := by decide +kernel
theorem dX7_put_70 : decode cX7_put 70 = .ok (.iload_n 1, 1) := by decide +kernel
theorem dX7_put_71 : decode cX7_put 71 = .ok (.lload_n 2, 1) := by decide +kernel
theorem dX7_put_72 : decode cX7_put 72 = .ok (.l2i, 1) := by decide +kernel
theorem dX7_put_73 : decode cX7_put 73 = .ok (.i2l, 1) := by decide +kernel
theorem dX7_put_74 : decode cX7_put 74 = .ok (.lastore, 1) := by decide +kernel
theorem dX7_put_75 : decode cX7_put 75 = .ok (.goto 30, 3) := by decide +kernel
theorem dX7_put_78 : decode cX7_put 78 = .ok (.aload_n 0, 1) := by decide +kernel
theorem dX7_put_79 : decode cX7_put 79 = .ok (.getfield 9, 3) := by decide +kernel
theorem dX7_put_82 : decode cX7_put 82 = .ok (.iload_n 1, 1) := by decide +kernel
theorem dX7_put_83 : decode cX7_put 83 = .ok (.lload_n 2, 1) := by decide +kernel
theorem dX7_put_84 : decode cX7_put 84 = .ok (.lconst 0, 1) := by decide +kernel
theorem dX7_put_85 : decode cX7_put 85 = .ok (.lcmp, 1) := by decide +kernel
theorem dX7_put_86 : decode cX7_put 86 = .ok (.ifCond .eq 7, 3) := by decide +kernel
theorem dX7_put_89 : decode cX7_put 89 = .ok (.lconst 1, 1) := by decide +kernel
theorem dX7_put_90 : decode cX7_put 90 = .ok (.goto 4, 3) := by decide +kernel
theorem dX7_put_93 : decode cX7_put 93 = .ok (.lconst 0, 1) := by decide +kernel
theorem dX7_put_94 : decode cX7_put 94 = .ok (.lastore, 1) := by decide +kernel
theorem dX7_put_95 : decode cX7_put 95 = .ok (.goto 10, 3) := by decide +kernel
theorem dX7_put_98 : decode cX7_put 98 = .ok (.aload_n 0, 1) := by decide +kernel
theorem dX7_put_99 : decode cX7_put 99 = .ok (.getfield 9, 3) := by decide +kernel
theorem dX7_put_102 : decode cX7_put 102 = .ok (.iload_n 1, 1) := by decide +kernel
theorem dX7_put_103 : decode cX7_put 103 = .ok (.lload_n 2, 1) := by decide +kernel
theorem dX7_put_104 : decode cX7_put 104 = .ok (.lastore, 1) := by decide +kernel
theorem dX7_put_105 : decode cX7_put 105 = .ok (.return_, 1) := by decide +kernel
theorem dX8_init_0 : decode cX8_init 0 = .ok (.aload_n 0, 1) := by decide +kernel
theorem dX8_init_1 : decode cX8_init 1 = .ok (.invokespecial 3, 3) := by decide +kernel
theorem dX8_init_4 : decode cX8_init 4 = .ok (.aload_n 0, 1) := by decide +kernel
theorem dX8_init_5 : decode cX8_init 5 = .ok (.bipush 15, 2) := by decide +kernel
theorem dX8_init_7 : decode cX8_init 7 = .ok (.anewarray 9, 3) := by decide +kernel
theorem dX8_init_10 : decode cX8_init 10 = .ok (.putfield 11, 3) := by decide +kernel
theorem dX8_init_13 : decode cX8_init 13 = .ok (.aload_n 0, 1) := by decide +kernel
theorem dX8_init_14 : decode cX8_init 14 = .ok (.bipush 15, 2) := by decide +kernel
theorem dX8_init_16 : decode cX8_init 16 = .ok (.newarray .int, 2) := by decide +kernel
theorem dX8_init_18 : decode cX8_init 18 = .ok (.putfield 17, 3) := by decide +kernel
theorem dX8_init_21 : decode cX8_init 21 = .ok (.aload_n 0, 1) := by decide +kernel
theorem dX8_init_22 : decode cX8_init 22 = .ok (.bipush 15, 2) := by decide +kernel
theorem dX8_init_24 : decode cX8_init 24 = .ok (.newarray .int, 2) := by decide +kernel
theorem dX8_init_26 : decode cX8_init 26 = .ok (.putfield 21, 3) := by decide +kernel
theorem dX8_init_29 : decode cX8_init 29 = .ok (.aload_n 0, 1) := by decide +kernel
theorem dX8_init_30 : decode cX8_init 30 = .ok (.iconst 0, 1) := by decide +kernel
theorem dX8_init_31 : decode cX8_init 31 = .ok (.putfield 24, 3) := by decide +kernel
theorem dX8_init_34 : decode cX8_init 34 = .ok (.iconst 0, 1) := by decide +kernel
theorem dX8_init_35 : decode cX8_init 35 = .ok (.istore_n 1, 1) := by decide +kernel
theorem dX8_init_36 : decode cX8_init 36 = .ok (.iload_n 1, 1) := by decide +kernel
theorem dX8_init_37 : decode cX8_init 37 = .ok (.bipush 15, 2) := by decide +kernel
theorem dX8_init_39 : decode cX8_init 39 = .ok (.if_icmp .ge 22, 3) := by decide +kernel
theorem dX8_init_42 : decode cX8_init 42 = .ok (.aload_n 0, 1) := by decide +kernel
theorem dX8_init_43 : decode cX8_init 43 = .ok (.getfield 11, 3) := by decide +kernel
theorem dX8_init_46 : decode cX8_init 46 = .ok (.iload_n 1, 1) := by decide +kernel
theorem dX8_init_47 : decode cX8_init 47 = .ok (.new 9, 3) := by decide +kernel
theorem dX8_init_50 : decode cX8_init 50 = .ok (.dup, 1) := by decide +kernel
theorem dX8_init_51 : decode cX8_init 51 = .ok (.invokespecial 28, 3) := by decide +kernel
theorem dX8_init_54 : decode cX8_init 54 = .ok (.aastore, 1) := by decide +kernel
theorem dX8_init_55 : decode cX8_init 55 = .ok (.iinc 1 1, 3) := by decide +kernel
theorem dX8_init_58 : decode cX8_init 58 = .ok (.goto (-22), 3) := by decide +kernel
theorem dX8_init_61 : decode cX8_init 61 = .ok (.return_, 1) := by decide +kernel
theorem dX8_result_0 : decode cX8_result 0 = .ok (.aload_n 0, 1) := by decide +kernel
theorem dX8_result_1 : decode cX8_result 1 = .ok (.getfield 11, 3) := by decide +kernel
theorem dX8_result_4 : decode cX8_result 4 = .ok (.iconst 0, 1) := by decide +kernel
theorem dX8_result_5 : decode cX8_result 5 = .ok (.aaload, 1) := by decide +kernel
theorem dX8_result_6 : decode cX8_result 6 = .ok (.areturn, 1) := by decide +kernel
theorem dX8_cost_0 : decode cX8_cost 0 = .ok (.aload_n 0, 1) := by decide +kernel
theorem dX8_cost_1 : decode cX8_cost 1 = .ok (.getfield 17, 3) := by decide +kernel
theorem dX8_cost_4 : decode cX8_cost 4 = .ok (.iconst 0, 1) := by decide +kernel
theorem dX8_cost_5 : decode cX8_cost 5 = .ok (.iaload, 1) := by decide +kernel
theorem dX8_cost_6 : decode cX8_cost 6 = .ok (.ireturn, 1) := by decide +kernel
theorem dX8_depth_0 : decode cX8_depth 0 = .ok (.aload_n 0, 1) := by decide +kernel
theorem dX8_depth_1 : decode cX8_depth 1 = .ok (.getfield 21, 3) := by decide +kernel
theorem dX8_depth_4 : decode cX8_depth 4 = .ok (.iconst 0, 1) := by decide +kernel
theorem dX8_depth_5 : decode cX8_depth 5 = .ok (.iaload, 1) := by decide +kernel
theorem dX8_depth_6 : decode cX8_depth 6 = .ok (.ireturn, 1) := by decide +kernel
theorem dX8_goThrough_0 : decode cX8_goThrough 0 = .ok (.aload_n 0, 1) := by decide +kernel
theorem dX8_goThrough_1 : decode cX8_goThrough 1 = .ok (.iconst 0, 1) := by decide +kernel
theorem dX8_goThrough_2 : decode cX8_goThrough 2 = .ok (.putfield 24, 3) := by decide +kernel
theorem dX8_goThrough_5 : decode cX8_goThrough 5 = .ok (.iconst 0, 1) := by decide +kernel
theorem dX8_goThrough_6 : decode cX8_goThrough 6 = .ok (.istore_n 3, 1) := by decide +kernel
theorem dX8_goThrough_7 : decode cX8_goThrough 7 = .ok (.iload_n 3, 1) := by decide +kernel
theorem dX8_goThrough_8 : decode cX8_goThrough 8 = .ok (.aload_n 1, 1) := by decide +kernel
theorem dX8_goThrough_9 : decode cX8_goThrough 9 = .ok (.getfield 29, 3) := by decide +kernel
theorem dX8_goThrough_12 : decode cX8_goThrough 12 = .ok (.if_icmp .ge 61, 3) := by decide +kernel
theorem dX8_goThrough_15 : decode cX8_goThrough 15 = .ok (.aload_n 1, 1) := by decide +kernel
theorem dX8_goThrough_16 : decode cX8_goThrough 16 = .ok (.getfield 34, 3) := by decide +kernel
theorem dX8_goThrough_19 : decode cX8_goThrough 19 = .ok (.iload_n 3, 1) := by decide +kernel
theorem dX8_goThrough_20 : decode cX8_goThrough 20 = .ok (.baload, 1) := by decide +kernel
theorem dX8_goThrough_21 : decode cX8_goThrough 21 = .ok (.istore 4, 2) := by decide +kernel
theorem dX8_goThrough_23 : decode cX8_goThrough 23 = .ok (.iload 4, 2) := by decide +kernel
theorem dX8_goThrough_25 : decode cX8_goThrough 25 = .ok (.iconst 4, 1) := by decide +kernel
theorem dX8_goThrough_26 : decode cX8_goThrough 26 = .ok (.if_icmp .ne 11, 3) := by decide +kernel
theorem dX8_goThrough_29 : decode cX8_goThrough 29 = .ok (.aload_n 0, 1) := by decide +kernel
theorem dX8_goThrough_30 : decode cX8_goThrough 30 = .ok (.aload_n 2, 1) := by decide +kernel
theorem dX8_goThrough_31 : decode cX8_goThrough 31 = .ok (.invokevirtual 38, 3) := by decide +kernel
theorem dX8_goThrough_34 : decode cX8_goThrough 34 = .ok (.goto 33, 3) := by decide +kernel
theorem dX8_goThrough_37 : decode cX8_goThrough 37 = .ok (.iload 4, 2) := by decide +kernel
theorem dX8_goThrough_39 : decode cX8_goThrough 39 = .ok (.iconst 5, 1) := by decide +kernel
theorem dX8_goThrough_40 : decode cX8_goThrough 40 = .ok (.if_icmp .eq 10, 3) := by decide +kernel
theorem dX8_goThrough_43 : decode cX8_goThrough 43 = .ok (.iload 4, 2) := by decide +kernel
theorem dX8_goThrough_45 : decode cX8_goThrough 45 = .ok (.bipush 6, 2) := by decide +kernel
theorem dX8_goThrough_47 : decode cX8_goThrough 47 = .ok (.if_icmp .ne 13, 3) := by decide +kernel
theorem dX8_goThrough_50 : decode cX8_goThrough 50 = .ok (.aload_n 0, 1) := by decide +kernel
theorem dX8_goThrough_51 : decode cX8_goThrough 51 = .ok (.iload 4, 2) := by decide +kernel
theorem dX8_goThrough_53 : decode cX8_goThrough 53 = .ok (.aload_n 2, 1) := by decide +kernel
theorem dX8_goThrough_54 : decode cX8_goThrough 54 = .ok (.invokevirtual 42, 3) := by decide +kernel
theorem dX8_goThrough_57 : decode cX8_goThrough 57 = .ok (.goto 10, 3) := by decide +kernel
theorem dX8_goThrough_60 : decode cX8_goThrough 60 = .ok (.aload_n 0, 1) := by decide +kernel
theorem dX8_goThrough_61 : decode cX8_goThrough 61 = .ok (.aload_n 1, 1) := by decide +kernel
theorem dX8_goThrough_62 : decode cX8_goThrough 62 = .ok (.iload_n 3, 1) := by decide +kernel
theorem dX8_goThrough_63 : decode cX8_goThrough 63 = .ok (.aload_n 2, 1) := by decide +kernel
theorem dX8_goThrough_64 : decode cX8_goThrough 64 = .ok (.invokevirtual 46, 3) := by decide +kernel
theorem dX8_goThrough_67 : decode cX8_goThrough 67 = .ok (.iinc 3 1, 3) := by decide +kernel
theorem dX8_goThrough_70 : decode cX8_goThrough 70 = .ok (.goto (-63), 3) := by decide +kernel
theorem dX8_goThrough_73 : decode cX8_goThrough 73 = .ok (.return_, 1) := by decide +kernel
theorem dX8_turn_0 : decode cX8_turn 0 = .ok (.aload_n 0, 1) := by decide +kernel
theorem dX8_turn_1 : decode cX8_turn 1 = .ok (.getfield 24, 3) := by decide +kernel
theorem dX8_turn_4 : decode cX8_turn 4 = .ok (.iconst 1, 1) := by decide +kernel
theorem dX8_turn_5 : decode cX8_turn 5 = .ok (.if_icmp .ge 4, 3) := by decide +kernel
theorem dX8_turn_8 : decode cX8_turn 8 = .ok (.return_, 1) := by decide +kernel
theorem dX8_turn_9 : decode cX8_turn 9 = .ok (.aload_n 0, 1) := by decide +kernel
theorem dX8_turn_10 : decode cX8_turn 10 = .ok (.getfield 11, 3) := by decide +kernel
theorem dX8_turn_13 : decode cX8_turn 13 = .ok (.aload_n 0, 1) := by decide +kernel
theorem dX8_turn_14 : decode cX8_turn 14 = .ok (.getfield 24, 3) := by decide +kernel
theorem dX8_turn_17 : decode cX8_turn 17 = .ok (.iconst 1, 1) := by decide +kernel
theorem dX8_turn_18 : decode cX8_turn 18 = .ok (.isub, 1) := by decide +kernel
theorem dX8_turn_19 : decode cX8_turn 19 = .ok (.aaload, 1) := by decide +kernel
theorem dX8_turn_20 : decode cX8_turn 20 = .ok (.aload_n 1, 1) := by decide +kernel
theorem dX8_turn_21 : decode cX8_turn 21 = .ok (.getfield 50, 3) := by decide +kernel
theorem dX8_turn_24 : decode cX8_turn 24 = .ok (.invokevirtual 53, 3) := by decide +kernel
theorem dX8_turn_27 : decode cX8_turn 27 = .ok (.aload_n 0, 1) := by decide +kernel
theorem dX8_turn_28 : decode cX8_turn 28 = .ok (.getfield 21, 3) := by decide +kernel
theorem dX8_turn_31 : decode cX8_turn 31 = .ok (.aload_n 0, 1) := by decide +kernel
theorem dX8_turn_32 : decode cX8_turn 32 = .ok (.getfield 24, 3) := by decide +kernel
theorem dX8_turn_35 : decode cX8_turn 35 = .ok (.iconst 1, 1) := by decide +kernel
theorem dX8_turn_36 : decode cX8_turn 36 = .ok (.isub, 1) := by decide +kernel
theorem dX8_turn_37 : decode cX8_turn 37 = .ok (.dup2, 1) := by decide +kernel
theorem dX8_turn_38 : decode cX8_turn 38 = .ok (.iaload, 1) := by decide +kernel
theorem dX8_turn_39 : decode cX8_turn 39 = .ok (.iconst 1, 1) := by decide +kernel
theorem dX8_turn_40 : decode cX8_turn 40 = .ok (.iadd, 1) := by decide +kernel
theorem dX8_turn_41 : decode cX8_turn 41 = .ok (.iastore, 1) := by decide +kernel
theorem dX8_turn_42 : decode cX8_turn 42 = .ok (.return_, 1) := by decide +kernel
theorem dX8_join_0 : decode cX8_join 0 = .ok (.aload_n 0, 1) := by decide +kernel
theorem dX8_join_1 : decode cX8_join 1 = .ok (.getfield 24, 3) := by decide +kernel
theorem dX8_join_4 : decode cX8_join 4 = .ok (.iconst 2, 1) := by decide +kernel
theorem dX8_join_5 : decode cX8_join 5 = .ok (.if_icmp .ge 4, 3) := by decide +kernel
theorem dX8_join_8 : decode cX8_join 8 = .ok (.return_, 1) := by decide +kernel
theorem dX8_join_9 : decode cX8_join 9 = .ok (.aload_n 0, 1) := by decide +kernel
theorem dX8_join_10 : decode cX8_join 10 = .ok (.getfield 24, 3) := by decide +kernel
theorem dX8_join_13 : decode cX8_join 13 = .ok (.iconst 2, 1) := by decide +kernel
theorem dX8_join_14 : decode cX8_join 14 = .ok (.isub, 1) := by decide +kernel
theorem dX8_join_15 : decode cX8_join 15 = .ok (.istore_n 3, 1) := by decide +kernel
theorem dX8_join_16 : decode cX8_join 16 = .ok (.aload_n 0, 1) := by decide +kernel
theorem dX8_join_17 : decode cX8_join 17 = .ok (.getfield 24, 3) := by decide +kernel
theorem dX8_join_20 : decode cX8_join 20 = .ok (.iconst 1, 1) := by decide +kernel
theorem dX8_join_21 : decode cX8_join 21 = .ok (.isub, 1) := by decide +kernel
theorem dX8_join_22 : decode cX8_join 22 = .ok (.istore 4, 2) := by decide +kernel
theorem dX8_join_24 : decode cX8_join 24 = .ok (.aload_n 0, 1) := by decide +kernel
theorem dX8_join_25 : decode cX8_join 25 = .ok (.getfield 17, 3) := by decide +kernel
theorem dX8_join_28 : decode cX8_join 28 = .ok (.iload_n 3, 1) := by decide +kernel
theorem dX8_join_29 : decode cX8_join 29 = .ok (.dup2, 1) := by decide +kernel
theorem dX8_join_30 : decode cX8_join 30 = .ok (.iaload, 1) := by decide +kernel
theorem dX8_join_31 : decode cX8_join 31 = .ok (.aload_n 0, 1) := by decide +kernel
theorem dX8_join_32 : decode cX8_join 32 = .ok (.getfield 17, 3) := by decide +kernel
theorem dX8_join_35 : decode cX8_join 35 = .ok (.iload 4, 2) := by decide +kernel
theorem dX8_join_37 : decode cX8_join 37 = .ok (.iaload, 1) := by decide +kernel
theorem dX8_join_38 : decode cX8_join 38 = .ok (.aload_n 0, 1) := by decide +kernel
theorem dX8_join_39 : decode cX8_join 39 = .ok (.getfield 11, 3) := by decide +kernel
theorem dX8_join_42 : decode cX8_join 42 = .ok (.iload_n 3, 1) := by decide +kernel
theorem dX8_join_43 : decode cX8_join 43 = .ok (.aaload, 1) := by decide +kernel
theorem dX8_join_44 : decode cX8_join 44 = .ok (.aload_n 2, 1) := by decide +kernel
theorem dX8_join_45 : decode cX8_join 45 = .ok (.getfield 50, 3) := by decide +kernel
theorem dX8_join_48 : decode cX8_join 48 = .ok (.invokevirtual 56, 3) := by decide +kernel
theorem dX8_join_51 : decode cX8_join 51 = .ok (.iadd, 1) := by decide +kernel
theorem dX8_join_52 : decode cX8_join 52 = .ok (.aload_n 0, 1) := by decide +kernel
theorem dX8_join_53 : decode cX8_join 53 = .ok (.getfield 11, 3) := by decide +kernel
theorem dX8_join_56 : decode cX8_join 56 = .ok (.iload 4, 2) := by decide +kernel
theorem dX8_join_58 : decode cX8_join 58 = .ok (.aaload, 1) := by decide +kernel
theorem dX8_join_59 : decode cX8_join 59 = .ok (.aload_n 2, 1) := by decide +kernel
theorem dX8_join_60 : decode cX8_join 60 = .ok (.getfield 50, 3) := by decide +kernel
theorem dX8_join_63 : decode cX8_join 63 = .ok (.invokevirtual 56, 3) := by decide +kernel
theorem dX8_join_66 : decode cX8_join 66 = .ok (.iadd, 1) := by decide +kernel
theorem dX8_join_67 : decode cX8_join 67 = .ok (.iadd, 1) := by decide +kernel
theorem dX8_join_68 : decode cX8_join 68 = .ok (.iastore, 1) := by decide +kernel
theorem dX8_join_69 : decode cX8_join 69 = .ok (.aload_n 0, 1) := by decide +kernel
theorem dX8_join_70 : decode cX8_join 70 = .ok (.getfield 21, 3) := by decide +kernel
theorem dX8_join_73 : decode cX8_join 73 = .ok (.iload_n 3, 1) := by decide +kernel
theorem dX8_join_74 : decode cX8_join 74 = .ok (.aload_n 0, 1) := by decide +kernel
theorem dX8_join_75 : decode cX8_join 75 = .ok (.getfield 21, 3) := by decide +kernel
theorem dX8_join_78 : decode cX8_join 78 = .ok (.iload_n 3, 1) := by decide +kernel
theorem dX8_join_79 : decode cX8_join 79 = .ok (.iaload, 1) := by decide +kernel
theorem dX8_join_80 : decode cX8_join 80 = .ok (.aload_n 0, 1) := by decide +kernel
theorem dX8_join_81 : decode cX8_join 81 = .ok (.getfield 21, 3) := by decide +kernel
theorem dX8_join_84 : decode cX8_join 84 = .ok (.iload 4, 2) := by decide +kernel
theorem dX8_join_86 : decode cX8_join 86 = .ok (.iaload, 1) := by decide +kernel
theorem dX8_join_87 : decode cX8_join 87 = .ok (.invokestatic 60, 3) := by decide +kernel
theorem dX8_join_90 : decode cX8_join 90 = .ok (.iconst 1, 1) := by decide +kernel
theorem dX8_join_91 : decode cX8_join 91 = .ok (.iadd, 1) := by decide +kernel
theorem dX8_join_92 : decode cX8_join 92 = .ok (.iastore, 1) := by decide +kernel
theorem dX8_join_93 : decode cX8_join 93 = .ok (.iload_n 1, 1) := by decide +kernel
theorem dX8_join_94 : decode cX8_join 94 = .ok (.iconst 5, 1) := by decide +kernel
theorem dX8_join_95 : decode cX8_join 95 = .ok (.if_icmp .ne 22, 3) := by decide +kernel
theorem dX8_join_98 : decode cX8_join 98 = .ok (.aload_n 0, 1) := by decide +kernel
theorem dX8_join_99 : decode cX8_join 99 = .ok (.getfield 11, 3) := by decide +kernel
theorem dX8_join_102 : decode cX8_join 102 = .ok (.iload_n 3, 1) := by decide +kernel
theorem dX8_join_103 : decode cX8_join 103 = .ok (.aaload, 1) := by decide +kernel
theorem dX8_join_104 : decode cX8_join 104 = .ok (.aload_n 0, 1) := by decide +kernel
theorem dX8_join_105 : decode cX8_join 105 = .ok (.getfield 11, 3) := by decide +kernel
theorem dX8_join_108 : decode cX8_join 108 = .ok (.iload 4, 2) := by decide +kernel
theorem dX8_join_110 : decode cX8_join 110 = .ok (.aaload, 1) := by decide +kernel
theorem dX8_join_111 : decode cX8_join 111 = .ok (.invokevirtual 66, 3) := by decide +kernel
theorem dX8_join_114 : decode cX8_join 114 = .ok (.goto 19, 3) := by decide +kernel
theorem dX8_join_117 : decode cX8_join 117 = .ok (.aload_n 0, 1) := by decide +kernel
theorem dX8_join_118 : decode cX8_join 118 = .ok (.getfield 11, 3) := by decide +kernel
theorem dX8_join_121 : decode cX8_join 121 = .ok (.iload_n 3, 1) := by decide +kernel
theorem dX8_join_122 : decode cX8_join 122 = .ok (.aaload, 1) := by decide +kernel
theorem dX8_join_123 : decode cX8_join 123 = .ok (.aload_n 0, 1) := by decide +kernel
theorem dX8_join_124 : decode cX8_join 124 = .ok (.getfield 11, 3) := by decide +kernel
theorem dX8_join_127 : decode cX8_join 127 = .ok (.iload 4, 2) := by decide +kernel
theorem dX8_join_129 : decode cX8_join 129 = .ok (.aaload, 1) := by decide +kernel
theorem dX8_join_130 : decode cX8_join 130 = .ok (.invokevirtual 70, 3) := by decide +kernel
theorem dX8_join_133 : decode cX8_join 133 = .ok (.aload_n 0, 1) := by decide +kernel
theorem dX8_join_134 : decode cX8_join 134 = .ok (.dup, 1) := by decide +kernel
theorem dX8_join_135 : decode cX8_join 135 = .ok (.getfield 24, 3) := by decide +kernel
theorem dX8_join_138 : decode cX8_join 138 = .ok (.iconst 1, 1) := by decide +kernel
theorem dX8_join_139 : decode cX8_join 139 = .ok (.isub, 1) := by decide +kernel
theorem dX8_join_140 : decode cX8_join 140 = .ok (.putfield 24, 3) := by decide +kernel
theorem dX8_join_143 : decode cX8_join 143 = .ok (.return_, 1) := by decide +kernel
theorem dX8_ask_0 : decode cX8_ask 0 = .ok (.aload_n 0, 1) := by decide +kernel
theorem dX8_ask_1 : decode cX8_ask 1 = .ok (.getfield 24, 3) := by decide +kernel
theorem dX8_ask_4 : decode cX8_ask 4 = .ok (.bipush 15, 2) := by decide +kernel
theorem dX8_ask_6 : decode cX8_ask 6 = .ok (.if_icmp .lt 4, 3) := by decide +kernel
theorem dX8_ask_9 : decode cX8_ask 9 = .ok (.return_, 1) := by decide +kernel
theorem dX8_ask_10 : decode cX8_ask 10 = .ok (.aload_n 1, 1) := by decide +kernel
theorem dX8_ask_11 : decode cX8_ask 11 = .ok (.getfield 73, 3) := by decide +kernel
theorem dX8_ask_14 : decode cX8_ask 14 = .ok (.iload_n 2, 1) := by decide +kernel
theorem dX8_ask_15 : decode cX8_ask 15 = .ok (.baload, 1) := by decide +kernel
theorem dX8_ask_16 : decode cX8_ask 16 = .ok (.istore 4, 2) := by decide +kernel
theorem dX8_ask_18 : decode cX8_ask 18 = .ok (.aload_n 0, 1) := by decide +kernel
theorem dX8_ask_19 : decode cX8_ask 19 = .ok (.getfield 11, 3) := by decide +kernel
theorem dX8_ask_22 : decode cX8_ask 22 = .ok (.aload_n 0, 1) := by decide +kernel
theorem dX8_ask_23 : decode cX8_ask 23 = .ok (.getfield 24, 3) := by decide +kernel
theorem dX8_ask_26 : decode cX8_ask 26 = .ok (.aaload, 1) := by decide +kernel
theorem dX8_ask_27 : decode cX8_ask 27 = .ok (.astore 5, 2) := by decide +kernel
theorem dX8_ask_29 : decode cX8_ask 29 = .ok (.aload_n 0, 1) := by decide +kernel
theorem dX8_ask_30 : decode cX8_ask 30 = .ok (.getfield 17, 3) := by decide +kernel
theorem dX8_ask_33 : decode cX8_ask 33 = .ok (.aload_n 0, 1) := by decide +kernel
theorem dX8_ask_34 : decode cX8_ask 34 = .ok (.getfield 24, 3) := by decide +kernel
theorem dX8_ask_37 : decode cX8_ask 37 = .ok (.iconst 0, 1) := by decide +kernel
theorem dX8_ask_38 : decode cX8_ask 38 = .ok (.iastore, 1) := by decide +kernel
theorem dX8_ask_39 : decode cX8_ask 39 = .ok (.aload_n 0, 1) := by decide +kernel
theorem dX8_ask_40 : decode cX8_ask 40 = .ok (.getfield 21, 3) := by decide +kernel
theorem dX8_ask_43 : decode cX8_ask 43 = .ok (.aload_n 0, 1) := by decide +kernel
theorem dX8_ask_44 : decode cX8_ask 44 = .ok (.getfield 24, 3) := by decide +kernel
theorem dX8_ask_47 : decode cX8_ask 47 = .ok (.iconst 1, 1) := by decide +kernel
theorem dX8_ask_48 : decode cX8_ask 48 = .ok (.iastore, 1) := by decide +kernel
theorem dX8_ask_49 : decode cX8_ask 49 = .ok (.aload_n 0, 1) := by decide +kernel
theorem dX8_ask_50 : decode cX8_ask 50 = .ok (.dup, 1) := by decide +kernel
theorem dX8_ask_51 : decode cX8_ask 51 = .ok (.getfield 24, 3) := by decide +kernel
theorem dX8_ask_54 : decode cX8_ask 54 = .ok (.iconst 1, 1) := by decide +kernel
theorem dX8_ask_55 : decode cX8_ask 55 = .ok (.iadd, 1) := by decide +kernel
theorem dX8_ask_56 : decode cX8_ask 56 = .ok (.putfield 24, 3) := by decide +kernel
theorem dX8_ask_59 : decode cX8_ask 59 = .ok (.aload_n 1, 1) := by decide +kernel
theorem dX8_ask_60 : decode cX8_ask 60 = .ok (.getfield 34, 3) := by decide +kernel
theorem dX8_ask_63 : decode cX8_ask 63 = .ok (.iload_n 2, 1) := by decide +kernel
theorem dX8_ask_64 : decode cX8_ask 64 = .ok (.baload, 1) := by decide +kernel
theorem dX8_ask_65 : decode cX8_ask 65 = .ok (.ifCond .ne 13, 3) := by decide +kernel
theorem dX8_ask_68 : decode cX8_ask 68 = .ok (.aload 5, 2) := by decide +kernel
theorem dX8_ask_70 : decode cX8_ask 70 = .ok (.aload_n 3, 1) := by decide +kernel
theorem dX8_ask_71 : decode cX8_ask 71 = .ok (.getfield 50, 3) := by decide +kernel
theorem dX8_ask_74 : decode cX8_ask 74 = .ok (.invokevirtual 76, 3) := by decide +kernel
theorem dX8_ask_77 : decode cX8_ask 77 = .ok (.return_, 1) := by decide +kernel
theorem dX8_ask_78 : decode cX8_ask 78 = .ok (.aload 5, 2) := by decide +kernel
theorem dX8_ask_80 : decode cX8_ask 80 = .ok (.invokevirtual 79, 3) := by decide +kernel
theorem dX8_ask_83 : decode cX8_ask 83 = .ok (.aload_n 1, 1) := by decide +kernel
theorem dX8_ask_84 : decode cX8_ask 84 = .ok (.getfield 82, 3) := by decide +kernel
theorem dX8_ask_87 : decode cX8_ask 87 = .ok (.iload_n 2, 1) := by decide +kernel
theorem dX8_ask_88 : decode cX8_ask 88 = .ok (.baload, 1) := by decide +kernel
theorem dX8_ask_89 : decode cX8_ask 89 = .ok (.istore 6, 2) := by decide +kernel
theorem dX8_ask_91 : decode cX8_ask 91 = .ok (.iload 6, 2) := by decide +kernel
theorem dX8_ask_93 : decode cX8_ask 93 = .ok (.aload_n 1, 1) := by decide +kernel
theorem dX8_ask_94 : decode cX8_ask 94 = .ok (.getfield 85, 3) := by decide +kernel
theorem dX8_ask_97 : decode cX8_ask 97 = .ok (.iload_n 2, 1) := by decide +kernel
theorem dX8_ask_98 : decode cX8_ask 98 = .ok (.baload, 1) := by decide +kernel
theorem dX8_ask_99 : decode cX8_ask 99 = .ok (.if_icmp .gt 22, 3) := by decide +kernel
theorem dX8_ask_102 : decode cX8_ask 102 = .ok (.aload 5, 2) := by decide +kernel
theorem dX8_ask_104 : decode cX8_ask 104 = .ok (.aload_n 3, 1) := by decide +kernel
theorem dX8_ask_105 : decode cX8_ask 105 = .ok (.iload 4, 2) := by decide +kernel
theorem dX8_ask_107 : decode cX8_ask 107 = .ok (.iload 6, 2) := by decide +kernel
theorem dX8_ask_109 : decode cX8_ask 109 = .ok (.invokevirtual 88, 3) := by decide +kernel
theorem dX8_ask_112 : decode cX8_ask 112 = .ok (.invokevirtual 70, 3) := by decide +kernel
theorem dX8_ask_115 : decode cX8_ask 115 = .ok (.iinc 6 1, 3) := by decide +kernel
theorem dX8_ask_118 : decode cX8_ask 118 = .ok (.goto (-27), 3) := by decide +kernel
theorem dX8_ask_121 : decode cX8_ask 121 = .ok (.aload_n 0, 1) := by decide +kernel
theorem dX8_ask_122 : decode cX8_ask 122 = .ok (.getfield 17, 3) := by decide +kernel
theorem dX8_ask_125 : decode cX8_ask 125 = .ok (.aload_n 0, 1) := by decide +kernel
theorem dX8_ask_126 : decode cX8_ask 126 = .ok (.getfield 24, 3) := by decide +kernel
theorem dX8_ask_129 : decode cX8_ask 129 = .ok (.iconst 1, 1) := by decide +kernel
theorem dX8_ask_130 : decode cX8_ask 130 = .ok (.isub, 1) := by decide +kernel
theorem dX8_ask_131 : decode cX8_ask 131 = .ok (.aload_n 1, 1) := by decide +kernel
theorem dX8_ask_132 : decode cX8_ask 132 = .ok (.getfield 34, 3) := by decide +kernel
theorem dX8_ask_135 : decode cX8_ask 135 = .ok (.iload_n 2, 1) := by decide +kernel
theorem dX8_ask_136 : decode cX8_ask 136 = .ok (.baload, 1) := by decide +kernel
theorem dX8_ask_137 : decode cX8_ask 137 = .ok (.iconst 1, 1) := by decide +kernel
theorem dX8_ask_138 : decode cX8_ask 138 = .ok (.if_icmp .ne 15, 3) := by decide +kernel
theorem dX8_ask_141 : decode cX8_ask 141 = .ok (.aload 5, 2) := by decide +kernel
theorem dX8_ask_143 : decode cX8_ask 143 = .ok (.aload_n 3, 1) := by decide +kernel
theorem dX8_ask_144 : decode cX8_ask 144 = .ok (.getfield 50, 3) := by decide +kernel
theorem dX8_ask_147 : decode cX8_ask 147 = .ok (.invokevirtual 56, 3) := by decide +kernel
theorem dX8_ask_150 : decode cX8_ask 150 = .ok (.goto 9, 3) := by decide +kernel
theorem dX8_ask_153 : decode cX8_ask 153 = .ok (.aload_n 3, 1) := by decide +kernel
theorem dX8_ask_154 : decode cX8_ask 154 = .ok (.iload 4, 2) := by decide +kernel
theorem dX8_ask_156 : decode cX8_ask 156 = .ok (.invokevirtual 92, 3) := by decide +kernel
theorem dX8_ask_159 : decode cX8_ask 159 = .ok (.iastore, 1) := by decide +kernel
theorem dX8_ask_160 : decode cX8_ask 160 = .ok (.return_, 1) := by decide +kernel
theorem dJ13_bitCount_95d88_0 : decode cJ13_bitCount_95d88 0 = .ok (.lload_n 0, 1) := by decide +kernel
theorem dJ13_bitCount_95d88_1 : decode cJ13_bitCount_95d88 1 = .ok (.lload_n 0, 1) := by decide +kernel
theorem dJ13_bitCount_95d88_2 : decode cJ13_bitCount_95d88 2 = .ok (.iconst 1, 1) := by decide +kernel
theorem dJ13_bitCount_95d88_3 : decode cJ13_bitCount_95d88 3 = .ok (.lushr, 1) := by decide +kernel
theorem dJ13_bitCount_95d88_4 : decode cJ13_bitCount_95d88 4 = .ok (.ldc2_w 314, 3) := by decide +kernel
theorem dJ13_bitCount_95d88_7 : decode cJ13_bitCount_95d88 7 = .ok (.land, 1) := by decide +kernel
theorem dJ13_bitCount_95d88_8 : decode cJ13_bitCount_95d88 8 = .ok (.lsub, 1) := by decide +kernel
theorem dJ13_bitCount_95d88_9 : decode cJ13_bitCount_95d88 9 = .ok (.lstore_n 0, 1) := by decide +kernel
theorem dJ13_bitCount_95d88_10 : decode cJ13_bitCount_95d88 10 = .ok (.lload_n 0, 1) := by decide +kernel
theorem dJ13_bitCount_95d88_11 : decode cJ13_bitCount_95d88 11 = .ok (.ldc2_w 316, 3) := by decide +kernel
theorem dJ13_bitCount_95d88_14 : decode cJ13_bitCount_95d88 14 = .ok (.land, 1) := by decide +kernel
theorem dJ13_bitCount_95d88_15 : decode cJ13_bitCount_95d88 15 = .ok (.lload_n 0, 1) := by decide +kernel
theorem dJ13_bitCount_95d88_16 : decode cJ13_bitCount_95d88 16 = .ok (.iconst 2, 1) := by decide +kernel
theorem dJ13_bitCount_95d88_17 : decode cJ13_bitCount_95d88 17 = .ok (.lushr, 1) := by decide +kernel
theorem dJ13_bitCount_95d88_18 : decode cJ13_bitCount_95d88 18 = .ok (.ldc2_w 316, 3) := by decide +kernel
theorem dJ13_bitCount_95d88_21 : decode cJ13_bitCount_95d88 21 = .ok (.land, 1) := by decide +kernel
theorem dJ13_bitCount_95d88_22 : decode cJ13_bitCount_95d88 22 = .ok (.ladd, 1) := by decide +kernel
theorem dJ13_bitCount_95d88_23 : decode cJ13_bitCount_95d88 23 = .ok (.lstore_n 0, 1) := by decide +kernel
theorem dJ13_bitCount_95d88_24 : decode cJ13_bitCount_95d88 24 = .ok (.lload_n 0, 1) := by decide +kernel
theorem dJ13_bitCount_95d88_25 : decode cJ13_bitCount_95d88 25 = .ok (.lload_n 0, 1) := by decide +kernel
theorem dJ13_bitCount_95d88_26 : decode cJ13_bitCount_95d88 26 = .ok (.iconst 4, 1) := by decide +kernel
theorem dJ13_bitCount_95d88_27 : decode cJ13_bitCount_95d88 27 = .ok (.lushr, 1) := by decide +kernel
theorem dJ13_bitCount_95d88_28 : decode cJ13_bitCount_95d88 28 = .ok (.ladd, 1) := by decide +kernel
theorem dJ13_bitCount_95d88_29 : decode cJ13_bitCount_95d88 29 = .ok (.ldc2_w 318, 3) := by decide +kernel
theorem dJ13_bitCount_95d88_32 : decode cJ13_bitCount_95d88 32 = .ok (.land, 1) := by decide +kernel
theorem dJ13_bitCount_95d88_33 : decode cJ13_bitCount_95d88 33 = .ok (.lstore_n 0, 1) := by decide +kernel
theorem dJ13_bitCount_95d88_34 : decode cJ13_bitCount_95d88 34 = .ok (.lload_n 0, 1) := by decide +kernel
theorem dJ13_bitCount_95d88_35 : decode cJ13_bitCount_95d88 35 = .ok (.lload_n 0, 1) := by decide +kernel
theorem dJ13_bitCount_95d88_36 : decode cJ13_bitCount_95d88 36 = .ok (.bipush 8, 2) := by decide +kernel
theorem dJ13_bitCount_95d88_38 : decode cJ13_bitCount_95d88 38 = .ok (.lushr, 1) := by decide +kernel
theorem dJ13_bitCount_95d88_39 : decode cJ13_bitCount_95d88 39 = .ok (.ladd, 1) := by decide +kernel
theorem dJ13_bitCount_95d88_40 : decode cJ13_bitCount_95d88 40 = .ok (.lstore_n 0, 1) := by decide +kernel
theorem dJ13_bitCount_95d88_41 : decode cJ13_bitCount_95d88 41 = .ok (.lload_n 0, 1) := by decide +kernel
theorem dJ13_bitCount_95d88_42 : decode cJ13_bitCount_95d88 42 = .ok (.lload_n 0, 1) := by decide +kernel
theorem dJ13_bitCount_95d88_43 : decode cJ13_bitCount_95d88 43 = .ok (.bipush 16, 2) := by decide +kernel
theorem dJ13_bitCount_95d88_45 : decode cJ13_bitCount_95d88 45 = .ok (.lushr, 1) := by decide +kernel
theorem dJ13_bitCount_95d88_46 : decode cJ13_bitCount_95d88 46 = .ok (.ladd, 1) := by decide +kernel
theorem dJ13_bitCount_95d88_47 : decode cJ13_bitCount_95d88 47 = .ok (.lstore_n 0, 1) := by decide +kernel
theorem dJ13_bitCount_95d88_48 : decode cJ13_bitCount_95d88 48 = .ok (.lload_n 0, 1) := by decide +kernel
theorem dJ13_bitCount_95d88_49 : decode cJ13_bitCount_95d88 49 = .ok (.lload_n 0, 1) := by decide +kernel
theorem dJ13_bitCount_95d88_50 : decode cJ13_bitCount_95d88 50 = .ok (.bipush 32, 2) := by decide +kernel
theorem dJ13_bitCount_95d88_52 : decode cJ13_bitCount_95d88 52 = .ok (.lushr, 1) := by decide +kernel
theorem dJ13_bitCount_95d88_53 : decode cJ13_bitCount_95d88 53 = .ok (.ladd, 1) := by decide +kernel
theorem dJ13_bitCount_95d88_54 : decode cJ13_bitCount_95d88 54 = .ok (.lstore_n 0, 1) := by decide +kernel
theorem dJ13_bitCount_95d88_55 : decode cJ13_bitCount_95d88 55 = .ok (.lload_n 0, 1) := by decide +kernel
theorem dJ13_bitCount_95d88_56 : decode cJ13_bitCount_95d88 56 = .ok (.l2i, 1) := by decide +kernel
theorem dJ13_bitCount_95d88_57 : decode cJ13_bitCount_95d88 57 = .ok (.bipush 127, 2) := by decide +kernel
theorem dJ13_bitCount_95d88_59 : decode cJ13_bitCount_95d88 59 = .ok (.iand, 1) := by decide +kernel
theorem dJ13_bitCount_95d88_60 : decode cJ13_bitCount_95d88 60 = .ok (.ireturn, 1) := by decide +kernel
theorem dJ9_max_7cf53_0 : decode cJ9_max_7cf53 0 = .ok (.iload_n 0, 1) := by decide +kernel
theorem dJ9_max_7cf53_1 : decode cJ9_max_7cf53 1 = .ok (.iload_n 1, 1) := by decide +kernel
theorem dJ9_max_7cf53_2 : decode cJ9_max_7cf53 2 = .ok (.if_icmp .lt 7, 3) := by decide +kernel
theorem dJ9_max_7cf53_5 : decode cJ9_max_7cf53 5 = .ok (.iload_n 0, 1) := by decide +kernel
theorem dJ9_max_7cf53_6 : decode cJ9_max_7cf53 6 = .ok (.goto 4, 3) := by decide +kernel
theorem dJ9_max_7cf53_9 : decode cJ9_max_7cf53 9 = .ok (.iload_n 1, 1) := by decide +kernel
theorem dJ9_max_7cf53_10 : decode cJ9_max_7cf53 10 = .ok (.ireturn, 1) := by decide +kernel
theorem dJ0_length_8abf5_0 : decode cJ0_length_8abf5 0 = .ok (.aload_n 0, 1) := by decide +kernel
theorem dJ0_length_8abf5_1 : decode cJ0_length_8abf5 1 = .ok (.getfield 9, 3) := by decide +kernel
theorem dJ0_length_8abf5_4 : decode cJ0_length_8abf5 4 = .ok (.arraylength, 1) := by decide +kernel
theorem dJ0_length_8abf5_5 : decode cJ0_length_8abf5 5 = .ok (.aload_n 0, 1) := by decide +kernel
theorem dJ0_length_8abf5_6 : decode cJ0_length_8abf5 6 = .ok (.invokevirtual 335, 3) := by decide +kernel
theorem dJ0_length_8abf5_9 : decode cJ0_length_8abf5 9 = .ok (.ishr, 1) := by decide +kernel
theorem dJ0_length_8abf5_10 : decode cJ0_length_8abf5 10 = .ok (.ireturn, 1) := by decide +kernel
theorem dJ0_charAt_5068e_0 : decode cJ0_charAt_5068e 0 = .ok (.aload_n 0, 1) := by decide +kernel
theorem dJ0_charAt_5068e_1 : decode cJ0_charAt_5068e 1 = .ok (.invokevirtual 492, 3) := by decide +kernel
theorem dJ0_charAt_5068e_4 : decode cJ0_charAt_5068e 4 = .ok (.ifCond .eq 12, 3) := by decide +kernel
theorem dJ0_charAt_5068e_7 : decode cJ0_charAt_5068e 7 = .ok (.aload_n 0, 1) := by decide +kernel
theorem dJ0_charAt_5068e_8 : decode cJ0_charAt_5068e 8 = .ok (.getfield 9, 3) := by decide +kernel
theorem dJ0_charAt_5068e_11 : decode cJ0_charAt_5068e 11 = .ok (.iload_n 1, 1) := by decide +kernel
theorem dJ0_charAt_5068e_12 : decode cJ0_charAt_5068e 12 = .ok (.invokestatic 495, 3) := by decide +kernel
theorem dJ0_charAt_5068e_15 : decode cJ0_charAt_5068e 15 = .ok (.ireturn, 1) := by decide +kernel
theorem dJ0_charAt_5068e_16 : decode cJ0_charAt_5068e 16 = .ok (.aload_n 0, 1) := by decide +kernel
theorem dJ0_charAt_5068e_17 : decode cJ0_charAt_5068e 17 = .ok (.getfield 9, 3) := by decide +kernel
theorem dJ0_charAt_5068e_20 : decode cJ0_charAt_5068e 20 = .ok (.iload_n 1, 1) := by decide +kernel
theorem dJ0_charAt_5068e_21 : decode cJ0_charAt_5068e 21 = .ok (.invokestatic 498, 3) := by decide +kernel
theorem dJ0_charAt_5068e_24 : decode cJ0_charAt_5068e 24 = .ok (.ireturn, 1) := by decide +kernel
theorem dJ0_coder_7d493_0 : decode cJ0_coder_7d493 0 = .ok (.getstatic 38, 3) := by decide +kernel
theorem dJ0_coder_7d493_3 : decode cJ0_coder_7d493 3 = .ok (.ifCond .eq 10, 3) := by decide +kernel
theorem dJ0_coder_7d493_6 : decode cJ0_coder_7d493 6 = .ok (.aload_n 0, 1) := by decide +kernel
theorem dJ0_coder_7d493_7 : decode cJ0_coder_7d493 7 = .ok (.getfield 15, 3) := by decide +kernel
theorem dJ0_coder_7d493_10 : decode cJ0_coder_7d493 10 = .ok (.goto 4, 3) := by decide +kernel
theorem dJ0_coder_7d493_13 : decode cJ0_coder_7d493 13 = .ok (.iconst 1, 1) := by decide +kernel
theorem dJ0_coder_7d493_14 : decode cJ0_coder_7d493 14 = .ok (.ireturn, 1) := by decide +kernel
theorem dJ0_isLatin1_aae02_0 : decode cJ0_isLatin1_aae02 0 = .ok (.getstatic 38, 3) := by decide +kernel
theorem dJ0_isLatin1_aae02_3 : decode cJ0_isLatin1_aae02 3 = .ok (.ifCond .eq 14, 3) := by decide +kernel
theorem dJ0_isLatin1_aae02_6 : decode cJ0_isLatin1_aae02 6 = .ok (.aload_n 0, 1) := by decide +kernel
theorem dJ0_isLatin1_aae02_7 : decode cJ0_isLatin1_aae02 7 = .ok (.getfield 15, 3) := by decide +kernel
theorem dJ0_isLatin1_aae02_10 : decode cJ0_isLatin1_aae02 10 = .ok (.ifCond .ne 7, 3) := by decide +kernel
theorem dJ0_isLatin1_aae02_13 : decode cJ0_isLatin1_aae02 13 = .ok (.iconst 1, 1) := by decide +kernel
theorem dJ0_isLatin1_aae02_14 : decode cJ0_isLatin1_aae02 14 = .ok (.goto 4, 3) := by decide +kernel
theorem dJ0_isLatin1_aae02_17 : decode cJ0_isLatin1_aae02 17 = .ok (.iconst 0, 1) := by decide +kernel
theorem dJ0_isLatin1_aae02_18 : decode cJ0_isLatin1_aae02 18 = .ok (.ireturn, 1) := by decide +kernel
theorem dJ0_checkIndex_df160_0 : decode cJ0_checkIndex_df160 0 = .ok (.iload_n 0, 1) := by decide +kernel
theorem dJ0_checkIndex_df160_1 : decode cJ0_checkIndex_df160 1 = .ok (.iload_n 1, 1) := by decide +kernel
theorem dJ0_checkIndex_df160_2 : decode cJ0_checkIndex_df160 2 = .ok (.getstatic 1053, 3) := by decide +kernel
theorem dJ0_checkIndex_df160_5 : decode cJ0_checkIndex_df160 5 = .ok (.invokestatic 1059, 3) := by decide +kernel
theorem dJ0_checkIndex_df160_8 : decode cJ0_checkIndex_df160 8 = .ok (.pop, 1) := by decide +kernel
theorem dJ0_checkIndex_df160_9 : decode cJ0_checkIndex_df160 9 = .ok (.return_, 1) := by decide +kernel
theorem dJ1_charAt_3b067_0 : decode cJ1_charAt_3b067 0 = .ok (.iload_n 1, 1) := by decide +kernel
theorem dJ1_charAt_3b067_1 : decode cJ1_charAt_3b067 1 = .ok (.aload_n 0, 1) := by decide +kernel
theorem dJ1_charAt_3b067_2 : decode cJ1_charAt_3b067 2 = .ok (.arraylength, 1) := by decide +kernel
theorem dJ1_charAt_3b067_3 : decode cJ1_charAt_3b067 3 = .ok (.invokestatic 9, 3) := by decide +kernel
theorem dJ1_charAt_3b067_6 : decode cJ1_charAt_3b067 6 = .ok (.aload_n 0, 1) := by decide +kernel
theorem dJ1_charAt_3b067_7 : decode cJ1_charAt_3b067 7 = .ok (.iload_n 1, 1) := by decide +kernel
theorem dJ1_charAt_3b067_8 : decode cJ1_charAt_3b067 8 = .ok (.baload, 1) := by decide +kernel
theorem dJ1_charAt_3b067_9 : decode cJ1_charAt_3b067 9 = .ok (.sipush 255, 3) := by decide +kernel
theorem dJ1_charAt_3b067_12 : decode cJ1_charAt_3b067 12 = .ok (.iand, 1) := by decide +kernel
theorem dJ1_charAt_3b067_13 : decode cJ1_charAt_3b067 13 = .ok (.i2c, 1) := by decide +kernel
theorem dJ1_charAt_3b067_14 : decode cJ1_charAt_3b067 14 = .ok (.ireturn, 1) := by decide +kernel
theorem dJ7_fill_d0a16_0 : decode cJ7_fill_d0a16 0 = .ok (.iconst 0, 1) := by decide +kernel
theorem dJ7_fill_d0a16_1 : decode cJ7_fill_d0a16 1 = .ok (.istore_n 3, 1) := by decide +kernel
theorem dJ7_fill_d0a16_2 : decode cJ7_fill_d0a16 2 = .ok (.aload_n 0, 1) := by decide +kernel
theorem dJ7_fill_d0a16_3 : decode cJ7_fill_d0a16 3 = .ok (.arraylength, 1) := by decide +kernel
theorem dJ7_fill_d0a16_4 : decode cJ7_fill_d0a16 4 = .ok (.istore 4, 2) := by decide +kernel
theorem dJ7_fill_d0a16_6 : decode cJ7_fill_d0a16 6 = .ok (.iload_n 3, 1) := by decide +kernel
theorem dJ7_fill_d0a16_7 : decode cJ7_fill_d0a16 7 = .ok (.iload 4, 2) := by decide +kernel
theorem dJ7_fill_d0a16_9 : decode cJ7_fill_d0a16 9 = .ok (.if_icmp .ge 13, 3) := by decide +kernel
theorem dJ7_fill_d0a16_12 : decode cJ7_fill_d0a16 12 = .ok (.aload_n 0, 1) := by decide +kernel
theorem dJ7_fill_d0a16_13 : decode cJ7_fill_d0a16 13 = .ok (.iload_n 3, 1) := by decide +kernel
theorem dJ7_fill_d0a16_14 : decode cJ7_fill_d0a16 14 = .ok (.lload_n 1, 1) := by decide +kernel
theorem dJ7_fill_d0a16_15 : decode cJ7_fill_d0a16 15 = .ok (.lastore, 1) := by decide +kernel
theorem dJ7_fill_d0a16_16 : decode cJ7_fill_d0a16 16 = .ok (.iinc 3 1, 3) := by decide +kernel
theorem dJ7_fill_d0a16_19 : decode cJ7_fill_d0a16 19 = .ok (.goto (-13), 3) := by decide +kernel
theorem dJ7_fill_d0a16_22 : decode cJ7_fill_d0a16 22 = .ok (.return_, 1) := by decide +kernel
theorem dJ3_checkIndex_8e157_0 : decode cJ3_checkIndex_8e157 0 = .ok (.iload_n 0, 1) := by decide +kernel
theorem dJ3_checkIndex_8e157_1 : decode cJ3_checkIndex_8e157 1 = .ok (.ifCond .lt 8, 3) := by decide +kernel
theorem dJ3_checkIndex_8e157_4 : decode cJ3_checkIndex_8e157 4 = .ok (.iload_n 0, 1) := by decide +kernel
theorem dJ3_checkIndex_8e157_5 : decode cJ3_checkIndex_8e157 5 = .ok (.iload_n 1, 1) := by decide +kernel
theorem dJ3_checkIndex_8e157_6 : decode cJ3_checkIndex_8e157 6 = .ok (.if_icmp .lt 10, 3) := by decide +kernel
theorem dJ3_checkIndex_8e157_9 : decode cJ3_checkIndex_8e157 9 = .ok (.aload_n 2, 1) := by decide +kernel
theorem dJ3_checkIndex_8e157_10 : decode cJ3_checkIndex_8e157 10 = .ok (.iload_n 0, 1) := by decide +kernel
theorem dJ3_checkIndex_8e157_11 : decode cJ3_checkIndex_8e157 11 = .ok (.iload_n 1, 1) := by decide +kernel
theorem dJ3_checkIndex_8e157_12 : decode cJ3_checkIndex_8e157 12 = .ok (.invokestatic 95, 3) := by decide +kernel
theorem dJ3_checkIndex_8e157_15 : decode cJ3_checkIndex_8e157 15 = .ok (.athrow, 1) := by decide +kernel
theorem dJ3_checkIndex_8e157_16 : decode cJ3_checkIndex_8e157 16 = .ok (.iload_n 0, 1) := by decide +kernel
theorem dJ3_checkIndex_8e157_17 : decode cJ3_checkIndex_8e157 17 = .ok (.ireturn, 1) := by decide +kernel
