theorem dX0_init_0 : decode cX0_init 0 = .ok (.aload_n 0, 1) := by decide +kernel
theorem dX0_init_1 : decode cX0_init 1 = .ok (.invokespecial 3, 3) := by decide +kernel
theorem dX0_init_4 : decode cX0_init 4 = .ok (.aload_n 0, 1) := by decide +kernel
theorem dX0_init_5 : decode cX0_init 5 = .ok (.iconst 4, 1) := by decide +kernel
theorem dX0_init_6 : decode cX0_init 6 = .ok (.newarray .int, 2) := by decide +kernel
theorem dX0_init_8 : decode cX0_init 8 = .ok (.putfield 9, 3) := by decide +kernel
theorem dX0_init_11 : decode cX0_init 11 = .ok (.aload_n 0, 1) := by decide +kernel
theorem dX0_init_12 : decode cX0_init 12 = .ok (.iconst 4, 1) := by decide +kernel
theorem dX0_init_13 : decode cX0_init 13 = .ok (.newarray .int, 2) := by decide +kernel
theorem dX0_init_15 : decode cX0_init 15 = .ok (.putfield 15, 3) := by decide +kernel
theorem dX0_init_18 : decode cX0_init 18 = .ok (.aload_n 0, 1) := by decide +kernel
theorem dX0_init_19 : decode cX0_init 19 = .ok (.bipush 12, 2) := by decide +kernel
theorem dX0_init_21 : decode cX0_init 21 = .ok (.newarray .int, 2) := by decide +kernel
theorem dX0_init_23 : decode cX0_init 23 = .ok (.putfield 18, 3) := by decide +kernel
theorem dX0_init_26 : decode cX0_init 26 = .ok (.aload_n 0, 1) := by decide +kernel
theorem dX0_init_27 : decode cX0_init 27 = .ok (.bipush 12, 2) := by decide +kernel
theorem dX0_init_29 : decode cX0_init 29 = .ok (.newarray .int, 2) := by decide +kernel
theorem dX0_init_31 : decode cX0_init 31 = .ok (.putfield 21, 3) := by decide +kernel
theorem dX0_init_34 : decode cX0_init 34 = .ok (.aload_n 0, 1) := by decide +kernel
theorem dX0_init_35 : decode cX0_init 35 = .ok (.bipush 12, 2) := by decide +kernel
theorem dX0_init_37 : decode cX0_init 37 = .ok (.newarray .int, 2) := by decide +kernel
theorem dX0_init_39 : decode cX0_init 39 = .ok (.putfield 24, 3) := by decide +kernel
theorem dX0_init_42 : decode cX0_init 42 = .ok (.aload_n 0, 1) := by decide +kernel
theorem dX0_init_43 : decode cX0_init 43 = .ok (.bipush 12, 2) := by decide +kernel
theorem dX0_init_45 : decode cX0_init 45 = .ok (.newarray .int, 2) := by decide +kernel
theorem dX0_init_47 : decode cX0_init 47 = .ok (.putfield 27, 3) := by decide +kernel
theorem dX0_init_50 : decode cX0_init 50 = .ok (.aload_n 0, 1) := by decide +kernel
theorem dX0_init_51 : decode cX0_init 51 = .ok (.bipush 12, 2) := by decide +kernel
theorem dX0_init_53 : decode cX0_init 53 = .ok (.newarray .int, 2) := by decide +kernel
theorem dX0_init_55 : decode cX0_init 55 = .ok (.putfield 30, 3) := by decide +kernel
theorem dX0_init_58 : decode cX0_init 58 = .ok (.return_, 1) := by decide +kernel
theorem dX0_begin_0 : decode cX0_begin 0 = .ok (.aload_n 1, 1) := by decide +kernel
theorem dX0_begin_1 : decode cX0_begin 1 = .ok (.getfield 33, 3) := by decide +kernel
theorem dX0_begin_4 : decode cX0_begin 4 = .ok (.aload_n 0, 1) := by decide +kernel
theorem dX0_begin_5 : decode cX0_begin 5 = .ok (.getfield 9, 3) := by decide +kernel
theorem dX0_begin_8 : decode cX0_begin 8 = .ok (.invokestatic 36, 3) := by decide +kernel
theorem dX0_begin_11 : decode cX0_begin 11 = .ok (.aload_n 1, 1) := by decide +kernel
theorem dX0_begin_12 : decode cX0_begin 12 = .ok (.getfield 40, 3) := by decide +kernel
theorem dX0_begin_15 : decode cX0_begin 15 = .ok (.aload_n 0, 1) := by decide +kernel
theorem dX0_begin_16 : decode cX0_begin 16 = .ok (.getfield 15, 3) := by decide +kernel
theorem dX0_begin_19 : decode cX0_begin 19 = .ok (.invokestatic 36, 3) := by decide +kernel
theorem dX0_begin_22 : decode cX0_begin 22 = .ok (.aload_n 0, 1) := by decide +kernel
theorem dX0_begin_23 : decode cX0_begin 23 = .ok (.iconst 0, 1) := by decide +kernel
theorem dX0_begin_24 : decode cX0_begin 24 = .ok (.putfield 41, 3) := by decide +kernel
theorem dX0_begin_27 : decode cX0_begin 27 = .ok (.aload_n 0, 1) := by decide +kernel
theorem dX0_begin_28 : decode cX0_begin 28 = .ok (.iconst 0, 1) := by decide +kernel
theorem dX0_begin_29 : decode cX0_begin 29 = .ok (.putfield 45, 3) := by decide +kernel
theorem dX0_begin_32 : decode cX0_begin 32 = .ok (.aload_n 0, 1) := by decide +kernel
theorem dX0_begin_33 : decode cX0_begin 33 = .ok (.iconst 0, 1) := by decide +kernel
theorem dX0_begin_34 : decode cX0_begin 34 = .ok (.putfield 48, 3) := by decide +kernel
theorem dX0_begin_37 : decode cX0_begin 37 = .ok (.aload_n 0, 1) := by decide +kernel
theorem dX0_begin_38 : decode cX0_begin 38 = .ok (.iconst 0, 1) := by decide +kernel
theorem dX0_begin_39 : decode cX0_begin 39 = .ok (.putfield 51, 3) := by decide +kernel
theorem dX0_begin_42 : decode cX0_begin 42 = .ok (.return_, 1) := by decide +kernel
theorem dX0_copy_0 : decode cX0_copy 0 = .ok (.aload_n 1, 1) := by decide +kernel
theorem dX0_copy_1 : decode cX0_copy 1 = .ok (.getfield 9, 3) := by decide +kernel
theorem dX0_copy_4 : decode cX0_copy 4 = .ok (.aload_n 0, 1) := by decide +kernel
theorem dX0_copy_5 : decode cX0_copy 5 = .ok (.getfield 9, 3) := by decide +kernel
theorem dX0_copy_8 : decode cX0_copy 8 = .ok (.invokestatic 36, 3) := by decide +kernel
theorem dX0_copy_11 : decode cX0_copy 11 = .ok (.aload_n 1, 1) := by decide +kernel
theorem dX0_copy_12 : decode cX0_copy 12 = .ok (.getfield 15, 3) := by decide +kernel
theorem dX0_copy_15 : decode cX0_copy 15 = .ok (.aload_n 0, 1) := by decide +kernel
theorem dX0_copy_16 : decode cX0_copy 16 = .ok (.getfield 15, 3) := by decide +kernel
theorem dX0_copy_19 : decode cX0_copy 19 = .ok (.invokestatic 36, 3) := by decide +kernel
theorem dX0_copy_22 : decode cX0_copy 22 = .ok (.aload_n 1, 1) := by decide +kernel
theorem dX0_copy_23 : decode cX0_copy 23 = .ok (.getfield 18, 3) := by decide +kernel
theorem dX0_copy_26 : decode cX0_copy 26 = .ok (.aload_n 0, 1) := by decide +kernel
theorem dX0_copy_27 : decode cX0_copy 27 = .ok (.getfield 18, 3) := by decide +kernel
theorem dX0_copy_30 : decode cX0_copy 30 = .ok (.invokestatic 36, 3) := by decide +kernel
theorem dX0_copy_33 : decode cX0_copy 33 = .ok (.aload_n 1, 1) := by decide +kernel
theorem dX0_copy_34 : decode cX0_copy 34 = .ok (.getfield 21, 3) := by decide +kernel
theorem dX0_copy_37 : decode cX0_copy 37 = .ok (.aload_n 0, 1) := by decide +kernel
theorem dX0_copy_38 : decode cX0_copy 38 = .ok (.getfield 21, 3) := by decide +kernel
theorem dX0_copy_41 : decode cX0_copy 41 = .ok (.invokestatic 36, 3) := by decide +kernel
theorem dX0_copy_44 : decode cX0_copy 44 = .ok (.aload_n 1, 1) := by decide +kernel
theorem dX0_copy_45 : decode cX0_copy 45 = .ok (.getfield 24, 3) := by decide +kernel
theorem dX0_copy_48 : decode cX0_copy 48 = .ok (.aload_n 0, 1) := by decide +kernel
theorem dX0_copy_49 : decode cX0_copy 49 = .ok (.getfield 24, 3) := by decide +kernel
theorem dX0_copy_52 : decode cX0_copy 52 = .ok (.invokestatic 36, 3) := by decide +kernel
theorem dX0_copy_55 : decode cX0_copy 55 = .ok (.aload_n 1, 1) := by decide +kernel
theorem dX0_copy_56 : decode cX0_copy 56 = .ok (.getfield 27, 3) := by decide +kernel
theorem dX0_copy_59 : decode cX0_copy 59 = .ok (.aload_n 0, 1) := by decide +kernel
theorem dX0_copy_60 : decode cX0_copy 60 = .ok (.getfield 27, 3) := by decide +kernel
theorem dX0_copy_63 : decode cX0_copy 63 = .ok (.invokestatic 36, 3) := by decide +kernel
theorem dX0_copy_66 : decode cX0_copy 66 = .ok (.aload_n 1, 1) := by decide +kernel
theorem dX0_copy_67 : decode cX0_copy 67 = .ok (.getfield 30, 3) := by decide +kernel
theorem dX0_copy_70 : decode cX0_copy 70 = .ok (.aload_n 0, 1) := by decide +kernel
theorem dX0_copy_71 : decode cX0_copy 71 = .ok (.getfield 30, 3) := by decide +kernel
theorem dX0_copy_74 : decode cX0_copy 74 = .ok (.invokestatic 36, 3) := by decide +kernel
theorem dX0_copy_77 : decode cX0_copy 77 = .ok (.aload_n 0, 1) := by decide +kernel
theorem dX0_copy_78 : decode cX0_copy 78 = .ok (.aload_n 1, 1) := by decide +kernel
theorem dX0_copy_79 : decode cX0_copy 79 = .ok (.getfield 41, 3) := by decide +kernel
theorem dX0_copy_82 : decode cX0_copy 82 = .ok (.putfield 41, 3) := by decide +kernel
theorem dX0_copy_85 : decode cX0_copy 85 = .ok (.aload_n 0, 1) := by decide +kernel
theorem dX0_copy_86 : decode cX0_copy 86 = .ok (.aload_n 1, 1) := by decide +kernel
theorem dX0_copy_87 : decode cX0_copy 87 = .ok (.getfield 45, 3) := by decide +kernel
theorem dX0_copy_90 : decode cX0_copy 90 = .ok (.putfield 45, 3) := by decide +kernel
theorem dX0_copy_93 : decode cX0_copy 93 = .ok (.aload_n 0, 1) := by decide +kernel
theorem dX0_copy_94 : decode cX0_copy 94 = .ok (.aload_n 1, 1) := by decide +kernel
theorem dX0_copy_95 : decode cX0_copy 95 = .ok (.getfield 48, 3) := by decide +kernel
theorem dX0_copy_98 : decode cX0_copy 98 = .ok (.putfield 48, 3) := by decide +kernel
theorem dX0_copy_101 : decode cX0_copy 101 = .ok (.aload_n 0, 1) := by decide +kernel
theorem dX0_copy_102 : decode cX0_copy 102 = .ok (.aload_n 1, 1) := by decide +kernel
theorem dX0_copy_103 : decode cX0_copy 103 = .ok (.getfield 51, 3) := by decide +kernel
theorem dX0_copy_106 : decode cX0_copy 106 = .ok (.putfield 51, 3) := by decide +kernel
theorem dX0_copy_109 : decode cX0_copy 109 = .ok (.return_, 1) := by decide +kernel
theorem dX0_toothBehind_0 : decode cX0_toothBehind 0 = .ok (.aload_n 1, 1) := by decide +kernel
theorem dX0_toothBehind_1 : decode cX0_toothBehind 1 = .ok (.getfield 54, 3) := by decide +kernel
theorem dX0_toothBehind_4 : decode cX0_toothBehind 4 = .ok (.iload_n 2, 1) := by decide +kernel
theorem dX0_toothBehind_5 : decode cX0_toothBehind 5 = .ok (.invokestatic 57, 3) := by decide +kernel
theorem dX0_toothBehind_8 : decode cX0_toothBehind 8 = .ok (.istore 4, 2) := by decide +kernel
theorem dX0_toothBehind_10 : decode cX0_toothBehind 10 = .ok (.iload 4, 2) := by decide +kernel
theorem dX0_toothBehind_12 : decode cX0_toothBehind 12 = .ok (.ifCond .le 28, 3) := by decide +kernel
theorem dX0_toothBehind_15 : decode cX0_toothBehind 15 = .ok (.aload_n 0, 1) := by decide +kernel
theorem dX0_toothBehind_16 : decode cX0_toothBehind 16 = .ok (.getfield 9, 3) := by decide +kernel
theorem dX0_toothBehind_19 : decode cX0_toothBehind 19 = .ok (.iload_n 2, 1) := by decide +kernel
theorem dX0_toothBehind_20 : decode cX0_toothBehind 20 = .ok (.invokestatic 57, 3) := by decide +kernel
theorem dX0_toothBehind_23 : decode cX0_toothBehind 23 = .ok (.aload_n 0, 1) := by decide +kernel
theorem dX0_toothBehind_24 : decode cX0_toothBehind 24 = .ok (.getfield 15, 3) := by decide +kernel
theorem dX0_toothBehind_27 : decode cX0_toothBehind 27 = .ok (.iload_n 2, 1) := by decide +kernel
theorem dX0_toothBehind_28 : decode cX0_toothBehind 28 = .ok (.invokestatic 57, 3) := by decide +kernel
theorem dX0_toothBehind_31 : decode cX0_toothBehind 31 = .ok (.iload_n 3, 1) := by decide +kernel
theorem dX0_toothBehind_32 : decode cX0_toothBehind 32 = .ok (.imul, 1) := by decide +kernel
theorem dX0_toothBehind_33 : decode cX0_toothBehind 33 = .ok (.iadd, 1) := by decide +kernel
theorem dX0_toothBehind_34 : decode cX0_toothBehind 34 = .ok (.iload 4, 2) := by decide +kernel
theorem dX0_toothBehind_36 : decode cX0_toothBehind 36 = .ok (.irem, 1) := by decide +kernel
theorem dX0_toothBehind_37 : decode cX0_toothBehind 37 = .ok (.goto 4, 3) := by decide +kernel
theorem dX0_toothBehind_40 : decode cX0_toothBehind 40 = .ok (.iconst 0, 1) := by decide +kernel
theorem dX0_toothBehind_41 : decode cX0_toothBehind 41 = .ok (.ireturn, 1) := by decide +kernel
theorem dX0_excuseBehind_0 : decode cX0_excuseBehind 0 = .ok (.iconst 0, 1) := by decide +kernel
theorem dX0_excuseBehind_1 : decode cX0_excuseBehind 1 = .ok (.istore_n 3, 1) := by decide +kernel
theorem dX0_excuseBehind_2 : decode cX0_excuseBehind 2 = .ok (.iconst 0, 1) := by decide +kernel
theorem dX0_excuseBehind_3 : decode cX0_excuseBehind 3 = .ok (.istore 4, 2) := by decide +kernel
theorem dX0_excuseBehind_5 : decode cX0_excuseBehind 5 = .ok (.iload 4, 2) := by decide +kernel
theorem dX0_excuseBehind_7 : decode cX0_excuseBehind 7 = .ok (.aload_n 1, 1) := by decide +kernel
theorem dX0_excuseBehind_8 : decode cX0_excuseBehind 8 = .ok (.getfield 61, 3) := by decide +kernel
theorem dX0_excuseBehind_11 : decode cX0_excuseBehind 11 = .ok (.if_icmp .ge 30, 3) := by decide +kernel
theorem dX0_excuseBehind_14 : decode cX0_excuseBehind 14 = .ok (.iload_n 3, 1) := by decide +kernel
theorem dX0_excuseBehind_15 : decode cX0_excuseBehind 15 = .ok (.aload_n 1, 1) := by decide +kernel
theorem dX0_excuseBehind_16 : decode cX0_excuseBehind 16 = .ok (.getfield 64, 3) := by decide +kernel
theorem dX0_excuseBehind_19 : decode cX0_excuseBehind 19 = .ok (.iload 4, 2) := by decide +kernel
theorem dX0_excuseBehind_21 : decode cX0_excuseBehind 21 = .ok (.invokestatic 57, 3) := by decide +kernel
theorem dX0_excuseBehind_24 : decode cX0_excuseBehind 24 = .ok (.aload_n 0, 1) := by decide +kernel
theorem dX0_excuseBehind_25 : decode cX0_excuseBehind 25 = .ok (.aload_n 1, 1) := by decide +kernel
theorem dX0_excuseBehind_26 : decode cX0_excuseBehind 26 = .ok (.iload 4, 2) := by decide +kernel
theorem dX0_excuseBehind_28 : decode cX0_excuseBehind 28 = .ok (.iload_n 2, 1) := by decide +kernel
theorem dX0_excuseBehind_29 : decode cX0_excuseBehind 29 = .ok (.invokevirtual 67, 3) := by decide +kernel
theorem dX0_excuseBehind_32 : decode cX0_excuseBehind 32 = .ok (.imul, 1) := by decide +kernel
theorem dX0_excuseBehind_33 : decode cX0_excuseBehind 33 = .ok (.iadd, 1) := by decide +kernel
theorem dX0_excuseBehind_34 : decode cX0_excuseBehind 34 = .ok (.istore_n 3, 1) := by decide +kernel
theorem dX0_excuseBehind_35 : decode cX0_excuseBehind 35 = .ok (.iinc 4 1, 3) := by decide +kernel
theorem dX0_excuseBehind_38 : decode cX0_excuseBehind 38 = .ok (.goto (-33), 3) := by decide +kernel
theorem dX0_excuseBehind_41 : decode cX0_excuseBehind 41 = .ok (.iload_n 3, 1) := by decide +kernel
theorem dX0_excuseBehind_42 : decode cX0_excuseBehind 42 = .ok (.ireturn, 1) := by decide +kernel
theorem dX0_turnBy_0 : decode cX0_turnBy 0 = .ok (.iconst 0, 1) := by decide +kernel
theorem dX0_turnBy_1 : decode cX0_turnBy 1 = .ok (.istore_n 3, 1) := by decide +kernel
theorem dX0_turnBy_2 : decode cX0_turnBy 2 = .ok (.iload_n 3, 1) := by decide +kernel
theorem dX0_turnBy_3 : decode cX0_turnBy 3 = .ok (.aload_n 1, 1) := by decide +kernel
theorem dX0_turnBy_4 : decode cX0_turnBy 4 = .ok (.getfield 61, 3) := by decide +kernel
theorem dX0_turnBy_7 : decode cX0_turnBy 7 = .ok (.if_icmp .ge 24, 3) := by decide +kernel
theorem dX0_turnBy_10 : decode cX0_turnBy 10 = .ok (.aload_n 0, 1) := by decide +kernel
theorem dX0_turnBy_11 : decode cX0_turnBy 11 = .ok (.getfield 9, 3) := by decide +kernel
theorem dX0_turnBy_14 : decode cX0_turnBy 14 = .ok (.iload_n 3, 1) := by decide +kernel
theorem dX0_turnBy_15 : decode cX0_turnBy 15 = .ok (.aload_n 0, 1) := by decide +kernel
theorem dX0_turnBy_16 : decode cX0_turnBy 16 = .ok (.aload_n 1, 1) := by decide +kernel
theorem dX0_turnBy_17 : decode cX0_turnBy 17 = .ok (.iload_n 3, 1) := by decide +kernel
theorem dX0_turnBy_18 : decode cX0_turnBy 18 = .ok (.iload_n 2, 1) := by decide +kernel
theorem dX0_turnBy_19 : decode cX0_turnBy 19 = .ok (.invokevirtual 67, 3) := by decide +kernel
theorem dX0_turnBy_22 : decode cX0_turnBy 22 = .ok (.invokestatic 71, 3) := by decide +kernel
theorem dX0_turnBy_25 : decode cX0_turnBy 25 = .ok (.iinc 3 1, 3) := by decide +kernel
theorem dX0_turnBy_28 : decode cX0_turnBy 28 = .ok (.goto (-26), 3) := by decide +kernel
theorem dX0_turnBy_31 : decode cX0_turnBy 31 = .ok (.aload_n 0, 1) := by decide +kernel
theorem dX0_turnBy_32 : decode cX0_turnBy 32 = .ok (.dup, 1) := by decide +kernel
theorem dX0_turnBy_33 : decode cX0_turnBy 33 = .ok (.getfield 51, 3) := by decide +kernel
theorem dX0_turnBy_36 : decode cX0_turnBy 36 = .ok (.iload_n 2, 1) := by decide +kernel
theorem dX0_turnBy_37 : decode cX0_turnBy 37 = .ok (.iadd, 1) := by decide +kernel
theorem dX0_turnBy_38 : decode cX0_turnBy 38 = .ok (.putfield 51, 3) := by decide +kernel
theorem dX0_turnBy_41 : decode cX0_turnBy 41 = .ok (.return_, 1) := by decide +kernel
theorem dX0_turnsInRound_0 : decode cX0_turnsInRound 0 = .ok (.iconst 1, 1) := by decide +kernel
theorem dX0_turnsInRound_1 : decode cX0_turnsInRound 1 = .ok (.istore_n 2, 1) := by decide +kernel
theorem dX0_turnsInRound_2 : decode cX0_turnsInRound 2 = .ok (.iconst 0, 1) := by decide +kernel
theorem dX0_turnsInRound_3 : decode cX0_turnsInRound 3 = .ok (.istore_n 3, 1) := by decide +kernel
theorem dX0_turnsInRound_4 : decode cX0_turnsInRound 4 = .ok (.iload_n 3, 1) := by decide +kernel
theorem dX0_turnsInRound_5 : decode cX0_turnsInRound 5 = .ok (.aload_n 1, 1) := by decide +kernel
theorem dX0_turnsInRound_6 : decode cX0_turnsInRound 6 = .ok (.getfield 61, 3) := by decide +kernel
theorem dX0_turnsInRound_9 : decode cX0_turnsInRound 9 = .ok (.if_icmp .ge 75, 3) := by decide +kernel
theorem dX0_turnsInRound_12 : decode cX0_turnsInRound 12 = .ok (.aload_n 1, 1) := by decide +kernel
theorem dX0_turnsInRound_13 : decode cX0_turnsInRound 13 = .ok (.getfield 54, 3) := by decide +kernel
theorem dX0_turnsInRound_16 : decode cX0_turnsInRound 16 = .ok (.iload_n 3, 1) := by decide +kernel
theorem dX0_turnsInRound_17 : decode cX0_turnsInRound 17 = .ok (.invokestatic 57, 3) := by decide +kernel
theorem dX0_turnsInRound_20 : decode cX0_turnsInRound 20 = .ok (.istore 4, 2) := by decide +kernel
theorem dX0_turnsInRound_22 : decode cX0_turnsInRound 22 = .ok (.iload 4, 2) := by decide +kernel
theorem dX0_turnsInRound_24 : decode cX0_turnsInRound 24 = .ok (.aload_n 0, 1) := by decide +kernel
theorem dX0_turnsInRound_25 : decode cX0_turnsInRound 25 = .ok (.getfield 15, 3) := by decide +kernel
theorem dX0_turnsInRound_28 : decode cX0_turnsInRound 28 = .ok (.iload_n 3, 1) := by decide +kernel
theorem dX0_turnsInRound_29 : decode cX0_turnsInRound 29 = .ok (.invokestatic 57, 3) := by decide +kernel
theorem dX0_turnsInRound_32 : decode cX0_turnsInRound 32 = .ok (.invokestatic 75, 3) := by decide +kernel
theorem dX0_turnsInRound_35 : decode cX0_turnsInRound 35 = .ok (.istore 5, 2) := by decide +kernel
theorem dX0_turnsInRound_37 : decode cX0_turnsInRound 37 = .ok (.iload 5, 2) := by decide +kernel
theorem dX0_turnsInRound_39 : decode cX0_turnsInRound 39 = .ok (.ifCond .le 11, 3) := by decide +kernel
theorem dX0_turnsInRound_42 : decode cX0_turnsInRound 42 = .ok (.iload 4, 2) := by decide +kernel
theorem dX0_turnsInRound_44 : decode cX0_turnsInRound 44 = .ok (.iload 5, 2) := by decide +kernel
theorem dX0_turnsInRound_46 : decode cX0_turnsInRound 46 = .ok (.idiv, 1) := by decide +kernel
theorem dX0_turnsInRound_47 : decode cX0_turnsInRound 47 = .ok (.goto 4, 3) := by decide +kernel
theorem dX0_turnsInRound_50 : decode cX0_turnsInRound 50 = .ok (.iconst 1, 1) := by decide +kernel
theorem dX0_turnsInRound_51 : decode cX0_turnsInRound 51 = .ok (.istore 6, 2) := by decide +kernel
theorem dX0_turnsInRound_53 : decode cX0_turnsInRound 53 = .ok (.iload_n 2, 1) := by decide +kernel
theorem dX0_turnsInRound_54 : decode cX0_turnsInRound 54 = .ok (.iload 6, 2) := by decide +kernel
theorem dX0_turnsInRound_56 : decode cX0_turnsInRound 56 = .ok (.invokestatic 75, 3) := by decide +kernel
theorem dX0_turnsInRound_59 : decode cX0_turnsInRound 59 = .ok (.istore 7, 2) := by decide +kernel
theorem dX0_turnsInRound_61 : decode cX0_turnsInRound 61 = .ok (.iload 7, 2) := by decide +kernel
theorem dX0_turnsInRound_63 : decode cX0_turnsInRound 63 = .ok (.ifCond .le 13, 3) := by decide +kernel
theorem dX0_turnsInRound_66 : decode cX0_turnsInRound 66 = .ok (.iload_n 2, 1) := by decide +kernel
theorem dX0_turnsInRound_67 : decode cX0_turnsInRound 67 = .ok (.iload 7, 2) := by decide +kernel
theorem dX0_turnsInRound_69 : decode cX0_turnsInRound 69 = .ok (.idiv, 1) := by decide +kernel
theorem dX0_turnsInRound_70 : decode cX0_turnsInRound 70 = .ok (.iload 6, 2) := by decide +kernel
theorem dX0_turnsInRound_72 : decode cX0_turnsInRound 72 = .ok (.imul, 1) := by decide +kernel
theorem dX0_turnsInRound_73 : decode cX0_turnsInRound 73 = .ok (.goto 4, 3) := by decide +kernel
theorem dX0_turnsInRound_76 : decode cX0_turnsInRound 76 = .ok (.iload_n 2, 1) := by decide +kernel
theorem dX0_turnsInRound_77 : decode cX0_turnsInRound 77 = .ok (.istore_n 2, 1) := by decide +kernel
theorem dX0_turnsInRound_78 : decode cX0_turnsInRound 78 = .ok (.iinc 3 1, 3) := by decide +kernel
theorem dX0_turnsInRound_81 : decode cX0_turnsInRound 81 = .ok (.goto (-77), 3) := by decide +kernel
theorem dX0_turnsInRound_84 : decode cX0_turnsInRound 84 = .ok (.iload_n 2, 1) := by decide +kernel
theorem dX0_turnsInRound_85 : decode cX0_turnsInRound 85 = .ok (.ireturn, 1) := by decide +kernel
theorem dX0_makesSense_0 : decode cX0_makesSense 0 = .ok (.aload_n 1, 1) := by decide +kernel
theorem dX0_makesSense_1 : decode cX0_makesSense 1 = .ok (.iload_n 2, 1) := by decide +kernel
theorem dX0_makesSense_2 : decode cX0_makesSense 2 = .ok (.invokevirtual 79, 3) := by decide +kernel
theorem dX0_makesSense_5 : decode cX0_makesSense 5 = .ok (.istore_n 3, 1) := by decide +kernel
theorem dX0_makesSense_6 : decode cX0_makesSense 6 = .ok (.iload_n 3, 1) := by decide +kernel
theorem dX0_makesSense_7 : decode cX0_makesSense 7 = .ok (.aload_n 0, 1) := by decide +kernel
theorem dX0_makesSense_8 : decode cX0_makesSense 8 = .ok (.getfield 41, 3) := by decide +kernel
theorem dX0_makesSense_11 : decode cX0_makesSense 11 = .ok (.iand, 1) := by decide +kernel
theorem dX0_makesSense_12 : decode cX0_makesSense 12 = .ok (.ifCond .ne 15, 3) := by decide +kernel
theorem dX0_makesSense_15 : decode cX0_makesSense 15 = .ok (.aload_n 1, 1) := by decide +kernel
theorem dX0_makesSense_16 : decode cX0_makesSense 16 = .ok (.iload_n 3, 1) := by decide +kernel
theorem dX0_makesSense_17 : decode cX0_makesSense 17 = .ok (.invokevirtual 83, 3) := by decide +kernel
theorem dX0_makesSense_20 : decode cX0_makesSense 20 = .ok (.ifCond .eq 7, 3) := by decide +kernel
theorem dX0_makesSense_23 : decode cX0_makesSense 23 = .ok (.iconst 1, 1) := by decide +kernel
theorem dX0_makesSense_24 : decode cX0_makesSense 24 = .ok (.goto 4, 3) := by decide +kernel
theorem dX0_makesSense_27 : decode cX0_makesSense 27 = .ok (.iconst 0, 1) := by decide +kernel
theorem dX0_makesSense_28 : decode cX0_makesSense 28 = .ok (.ireturn, 1) := by decide +kernel
theorem dX0_isUsed_0 : decode cX0_isUsed 0 = .ok (.iconst 0, 1) := by decide +kernel
theorem dX0_isUsed_1 : decode cX0_isUsed 1 = .ok (.istore_n 3, 1) := by decide +kernel
theorem dX0_isUsed_2 : decode cX0_isUsed 2 = .ok (.iload_n 3, 1) := by decide +kernel
theorem dX0_isUsed_3 : decode cX0_isUsed 3 = .ok (.aload_n 0, 1) := by decide +kernel
theorem dX0_isUsed_4 : decode cX0_isUsed 4 = .ok (.getfield 45, 3) := by decide +kernel
theorem dX0_isUsed_7 : decode cX0_isUsed 7 = .ok (.if_icmp .ge 38, 3) := by decide +kernel
theorem dX0_isUsed_10 : decode cX0_isUsed 10 = .ok (.aload_n 0, 1) := by decide +kernel
theorem dX0_isUsed_11 : decode cX0_isUsed 11 = .ok (.getfield 18, 3) := by decide +kernel
theorem dX0_isUsed_14 : decode cX0_isUsed 14 = .ok (.iload_n 3, 1) := by decide +kernel
theorem dX0_isUsed_15 : decode cX0_isUsed 15 = .ok (.invokestatic 57, 3) := by decide +kernel
theorem dX0_isUsed_18 : decode cX0_isUsed 18 = .ok (.iload_n 1, 1) := by decide +kernel
theorem dX0_isUsed_19 : decode cX0_isUsed 19 = .ok (.if_icmp .ne 20, 3) := by decide +kernel
theorem dX0_isUsed_22 : decode cX0_isUsed 22 = .ok (.iload_n 2, 1) := by decide +kernel
theorem dX0_isUsed_23 : decode cX0_isUsed 23 = .ok (.aload_n 0, 1) := by decide +kernel
theorem dX0_isUsed_24 : decode cX0_isUsed 24 = .ok (.getfield 24, 3) := by decide +kernel
theorem dX0_isUsed_27 : decode cX0_isUsed 27 = .ok (.iload_n 3, 1) := by decide +kernel
theorem dX0_isUsed_28 : decode cX0_isUsed 28 = .ok (.invokestatic 57, 3) := by decide +kernel
theorem dX0_isUsed_31 : decode cX0_isUsed 31 = .ok (.ishr, 1) := by decide +kernel
theorem dX0_isUsed_32 : decode cX0_isUsed 32 = .ok (.iconst 1, 1) := by decide +kernel
theorem dX0_isUsed_33 : decode cX0_isUsed 33 = .ok (.iand, 1) := by decide +kernel
theorem dX0_isUsed_34 : decode cX0_isUsed 34 = .ok (.ifCond .eq 5, 3) := by decide +kernel
theorem dX0_isUsed_37 : decode cX0_isUsed 37 = .ok (.iconst 1, 1) := by decide +kernel
theorem dX0_isUsed_38 : decode cX0_isUsed 38 = .ok (.ireturn, 1) := by decide +kernel
theorem dX0_isUsed_39 : decode cX0_isUsed 39 = .ok (.iinc 3 1, 3) := by decide +kernel
theorem dX0_isUsed_42 : decode cX0_isUsed 42 = .ok (.goto (-40), 3) := by decide +kernel
theorem dX0_isUsed_45 : decode cX0_isUsed 45 = .ok (.iconst 0, 1) := by decide +kernel
theorem dX0_isUsed_46 : decode cX0_isUsed 46 = .ok (.ireturn, 1) := by decide +kernel
theorem dX0_isFresh_0 : decode cX0_isFresh 0 = .ok (.aload_n 0, 1) := by decide +kernel
theorem dX0_isFresh_1 : decode cX0_isFresh 1 = .ok (.aload_n 1, 1) := by decide +kernel
theorem dX0_isFresh_2 : decode cX0_isFresh 2 = .ok (.iload_n 2, 1) := by decide +kernel
theorem dX0_isFresh_3 : decode cX0_isFresh 3 = .ok (.invokevirtual 87, 3) := by decide +kernel
theorem dX0_isFresh_6 : decode cX0_isFresh 6 = .ok (.ifCond .eq 16, 3) := by decide +kernel
theorem dX0_isFresh_9 : decode cX0_isFresh 9 = .ok (.aload_n 0, 1) := by decide +kernel
theorem dX0_isFresh_10 : decode cX0_isFresh 10 = .ok (.iload_n 2, 1) := by decide +kernel
theorem dX0_isFresh_11 : decode cX0_isFresh 11 = .ok (.iload_n 3, 1) := by decide +kernel
theorem dX0_isFresh_12 : decode cX0_isFresh 12 = .ok (.invokevirtual 91, 3) := by decide +kernel
theorem dX0_isFresh_15 : decode cX0_isFresh 15 = .ok (.ifCond .ne 7, 3) := by decide +kernel
theorem dX0_isFresh_18 : decode cX0_isFresh 18 = .ok (.iconst 1, 1) := by decide +kernel
theorem dX0_isFresh_19 : decode cX0_isFresh 19 = .ok (.goto 4, 3) := by decide +kernel
theorem dX0_isFresh_22 : decode cX0_isFresh 22 = .ok (.iconst 0, 1) := by decide +kernel
theorem dX0_isFresh_23 : decode cX0_isFresh 23 = .ok (.ireturn, 1) := by decide +kernel
theorem dX0_turnsTillFresh_0 : decode cX0_turnsTillFresh 0 = .ok (.aload_n 1, 1) := by decide +kernel
theorem dX0_turnsTillFresh_1 : decode cX0_turnsTillFresh 1 = .ok (.iload_n 2, 1) := by decide +kernel
theorem dX0_turnsTillFresh_2 : decode cX0_turnsTillFresh 2 = .ok (.invokevirtual 95, 3) := by decide +kernel
theorem dX0_turnsTillFresh_5 : decode cX0_turnsTillFresh 5 = .ok (.istore_n 3, 1) := by decide +kernel
theorem dX0_turnsTillFresh_6 : decode cX0_turnsTillFresh 6 = .ok (.aload_n 0, 1) := by decide +kernel
theorem dX0_turnsTillFresh_7 : decode cX0_turnsTillFresh 7 = .ok (.aload_n 1, 1) := by decide +kernel
theorem dX0_turnsTillFresh_8 : decode cX0_turnsTillFresh 8 = .ok (.invokevirtual 98, 3) := by decide +kernel
theorem dX0_turnsTillFresh_11 : decode cX0_turnsTillFresh 11 = .ok (.istore 4, 2) := by decide +kernel
theorem dX0_turnsTillFresh_13 : decode cX0_turnsTillFresh 13 = .ok (.iconst 1, 1) := by decide +kernel
theorem dX0_turnsTillFresh_14 : decode cX0_turnsTillFresh 14 = .ok (.istore 5, 2) := by decide +kernel
theorem dX0_turnsTillFresh_16 : decode cX0_turnsTillFresh 16 = .ok (.iload 5, 2) := by decide +kernel
theorem dX0_turnsTillFresh_18 : decode cX0_turnsTillFresh 18 = .ok (.iload 4, 2) := by decide +kernel
theorem dX0_turnsTillFresh_20 : decode cX0_turnsTillFresh 20 = .ok (.if_icmp .gt 28, 3) := by decide +kernel
theorem dX0_turnsTillFresh_23 : decode cX0_turnsTillFresh 23 = .ok (.aload_n 0, 1) := by decide +kernel
theorem dX0_turnsTillFresh_24 : decode cX0_turnsTillFresh 24 = .ok (.aload_n 1, 1) := by decide +kernel
theorem dX0_turnsTillFresh_25 : decode cX0_turnsTillFresh 25 = .ok (.aload_n 0, 1) := by decide +kernel
theorem dX0_turnsTillFresh_26 : decode cX0_turnsTillFresh 26 = .ok (.aload_n 1, 1) := by decide +kernel
theorem dX0_turnsTillFresh_27 : decode cX0_turnsTillFresh 27 = .ok (.iload 5, 2) := by decide +kernel
theorem dX0_turnsTillFresh_29 : decode cX0_turnsTillFresh 29 = .ok (.invokevirtual 102, 3) := by decide +kernel
theorem dX0_turnsTillFresh_32 : decode cX0_turnsTillFresh 32 = .ok (.iload_n 3, 1) := by decide +kernel
theorem dX0_turnsTillFresh_33 : decode cX0_turnsTillFresh 33 = .ok (.invokevirtual 106, 3) := by decide +kernel
theorem dX0_turnsTillFresh_36 : decode cX0_turnsTillFresh 36 = .ok (.ifCond .eq 6, 3) := by decide +kernel
theorem dX0_turnsTillFresh_39 : decode cX0_turnsTillFresh 39 = .ok (.iload 5, 2) := by decide +kernel
theorem dX0_turnsTillFresh_41 : decode cX0_turnsTillFresh 41 = .ok (.ireturn, 1) := by decide +kernel
theorem dX0_turnsTillFresh_42 : decode cX0_turnsTillFresh 42 = .ok (.iinc 5 1, 3) := by decide +kernel
theorem dX0_turnsTillFresh_45 : decode cX0_turnsTillFresh 45 = .ok (.goto (-29), 3) := by decide +kernel
theorem dX0_turnsTillFresh_48 : decode cX0_turnsTillFresh 48 = .ok (.iconst 0, 1) := by decide +kernel
theorem dX0_turnsTillFresh_49 : decode cX0_turnsTillFresh 49 = .ok (.ireturn, 1) := by decide +kernel
theorem dX0_tell_0 : decode cX0_tell 0 = .ok (.aload_n 0, 1) := by decide +kernel
theorem dX0_tell_1 : decode cX0_tell 1 = .ok (.aload_n 1, 1) := by decide +kernel
theorem dX0_tell_2 : decode cX0_tell 2 = .ok (.iconst 0, 1) := by decide +kernel
theorem dX0_tell_3 : decode cX0_tell 3 = .ok (.invokevirtual 102, 3) := by decide +kernel
theorem dX0_tell_6 : decode cX0_tell 6 = .ok (.istore 4, 2) := by decide +kernel
theorem dX0_tell_8 : decode cX0_tell 8 = .ok (.aload_n 0, 1) := by decide +kernel
theorem dX0_tell_9 : decode cX0_tell 9 = .ok (.aload_n 1, 1) := by decide +kernel
theorem dX0_tell_10 : decode cX0_tell 10 = .ok (.iload 4, 2) := by decide +kernel
theorem dX0_tell_12 : decode cX0_tell 12 = .ok (.iload_n 2, 1) := by decide +kernel
theorem dX0_tell_13 : decode cX0_tell 13 = .ok (.iload_n 3, 1) := by decide +kernel
theorem dX0_tell_14 : decode cX0_tell 14 = .ok (.invokevirtual 110, 3) := by decide +kernel
theorem dX0_tell_17 : decode cX0_tell 17 = .ok (.ifCond .eq 7, 3) := by decide +kernel
theorem dX0_tell_20 : decode cX0_tell 20 = .ok (.iconst 1, 1) := by decide +kernel
theorem dX0_tell_21 : decode cX0_tell 21 = .ok (.goto 4, 3) := by decide +kernel
theorem dX0_tell_24 : decode cX0_tell 24 = .ok (.iconst 0, 1) := by decide +kernel
theorem dX0_tell_25 : decode cX0_tell 25 = .ok (.istore 5, 2) := by decide +kernel
theorem dX0_tell_27 : decode cX0_tell 27 = .ok (.aload_n 0, 1) := by decide +kernel
theorem dX0_tell_28 : decode cX0_tell 28 = .ok (.getfield 45, 3) := by decide +kernel
theorem dX0_tell_31 : decode cX0_tell 31 = .ok (.bipush 12, 2) := by decide +kernel
theorem dX0_tell_33 : decode cX0_tell 33 = .ok (.if_icmp .lt 7, 3) := by decide +kernel
theorem dX0_tell_36 : decode cX0_tell 36 = .ok (.aload_n 0, 1) := by decide +kernel
theorem dX0_tell_37 : decode cX0_tell 37 = .ok (.invokevirtual 114, 3) := by decide +kernel
theorem dX0_tell_40 : decode cX0_tell 40 = .ok (.aload_n 0, 1) := by decide +kernel
theorem dX0_tell_41 : decode cX0_tell 41 = .ok (.getfield 18, 3) := by decide +kernel
theorem dX0_tell_44 : decode cX0_tell 44 = .ok (.aload_n 0, 1) := by decide +kernel
theorem dX0_tell_45 : decode cX0_tell 45 = .ok (.getfield 45, 3) := by decide +kernel
theorem dX0_tell_48 : decode cX0_tell 48 = .ok (.iload 4, 2) := by decide +kernel
theorem dX0_tell_50 : decode cX0_tell 50 = .ok (.invokestatic 71, 3) := by decide +kernel
theorem dX0_tell_53 : decode cX0_tell 53 = .ok (.aload_n 0, 1) := by decide +kernel
theorem dX0_tell_54 : decode cX0_tell 54 = .ok (.getfield 21, 3) := by decide +kernel
theorem dX0_tell_57 : decode cX0_tell 57 = .ok (.aload_n 0, 1) := by decide +kernel
theorem dX0_tell_58 : decode cX0_tell 58 = .ok (.getfield 45, 3) := by decide +kernel
theorem dX0_tell_61 : decode cX0_tell 61 = .ok (.iload_n 2, 1) := by decide +kernel
theorem dX0_tell_62 : decode cX0_tell 62 = .ok (.invokestatic 71, 3) := by decide +kernel
theorem dX0_tell_65 : decode cX0_tell 65 = .ok (.aload_n 0, 1) := by decide +kernel
theorem dX0_tell_66 : decode cX0_tell 66 = .ok (.getfield 24, 3) := by decide +kernel
theorem dX0_tell_69 : decode cX0_tell 69 = .ok (.aload_n 0, 1) := by decide +kernel
theorem dX0_tell_70 : decode cX0_tell 70 = .ok (.getfield 45, 3) := by decide +kernel
theorem dX0_tell_73 : decode cX0_tell 73 = .ok (.iload_n 3, 1) := by decide +kernel
theorem dX0_tell_74 : decode cX0_tell 74 = .ok (.invokestatic 71, 3) := by decide +kernel
theorem dX0_tell_77 : decode cX0_tell 77 = .ok (.aload_n 0, 1) := by decide +kernel
theorem dX0_tell_78 : decode cX0_tell 78 = .ok (.getfield 27, 3) := by decide +kernel
theorem dX0_tell_81 : decode cX0_tell 81 = .ok (.aload_n 0, 1) := by decide +kernel
theorem dX0_tell_82 : decode cX0_tell 82 = .ok (.getfield 45, 3) := by decide +kernel
theorem dX0_tell_85 : decode cX0_tell 85 = .ok (.aload_n 0, 1) := by decide +kernel
theorem dX0_tell_86 : decode cX0_tell 86 = .ok (.getfield 48, 3) := by decide +kernel
theorem dX0_tell_89 : decode cX0_tell 89 = .ok (.invokestatic 71, 3) := by decide +kernel
theorem dX0_tell_92 : decode cX0_tell 92 = .ok (.aload_n 0, 1) := by decide +kernel
theorem dX0_tell_93 : decode cX0_tell 93 = .ok (.getfield 30, 3) := by decide +kernel
theorem dX0_tell_96 : decode cX0_tell 96 = .ok (.aload_n 0, 1) := by decide +kernel
theorem dX0_tell_97 : decode cX0_tell 97 = .ok (.getfield 45, 3) := by decide +kernel
theorem dX0_tell_100 : decode cX0_tell 100 = .ok (.iload 5, 2) := by decide +kernel
theorem dX0_tell_102 : decode cX0_tell 102 = .ok (.invokestatic 71, 3) := by decide +kernel
theorem dX0_tell_105 : decode cX0_tell 105 = .ok (.aload_n 0, 1) := by decide +kernel
theorem dX0_tell_106 : decode cX0_tell 106 = .ok (.dup, 1) := by decide +kernel
theorem dX0_tell_107 : decode cX0_tell 107 = .ok (.getfield 45, 3) := by decide +kernel
theorem dX0_tell_110 : decode cX0_tell 110 = .ok (.iconst 1, 1) := by decide +kernel
theorem dX0_tell_111 : decode cX0_tell 111 = .ok (.iadd, 1) := by decide +kernel
theorem dX0_tell_112 : decode cX0_tell 112 = .ok (.putfield 45, 3) := by decide +kernel
theorem dX0_tell_115 : decode cX0_tell 115 = .ok (.iload 5, 2) := by decide +kernel
theorem dX0_tell_117 : decode cX0_tell 117 = .ok (.ireturn, 1) := by decide +kernel
theorem dX0_isSeenThrough_0 : decode cX0_isSeenThrough 0 = .ok (.aload_n 1, 1) := by decide +kernel
theorem dX0_isSeenThrough_1 : decode cX0_isSeenThrough 1 = .ok (.iload_n 2, 1) := by decide +kernel
theorem dX0_isSeenThrough_2 : decode cX0_isSeenThrough 2 = .ok (.iconst 0, 1) := by decide +kernel
theorem dX0_isSeenThrough_3 : decode cX0_isSeenThrough 3 = .ok (.invokevirtual 117, 3) := by decide +kernel
theorem dX0_isSeenThrough_6 : decode cX0_isSeenThrough 6 = .ok (.istore 5, 2) := by decide +kernel
theorem dX0_isSeenThrough_8 : decode cX0_isSeenThrough 8 = .ok (.iconst 0, 1) := by decide +kernel
theorem dX0_isSeenThrough_9 : decode cX0_isSeenThrough 9 = .ok (.istore 6, 2) := by decide +kernel
theorem dX0_isSeenThrough_11 : decode cX0_isSeenThrough 11 = .ok (.iload 6, 2) := by decide +kernel
theorem dX0_isSeenThrough_13 : decode cX0_isSeenThrough 13 = .ok (.aload_n 0, 1) := by decide +kernel
theorem dX0_isSeenThrough_14 : decode cX0_isSeenThrough 14 = .ok (.getfield 45, 3) := by decide +kernel
theorem dX0_isSeenThrough_17 : decode cX0_isSeenThrough 17 = .ok (.if_icmp .ge 73, 3) := by decide +kernel
theorem dX0_isSeenThrough_20 : decode cX0_isSeenThrough 20 = .ok (.aload_n 0, 1) := by decide +kernel
theorem dX0_isSeenThrough_21 : decode cX0_isSeenThrough 21 = .ok (.getfield 24, 3) := by decide +kernel
theorem dX0_isSeenThrough_24 : decode cX0_isSeenThrough 24 = .ok (.iload 6, 2) := by decide +kernel
theorem dX0_isSeenThrough_26 : decode cX0_isSeenThrough 26 = .ok (.invokestatic 57, 3) := by decide +kernel
theorem dX0_isSeenThrough_29 : decode cX0_isSeenThrough 29 = .ok (.iload 4, 2) := by decide +kernel
theorem dX0_isSeenThrough_31 : decode cX0_isSeenThrough 31 = .ok (.if_icmp .ne 53, 3) := by decide +kernel
theorem dX0_isSeenThrough_34 : decode cX0_isSeenThrough 34 = .ok (.aload_n 0, 1) := by decide +kernel
theorem dX0_isSeenThrough_35 : decode cX0_isSeenThrough 35 = .ok (.getfield 27, 3) := by decide +kernel
theorem dX0_isSeenThrough_38 : decode cX0_isSeenThrough 38 = .ok (.iload 6, 2) := by decide +kernel
theorem dX0_isSeenThrough_40 : decode cX0_isSeenThrough 40 = .ok (.invokestatic 57, 3) := by decide +kernel
theorem dX0_isSeenThrough_43 : decode cX0_isSeenThrough 43 = .ok (.aload_n 0, 1) := by decide +kernel
theorem dX0_isSeenThrough_44 : decode cX0_isSeenThrough 44 = .ok (.getfield 48, 3) := by decide +kernel
theorem dX0_isSeenThrough_47 : decode cX0_isSeenThrough 47 = .ok (.if_icmp .ne 37, 3) := by decide +kernel
theorem dX0_isSeenThrough_50 : decode cX0_isSeenThrough 50 = .ok (.aload_n 0, 1) := by decide +kernel
theorem dX0_isSeenThrough_51 : decode cX0_isSeenThrough 51 = .ok (.getfield 21, 3) := by decide +kernel
theorem dX0_isSeenThrough_54 : decode cX0_isSeenThrough 54 = .ok (.iload 6, 2) := by decide +kernel
theorem dX0_isSeenThrough_56 : decode cX0_isSeenThrough 56 = .ok (.invokestatic 57, 3) := by decide +kernel
theorem dX0_isSeenThrough_59 : decode cX0_isSeenThrough 59 = .ok (.iload_n 3, 1) := by decide +kernel
theorem dX0_isSeenThrough_60 : decode cX0_isSeenThrough 60 = .ok (.if_icmp .eq 24, 3) := by decide +kernel
theorem dX0_isSeenThrough_63 : decode cX0_isSeenThrough 63 = .ok (.aload_n 1, 1) := by decide +kernel
theorem dX0_isSeenThrough_64 : decode cX0_isSeenThrough 64 = .ok (.aload_n 0, 1) := by decide +kernel
theorem dX0_isSeenThrough_65 : decode cX0_isSeenThrough 65 = .ok (.getfield 18, 3) := by decide +kernel
theorem dX0_isSeenThrough_68 : decode cX0_isSeenThrough 68 = .ok (.iload 6, 2) := by decide +kernel
theorem dX0_isSeenThrough_70 : decode cX0_isSeenThrough 70 = .ok (.invokestatic 57, 3) := by decide +kernel
theorem dX0_isSeenThrough_73 : decode cX0_isSeenThrough 73 = .ok (.iconst 0, 1) := by decide +kernel
theorem dX0_isSeenThrough_74 : decode cX0_isSeenThrough 74 = .ok (.invokevirtual 117, 3) := by decide +kernel
theorem dX0_isSeenThrough_77 : decode cX0_isSeenThrough 77 = .ok (.iload 5, 2) := by decide +kernel
theorem dX0_isSeenThrough_79 : decode cX0_isSeenThrough 79 = .ok (.if_icmp .ne 5, 3) := by decide +kernel
theorem dX0_isSeenThrough_82 : decode cX0_isSeenThrough 82 = .ok (.iconst 1, 1) := by decide +kernel
theorem dX0_isSeenThrough_83 : decode cX0_isSeenThrough 83 = .ok (.ireturn, 1) := by decide +kernel
theorem dX0_isSeenThrough_84 : decode cX0_isSeenThrough 84 = .ok (.iinc 6 1, 3) := by decide +kernel
theorem dX0_isSeenThrough_87 : decode cX0_isSeenThrough 87 = .ok (.goto (-76), 3) := by decide +kernel
theorem dX0_isSeenThrough_90 : decode cX0_isSeenThrough 90 = .ok (.iconst 0, 1) := by decide +kernel
theorem dX0_isSeenThrough_91 : decode cX0_isSeenThrough 91 = .ok (.ireturn, 1) := by decide +kernel
theorem dX0_dropFirst_0 : decode cX0_dropFirst 0 = .ok (.iconst 1, 1) := by decide +kernel
theorem dX0_dropFirst_1 : decode cX0_dropFirst 1 = .ok (.istore_n 1, 1) := by decide +kernel
theorem dX0_dropFirst_2 : decode cX0_dropFirst 2 = .ok (.iload_n 1, 1) := by decide +kernel
theorem dX0_dropFirst_3 : decode cX0_dropFirst 3 = .ok (.aload_n 0, 1) := by decide +kernel
theorem dX0_dropFirst_4 : decode cX0_dropFirst 4 = .ok (.getfield 45, 3) := by decide +kernel
theorem dX0_dropFirst_7 : decode cX0_dropFirst 7 = .ok (.if_icmp .ge 99, 3) := by decide +kernel
theorem dX0_dropFirst_10 : decode cX0_dropFirst 10 = .ok (.aload_n 0, 1) := by decide +kernel
theorem dX0_dropFirst_11 : decode cX0_dropFirst 11 = .ok (.getfield 18, 3) := by decide +kernel
theorem dX0_dropFirst_14 : decode cX0_dropFirst 14 = .ok (.iload_n 1, 1) := by decide +kernel
theorem dX0_dropFirst_15 : decode cX0_dropFirst 15 = .ok (.iconst 1, 1) := by decide +kernel
theorem dX0_dropFirst_16 : decode cX0_dropFirst 16 = .ok (.isub, 1) := by decide +kernel
theorem dX0_dropFirst_17 : decode cX0_dropFirst 17 = .ok (.aload_n 0, 1) := by decide +kernel
theorem dX0_dropFirst_18 : decode cX0_dropFirst 18 = .ok (.getfield 18, 3) := by decide +kernel
theorem dX0_dropFirst_21 : decode cX0_dropFirst 21 = .ok (.iload_n 1, 1) := by decide +kernel
theorem dX0_dropFirst_22 : decode cX0_dropFirst 22 = .ok (.invokestatic 57, 3) := by decide +kernel
theorem dX0_dropFirst_25 : decode cX0_dropFirst 25 = .ok (.invokestatic 71, 3) := by decide +kernel
theorem dX0_dropFirst_28 : decode cX0_dropFirst 28 = .ok (.aload_n 0, 1) := by decide +kernel
theorem dX0_dropFirst_29 : decode cX0_dropFirst 29 = .ok (.getfield 21, 3) := by decide +kernel
theorem dX0_dropFirst_32 : decode cX0_dropFirst 32 = .ok (.iload_n 1, 1) := by decide +kernel
theorem dX0_dropFirst_33 : decode cX0_dropFirst 33 = .ok (.iconst 1, 1) := by decide +kernel
theorem dX0_dropFirst_34 : decode cX0_dropFirst 34 = .ok (.isub, 1) := by decide +kernel
theorem dX0_dropFirst_35 : decode cX0_dropFirst 35 = .ok (.aload_n 0, 1) := by decide +kernel
theorem dX0_dropFirst_36 : decode cX0_dropFirst 36 = .ok (.getfield 21, 3) := by decide +kernel
theorem dX0_dropFirst_39 : decode cX0_dropFirst 39 = .ok (.iload_n 1, 1) := by decide +kernel
theorem dX0_dropFirst_40 : decode cX0_dropFirst 40 = .ok (.invokestatic 57, 3) := by decide +kernel
theorem dX0_dropFirst_43 : decode cX0_dropFirst 43 = .ok (.invokestatic 71, 3) := by decide +kernel
theorem dX0_dropFirst_46 : decode cX0_dropFirst 46 = .ok (.aload_n 0, 1) := by decide +kernel
theorem dX0_dropFirst_47 : decode cX0_dropFirst 47 = .ok (.getfield 24, 3) := by decide +kernel
theorem dX0_dropFirst_50 : decode cX0_dropFirst 50 = .ok (.iload_n 1, 1) := by decide +kernel
theorem dX0_dropFirst_51 : decode cX0_dropFirst 51 = .ok (.iconst 1, 1) := by decide +kernel
theorem dX0_dropFirst_52 : decode cX0_dropFirst 52 = .ok (.isub, 1) := by decide +kernel
theorem dX0_dropFirst_53 : decode cX0_dropFirst 53 = .ok (.aload_n 0, 1) := by decide +kernel
theorem dX0_dropFirst_54 : decode cX0_dropFirst 54 = .ok (.getfield 24, 3) := by decide +kernel
theorem dX0_dropFirst_57 : decode cX0_dropFirst 57 = .ok (.iload_n 1, 1) := by decide +kernel
theorem dX0_dropFirst_58 : decode cX0_dropFirst 58 = .ok (.invokestatic 57, 3) := by decide +kernel
theorem dX0_dropFirst_61 : decode cX0_dropFirst 61 = .ok (.invokestatic 71, 3) := by decide +kernel
theorem dX0_dropFirst_64 : decode cX0_dropFirst 64 = .ok (.aload_n 0, 1) := by decide +kernel
theorem dX0_dropFirst_65 : decode cX0_dropFirst 65 = .ok (.getfield 27, 3) := by decide +kernel
theorem dX0_dropFirst_68 : decode cX0_dropFirst 68 = .ok (.iload_n 1, 1) := by decide +kernel
theorem dX0_dropFirst_69 : decode cX0_dropFirst 69 = .ok (.iconst 1, 1) := by decide +kernel
theorem dX0_dropFirst_70 : decode cX0_dropFirst 70 = .ok (.isub, 1) := by decide +kernel
theorem dX0_dropFirst_71 : decode cX0_dropFirst 71 = .ok (.aload_n 0, 1) := by decide +kernel
theorem dX0_dropFirst_72 : decode cX0_dropFirst 72 = .ok (.getfield 27, 3) := by decide +kernel
theorem dX0_dropFirst_75 : decode cX0_dropFirst 75 = .ok (.iload_n 1, 1) := by decide +kernel
theorem dX0_dropFirst_76 : decode cX0_dropFirst 76 = .ok (.invokestatic 57, 3) := by decide +kernel
theorem dX0_dropFirst_79 : decode cX0_dropFirst 79 = .ok (.invokestatic 71, 3) := by decide +kernel
theorem dX0_dropFirst_82 : decode cX0_dropFirst 82 = .ok (.aload_n 0, 1) := by decide +kernel
theorem dX0_dropFirst_83 : decode cX0_dropFirst 83 = .ok (.getfield 30, 3) := by decide +kernel
theorem dX0_dropFirst_86 : decode cX0_dropFirst 86 = .ok (.iload_n 1, 1) := by decide +kernel
theorem dX0_dropFirst_87 : decode cX0_dropFirst 87 = .ok (.iconst 1, 1) := by decide +kernel
theorem dX0_dropFirst_88 : decode cX0_dropFirst 88 = .ok (.isub, 1) := by decide +kernel
theorem dX0_dropFirst_89 : decode cX0_dropFirst 89 = .ok (.aload_n 0, 1) := by decide +kernel
theorem dX0_dropFirst_90 : decode cX0_dropFirst 90 = .ok (.getfield 30, 3) := by decide +kernel
theorem dX0_dropFirst_93 : decode cX0_dropFirst 93 = .ok (.iload_n 1, 1) := by decide +kernel
theorem dX0_dropFirst_94 : decode cX0_dropFirst 94 = .ok (.invokestatic 57, 3) := by decide +kernel
theorem dX0_dropFirst_97 : decode cX0_dropFirst 97 = .ok (.invokestatic 71, 3) := by decide +kernel
theorem dX0_dropFirst_100 : decode cX0_dropFirst 100 = .ok (.iinc 1 1, 3) := by decide +kernel
theorem dX0_dropFirst_103 : decode cX0_dropFirst 103 = .ok (.goto (-101), 3) := by decide +kernel
theorem dX0_dropFirst_106 : decode cX0_dropFirst 106 = .ok (.aload_n 0, 1) := by decide +kernel
theorem dX0_dropFirst_107 : decode cX0_dropFirst 107 = .ok (.dup, 1) := by decide +kernel
theorem dX0_dropFirst_108 : decode cX0_dropFirst 108 = .ok (.getfield 45, 3) := by decide +kernel
theorem dX0_dropFirst_111 : decode cX0_dropFirst 111 = .ok (.iconst 1, 1) := by decide +kernel
theorem dX0_dropFirst_112 : decode cX0_dropFirst 112 = .ok (.isub, 1) := by decide +kernel
theorem dX0_dropFirst_113 : decode cX0_dropFirst 113 = .ok (.putfield 45, 3) := by decide +kernel
theorem dX0_dropFirst_116 : decode cX0_dropFirst 116 = .ok (.return_, 1) := by decide +kernel
theorem dX0_seenThrough_0 : decode cX0_seenThrough 0 = .ok (.iconst 0, 1) := by decide +kernel
theorem dX0_seenThrough_1 : decode cX0_seenThrough 1 = .ok (.istore_n 1, 1) := by decide +kernel
theorem dX0_seenThrough_2 : decode cX0_seenThrough 2 = .ok (.iconst 0, 1) := by decide +kernel
theorem dX0_seenThrough_3 : decode cX0_seenThrough 3 = .ok (.istore_n 2, 1) := by decide +kernel
theorem dX0_seenThrough_4 : decode cX0_seenThrough 4 = .ok (.iload_n 2, 1) := by decide +kernel
theorem dX0_seenThrough_5 : decode cX0_seenThrough 5 = .ok (.aload_n 0, 1) := by decide +kernel
theorem dX0_seenThrough_6 : decode cX0_seenThrough 6 = .ok (.getfield 45, 3) := by decide +kernel
theorem dX0_seenThrough_9 : decode cX0_seenThrough 9 = .ok (.if_icmp .ge 20, 3) := by decide +kernel
theorem dX0_seenThrough_12 : decode cX0_seenThrough 12 = .ok (.iload_n 1, 1) := by decide +kernel
theorem dX0_seenThrough_13 : decode cX0_seenThrough 13 = .ok (.aload_n 0, 1) := by decide +kernel
theorem dX0_seenThrough_14 : decode cX0_seenThrough 14 = .ok (.getfield 30, 3) := by decide +kernel
theorem dX0_seenThrough_17 : decode cX0_seenThrough 17 = .ok (.iload_n 2, 1) := by decide +kernel
theorem dX0_seenThrough_18 : decode cX0_seenThrough 18 = .ok (.invokestatic 57, 3) := by decide +kernel
theorem dX0_seenThrough_21 : decode cX0_seenThrough 21 = .ok (.iadd, 1) := by decide +kernel
theorem dX0_seenThrough_22 : decode cX0_seenThrough 22 = .ok (.istore_n 1, 1) := by decide +kernel
theorem dX0_seenThrough_23 : decode cX0_seenThrough 23 = .ok (.iinc 2 1, 3) := by decide +kernel
theorem dX0_seenThrough_26 : decode cX0_seenThrough 26 = .ok (.goto (-22), 3) := by decide +kernel
theorem dX0_seenThrough_29 : decode cX0_seenThrough 29 = .ok (.iload_n 1, 1) := by decide +kernel
theorem dX0_seenThrough_30 : decode cX0_seenThrough 30 = .ok (.ireturn, 1) := by decide +kernel
theorem dX1_init_0 : decode cX1_init 0 = .ok (.aload_n 0, 1) := by decide +kernel
theorem dX1_init_1 : decode cX1_init 1 = .ok (.invokespecial 3, 3) := by decide +kernel
theorem dX1_init_4 : decode cX1_init 4 = .ok (.aload_n 0, 1) := by decide +kernel
theorem dX1_init_5 : decode cX1_init 5 = .ok (.bipush 12, 2) := by decide +kernel
theorem dX1_init_7 : decode cX1_init 7 = .ok (.newarray .int, 2) := by decide +kernel
theorem dX1_init_9 : decode cX1_init 9 = .ok (.putfield 9, 3) := by decide +kernel
theorem dX1_init_12 : decode cX1_init 12 = .ok (.aload_n 0, 1) := by decide +kernel
theorem dX1_init_13 : decode cX1_init 13 = .ok (.bipush 24, 2) := by decide +kernel
theorem dX1_init_15 : decode cX1_init 15 = .ok (.newarray .int, 2) := by decide +kernel
theorem dX1_init_17 : decode cX1_init 17 = .ok (.putfield 15, 3) := by decide +kernel
theorem dX1_init_20 : decode cX1_init 20 = .ok (.aload_n 0, 1) := by decide +kernel
theorem dX1_init_21 : decode cX1_init 21 = .ok (.bipush 12, 2) := by decide +kernel
theorem dX1_init_23 : decode cX1_init 23 = .ok (.newarray .int, 2) := by decide +kernel
theorem dX1_init_25 : decode cX1_init 25 = .ok (.putfield 18, 3) := by decide +kernel
theorem dX1_init_28 : decode cX1_init 28 = .ok (.return_, 1) := by decide +kernel
theorem dX1_listen_0 : decode cX1_listen 0 = .ok (.aload_n 0, 1) := by decide +kernel
theorem dX1_listen_1 : decode cX1_listen 1 = .ok (.iconst 0, 1) := by decide +kernel
theorem dX1_listen_2 : decode cX1_listen 2 = .ok (.putfield 21, 3) := by decide +kernel
theorem dX1_listen_5 : decode cX1_listen 5 = .ok (.iconst 0, 1) := by decide +kernel
theorem dX1_listen_6 : decode cX1_listen 6 = .ok (.istore 4, 2) := by decide +kernel
theorem dX1_listen_8 : decode cX1_listen 8 = .ok (.iload 4, 2) := by decide +kernel
theorem dX1_listen_10 : decode cX1_listen 10 = .ok (.aload_n 2, 1) := by decide +kernel
theorem dX1_listen_11 : decode cX1_listen 11 = .ok (.getfield 25, 3) := by decide +kernel
theorem dX1_listen_14 : decode cX1_listen 14 = .ok (.if_icmp .ge 56, 3) := by decide +kernel
theorem dX1_listen_17 : decode cX1_listen 17 = .ok (.aload_n 2, 1) := by decide +kernel
theorem dX1_listen_18 : decode cX1_listen 18 = .ok (.getfield 30, 3) := by decide +kernel
theorem dX1_listen_21 : decode cX1_listen 21 = .ok (.iload 4, 2) := by decide +kernel
theorem dX1_listen_23 : decode cX1_listen 23 = .ok (.invokestatic 33, 3) := by decide +kernel
theorem dX1_listen_26 : decode cX1_listen 26 = .ok (.iload_n 3, 1) := by decide +kernel
theorem dX1_listen_27 : decode cX1_listen 27 = .ok (.if_icmp .ne 37, 3) := by decide +kernel
theorem dX1_listen_30 : decode cX1_listen 30 = .ok (.aload_n 0, 1) := by decide +kernel
theorem dX1_listen_31 : decode cX1_listen 31 = .ok (.getfield 9, 3) := by decide +kernel
theorem dX1_listen_34 : decode cX1_listen 34 = .ok (.aload_n 0, 1) := by decide +kernel
theorem dX1_listen_35 : decode cX1_listen 35 = .ok (.getfield 21, 3) := by decide +kernel
theorem dX1_listen_38 : decode cX1_listen 38 = .ok (.aload_n 1, 1) := by decide +kernel
theorem dX1_listen_39 : decode cX1_listen 39 = .ok (.aload_n 2, 1) := by decide +kernel
theorem dX1_listen_40 : decode cX1_listen 40 = .ok (.getfield 37, 3) := by decide +kernel
theorem dX1_listen_43 : decode cX1_listen 43 = .ok (.iload 4, 2) := by decide +kernel
theorem dX1_listen_45 : decode cX1_listen 45 = .ok (.invokestatic 33, 3) := by decide +kernel
theorem dX1_listen_48 : decode cX1_listen 48 = .ok (.invokevirtual 40, 3) := by decide +kernel
theorem dX1_listen_51 : decode cX1_listen 51 = .ok (.invokestatic 46, 3) := by decide +kernel
theorem dX1_listen_54 : decode cX1_listen 54 = .ok (.aload_n 0, 1) := by decide +kernel
theorem dX1_listen_55 : decode cX1_listen 55 = .ok (.dup, 1) := by decide +kernel
theorem dX1_listen_56 : decode cX1_listen 56 = .ok (.getfield 21, 3) := by decide +kernel
theorem dX1_listen_59 : decode cX1_listen 59 = .ok (.iconst 1, 1) := by decide +kernel
theorem dX1_listen_60 : decode cX1_listen 60 = .ok (.iadd, 1) := by decide +kernel
theorem dX1_listen_61 : decode cX1_listen 61 = .ok (.putfield 21, 3) := by decide +kernel
theorem dX1_listen_64 : decode cX1_listen 64 = .ok (.iinc 4 1, 3) := by decide +kernel
theorem dX1_listen_67 : decode cX1_listen 67 = .ok (.goto (-59), 3) := by decide +kernel
theorem dX1_listen_70 : decode cX1_listen 70 = .ok (.iconst 0, 1) := by decide +kernel
theorem dX1_listen_71 : decode cX1_listen 71 = .ok (.istore 4, 2) := by decide +kernel
theorem dX1_listen_73 : decode cX1_listen 73 = .ok (.iload 4, 2) := by decide +kernel
theorem dX1_listen_75 : decode cX1_listen 75 = .ok (.aload_n 0, 1) := by decide +kernel
theorem dX1_listen_76 : decode cX1_listen 76 = .ok (.getfield 15, 3) := by decide +kernel
theorem dX1_listen_79 : decode cX1_listen 79 = .ok (.arraylength, 1) := by decide +kernel
theorem dX1_listen_80 : decode cX1_listen 80 = .ok (.if_icmp .ge 22, 3) := by decide +kernel
theorem dX1_listen_83 : decode cX1_listen 83 = .ok (.aload_n 0, 1) := by decide +kernel
theorem dX1_listen_84 : decode cX1_listen 84 = .ok (.getfield 15, 3) := by decide +kernel
theorem dX1_listen_87 : decode cX1_listen 87 = .ok (.iload 4, 2) := by decide +kernel
theorem dX1_listen_89 : decode cX1_listen 89 = .ok (.aload_n 0, 1) := by decide +kernel
theorem dX1_listen_90 : decode cX1_listen 90 = .ok (.iload 4, 2) := by decide +kernel
theorem dX1_listen_92 : decode cX1_listen 92 = .ok (.invokevirtual 50, 3) := by decide +kernel
theorem dX1_listen_95 : decode cX1_listen 95 = .ok (.iastore, 1) := by decide +kernel
theorem dX1_listen_96 : decode cX1_listen 96 = .ok (.iinc 4 1, 3) := by decide +kernel
theorem dX1_listen_99 : decode cX1_listen 99 = .ok (.goto (-26), 3) := by decide +kernel
theorem dX1_listen_102 : decode cX1_listen 102 = .ok (.return_, 1) := by decide +kernel
theorem dX1_haversOf_0 : decode cX1_haversOf 0 = .ok (.iconst 0, 1) := by decide +kernel
theorem dX1_haversOf_1 : decode cX1_haversOf 1 = .ok (.istore_n 2, 1) := by decide +kernel
theorem dX1_haversOf_2 : decode cX1_haversOf 2 = .ok (.iconst 0, 1) := by decide +kernel
theorem dX1_haversOf_3 : decode cX1_haversOf 3 = .ok (.istore_n 3, 1) := by decide +kernel
theorem dX1_haversOf_4 : decode cX1_haversOf 4 = .ok (.iload_n 3, 1) := by decide +kernel
theorem dX1_haversOf_5 : decode cX1_haversOf 5 = .ok (.aload_n 0, 1) := by decide +kernel
theorem dX1_haversOf_6 : decode cX1_haversOf 6 = .ok (.getfield 21, 3) := by decide +kernel
theorem dX1_haversOf_9 : decode cX1_haversOf 9 = .ok (.if_icmp .ge 26, 3) := by decide +kernel
theorem dX1_haversOf_12 : decode cX1_haversOf 12 = .ok (.iload_n 2, 1) := by decide +kernel
theorem dX1_haversOf_13 : decode cX1_haversOf 13 = .ok (.aload_n 0, 1) := by decide +kernel
theorem dX1_haversOf_14 : decode cX1_haversOf 14 = .ok (.getfield 9, 3) := by decide +kernel
theorem dX1_haversOf_17 : decode cX1_haversOf 17 = .ok (.iload_n 3, 1) := by decide +kernel
theorem dX1_haversOf_18 : decode cX1_haversOf 18 = .ok (.invokestatic 33, 3) := by decide +kernel
theorem dX1_haversOf_21 : decode cX1_haversOf 21 = .ok (.iload_n 1, 1) := by decide +kernel
theorem dX1_haversOf_22 : decode cX1_haversOf 22 = .ok (.ishr, 1) := by decide +kernel
theorem dX1_haversOf_23 : decode cX1_haversOf 23 = .ok (.iconst 1, 1) := by decide +kernel
theorem dX1_haversOf_24 : decode cX1_haversOf 24 = .ok (.iand, 1) := by decide +kernel
theorem dX1_haversOf_25 : decode cX1_haversOf 25 = .ok (.iload_n 3, 1) := by decide +kernel
theorem dX1_haversOf_26 : decode cX1_haversOf 26 = .ok (.ishl, 1) := by decide +kernel
theorem dX1_haversOf_27 : decode cX1_haversOf 27 = .ok (.ior, 1) := by decide +kernel
theorem dX1_haversOf_28 : decode cX1_haversOf 28 = .ok (.istore_n 2, 1) := by decide +kernel
theorem dX1_haversOf_29 : decode cX1_haversOf 29 = .ok (.iinc 3 1, 3) := by decide +kernel
theorem dX1_haversOf_32 : decode cX1_haversOf 32 = .ok (.goto (-28), 3) := by decide +kernel
theorem dX1_haversOf_35 : decode cX1_haversOf 35 = .ok (.iload_n 2, 1) := by decide +kernel
theorem dX1_haversOf_36 : decode cX1_haversOf 36 = .ok (.ireturn, 1) := by decide +kernel
theorem dX1_allHeard_0 : decode cX1_allHeard 0 = .ok (.iconst 1, 1) := by decide +kernel
theorem dX1_allHeard_1 : decode cX1_allHeard 1 = .ok (.aload_n 0, 1) := by decide +kernel
theorem dX1_allHeard_2 : decode cX1_allHeard 2 = .ok (.getfield 21, 3) := by decide +kernel
theorem dX1_allHeard_5 : decode cX1_allHeard 5 = .ok (.ishl, 1) := by decide +kernel
theorem dX1_allHeard_6 : decode cX1_allHeard 6 = .ok (.iconst 1, 1) := by decide +kernel
theorem dX1_allHeard_7 : decode cX1_allHeard 7 = .ok (.isub, 1) := by decide +kernel
theorem dX1_allHeard_8 : decode cX1_allHeard 8 = .ok (.ireturn, 1) := by decide +kernel
theorem dX1_fewestTeeth_0 : decode cX1_fewestTeeth 0 = .ok (.iconst 0, 1) := by decide +kernel
theorem dX1_fewestTeeth_1 : decode cX1_fewestTeeth 1 = .ok (.istore_n 1, 1) := by decide +kernel
theorem dX1_fewestTeeth_2 : decode cX1_fewestTeeth 2 = .ok (.iload_n 1, 1) := by decide +kernel
theorem dX1_fewestTeeth_3 : decode cX1_fewestTeeth 3 = .ok (.bipush 8, 2) := by decide +kernel
theorem dX1_fewestTeeth_5 : decode cX1_fewestTeeth 5 = .ok (.if_icmp .ge 22, 3) := by decide +kernel
theorem dX1_fewestTeeth_8 : decode cX1_fewestTeeth 8 = .ok (.aload_n 0, 1) := by decide +kernel
theorem dX1_fewestTeeth_9 : decode cX1_fewestTeeth 9 = .ok (.aload_n 0, 1) := by decide +kernel
theorem dX1_fewestTeeth_10 : decode cX1_fewestTeeth 10 = .ok (.invokevirtual 53, 3) := by decide +kernel
theorem dX1_fewestTeeth_13 : decode cX1_fewestTeeth 13 = .ok (.iconst 0, 1) := by decide +kernel
theorem dX1_fewestTeeth_14 : decode cX1_fewestTeeth 14 = .ok (.iload_n 1, 1) := by decide +kernel
theorem dX1_fewestTeeth_15 : decode cX1_fewestTeeth 15 = .ok (.invokestatic 57, 3) := by decide +kernel
theorem dX1_fewestTeeth_18 : decode cX1_fewestTeeth 18 = .ok (.ifCond .ne 9, 3) := by decide +kernel
theorem dX1_fewestTeeth_21 : decode cX1_fewestTeeth 21 = .ok (.iinc 1 1, 3) := by decide +kernel
theorem dX1_fewestTeeth_24 : decode cX1_fewestTeeth 24 = .ok (.goto (-22), 3) := by decide +kernel
theorem dX1_fewestTeeth_27 : decode cX1_fewestTeeth 27 = .ok (.iload_n 1, 1) := by decide +kernel
theorem dX1_fewestTeeth_28 : decode cX1_fewestTeeth 28 = .ok (.ireturn, 1) := by decide +kernel
theorem dX1_slotOfFewest_0 : decode cX1_slotOfFewest 0 = .ok (.aload_n 0, 1) := by decide +kernel
theorem dX1_slotOfFewest_1 : decode cX1_slotOfFewest 1 = .ok (.invokevirtual 53, 3) := by decide +kernel
theorem dX1_slotOfFewest_4 : decode cX1_slotOfFewest 4 = .ok (.istore_n 3, 1) := by decide +kernel
theorem dX1_slotOfFewest_5 : decode cX1_slotOfFewest 5 = .ok (.iconst 0, 1) := by decide +kernel
theorem dX1_slotOfFewest_6 : decode cX1_slotOfFewest 6 = .ok (.istore 4, 2) := by decide +kernel
theorem dX1_slotOfFewest_8 : decode cX1_slotOfFewest 8 = .ok (.iconst 0, 1) := by decide +kernel
theorem dX1_slotOfFewest_9 : decode cX1_slotOfFewest 9 = .ok (.istore 5, 2) := by decide +kernel
theorem dX1_slotOfFewest_11 : decode cX1_slotOfFewest 11 = .ok (.iload 5, 2) := by decide +kernel
theorem dX1_slotOfFewest_13 : decode cX1_slotOfFewest 13 = .ok (.bipush 24, 2) := by decide +kernel
theorem dX1_slotOfFewest_15 : decode cX1_slotOfFewest 15 = .ok (.if_icmp .ge 58, 3) := by decide +kernel
theorem dX1_slotOfFewest_18 : decode cX1_slotOfFewest 18 = .ok (.iload_n 3, 1) := by decide +kernel
theorem dX1_slotOfFewest_19 : decode cX1_slotOfFewest 19 = .ok (.aload_n 0, 1) := by decide +kernel
theorem dX1_slotOfFewest_20 : decode cX1_slotOfFewest 20 = .ok (.getfield 15, 3) := by decide +kernel
theorem dX1_slotOfFewest_23 : decode cX1_slotOfFewest 23 = .ok (.iload 5, 2) := by decide +kernel
theorem dX1_slotOfFewest_25 : decode cX1_slotOfFewest 25 = .ok (.invokestatic 33, 3) := by decide +kernel
theorem dX1_slotOfFewest_28 : decode cX1_slotOfFewest 28 = .ok (.iconst (-1), 1) := by decide +kernel
theorem dX1_slotOfFewest_29 : decode cX1_slotOfFewest 29 = .ok (.ixor, 1) := by decide +kernel
theorem dX1_slotOfFewest_30 : decode cX1_slotOfFewest 30 = .ok (.iand, 1) := by decide +kernel
theorem dX1_slotOfFewest_31 : decode cX1_slotOfFewest 31 = .ok (.istore 6, 2) := by decide +kernel
theorem dX1_slotOfFewest_33 : decode cX1_slotOfFewest 33 = .ok (.aload_n 0, 1) := by decide +kernel
theorem dX1_slotOfFewest_34 : decode cX1_slotOfFewest 34 = .ok (.iload 6, 2) := by decide +kernel
theorem dX1_slotOfFewest_36 : decode cX1_slotOfFewest 36 = .ok (.iload 5, 2) := by decide +kernel
theorem dX1_slotOfFewest_38 : decode cX1_slotOfFewest 38 = .ok (.iconst 1, 1) := by decide +kernel
theorem dX1_slotOfFewest_39 : decode cX1_slotOfFewest 39 = .ok (.iadd, 1) := by decide +kernel
theorem dX1_slotOfFewest_40 : decode cX1_slotOfFewest 40 = .ok (.iload_n 1, 1) := by decide +kernel
theorem dX1_slotOfFewest_41 : decode cX1_slotOfFewest 41 = .ok (.iload 4, 2) := by decide +kernel
theorem dX1_slotOfFewest_43 : decode cX1_slotOfFewest 43 = .ok (.isub, 1) := by decide +kernel
theorem dX1_slotOfFewest_44 : decode cX1_slotOfFewest 44 = .ok (.iconst 1, 1) := by decide +kernel
theorem dX1_slotOfFewest_45 : decode cX1_slotOfFewest 45 = .ok (.isub, 1) := by decide +kernel
theorem dX1_slotOfFewest_46 : decode cX1_slotOfFewest 46 = .ok (.invokestatic 57, 3) := by decide +kernel
theorem dX1_slotOfFewest_49 : decode cX1_slotOfFewest 49 = .ok (.ifCond .eq 18, 3) := by decide +kernel
theorem dX1_slotOfFewest_52 : decode cX1_slotOfFewest 52 = .ok (.iload 4, 2) := by decide +kernel
theorem dX1_slotOfFewest_54 : decode cX1_slotOfFewest 54 = .ok (.iload_n 2, 1) := by decide +kernel
theorem dX1_slotOfFewest_55 : decode cX1_slotOfFewest 55 = .ok (.if_icmp .ne 6, 3) := by decide +kernel
theorem dX1_slotOfFewest_58 : decode cX1_slotOfFewest 58 = .ok (.iload 5, 2) := by decide +kernel
theorem dX1_slotOfFewest_60 : decode cX1_slotOfFewest 60 = .ok (.ireturn, 1) := by decide +kernel
theorem dX1_slotOfFewest_61 : decode cX1_slotOfFewest 61 = .ok (.iload 6, 2) := by decide +kernel
theorem dX1_slotOfFewest_63 : decode cX1_slotOfFewest 63 = .ok (.istore_n 3, 1) := by decide +kernel
theorem dX1_slotOfFewest_64 : decode cX1_slotOfFewest 64 = .ok (.iinc 4 1, 3) := by decide +kernel
theorem dX1_slotOfFewest_67 : decode cX1_slotOfFewest 67 = .ok (.iinc 5 1, 3) := by decide +kernel
theorem dX1_slotOfFewest_70 : decode cX1_slotOfFewest 70 = .ok (.goto (-59), 3) := by decide +kernel
theorem dX1_slotOfFewest_73 : decode cX1_slotOfFewest 73 = .ok (.iconst 0, 1) := by decide +kernel
theorem dX1_slotOfFewest_74 : decode cX1_slotOfFewest 74 = .ok (.ireturn, 1) := by decide +kernel
theorem dX1_canCover_0 : decode cX1_canCover 0 = .ok (.iload_n 1, 1) := by decide +kernel
theorem dX1_canCover_1 : decode cX1_canCover 1 = .ok (.ifCond .eq 7, 3) := by decide +kernel
theorem dX1_canCover_4 : decode cX1_canCover 4 = .ok (.iload_n 3, 1) := by decide +kernel
theorem dX1_canCover_5 : decode cX1_canCover 5 = .ok (.ifCond .gt 17, 3) := by decide +kernel
theorem dX1_canCover_8 : decode cX1_canCover 8 = .ok (.iload_n 1, 1) := by decide +kernel
theorem dX1_canCover_9 : decode cX1_canCover 9 = .ok (.ifCond .ne 11, 3) := by decide +kernel
theorem dX1_canCover_12 : decode cX1_canCover 12 = .ok (.iload_n 3, 1) := by decide +kernel
theorem dX1_canCover_13 : decode cX1_canCover 13 = .ok (.ifCond .lt 7, 3) := by decide +kernel
theorem dX1_canCover_16 : decode cX1_canCover 16 = .ok (.iconst 1, 1) := by decide +kernel
theorem dX1_canCover_17 : decode cX1_canCover 17 = .ok (.goto 4, 3) := by decide +kernel
theorem dX1_canCover_20 : decode cX1_canCover 20 = .ok (.iconst 0, 1) := by decide +kernel
theorem dX1_canCover_21 : decode cX1_canCover 21 = .ok (.ireturn, 1) := by decide +kernel
theorem dX1_canCover_22 : decode cX1_canCover 22 = .ok (.aload_n 0, 1) := by decide +kernel
theorem dX1_canCover_23 : decode cX1_canCover 23 = .ok (.getfield 9, 3) := by decide +kernel
theorem dX1_canCover_26 : decode cX1_canCover 26 = .ok (.iload_n 1, 1) := by decide +kernel
theorem dX1_canCover_27 : decode cX1_canCover 27 = .ok (.invokestatic 61, 3) := by decide +kernel
theorem dX1_canCover_30 : decode cX1_canCover 30 = .ok (.invokestatic 33, 3) := by decide +kernel
theorem dX1_canCover_33 : decode cX1_canCover 33 = .ok (.istore 4, 2) := by decide +kernel
theorem dX1_canCover_35 : decode cX1_canCover 35 = .ok (.iload_n 2, 1) := by decide +kernel
theorem dX1_canCover_36 : decode cX1_canCover 36 = .ok (.istore 5, 2) := by decide +kernel
theorem dX1_canCover_38 : decode cX1_canCover 38 = .ok (.iload 5, 2) := by decide +kernel
theorem dX1_canCover_40 : decode cX1_canCover 40 = .ok (.bipush 24, 2) := by decide +kernel
theorem dX1_canCover_42 : decode cX1_canCover 42 = .ok (.if_icmp .ge 45, 3) := by decide +kernel
theorem dX1_canCover_45 : decode cX1_canCover 45 = .ok (.iload 4, 2) := by decide +kernel
theorem dX1_canCover_47 : decode cX1_canCover 47 = .ok (.iload 5, 2) := by decide +kernel
theorem dX1_canCover_49 : decode cX1_canCover 49 = .ok (.ishr, 1) := by decide +kernel
theorem dX1_canCover_50 : decode cX1_canCover 50 = .ok (.iconst 1, 1) := by decide +kernel
theorem dX1_canCover_51 : decode cX1_canCover 51 = .ok (.iand, 1) := by decide +kernel
theorem dX1_canCover_52 : decode cX1_canCover 52 = .ok (.ifCond .eq 29, 3) := by decide +kernel
theorem dX1_canCover_55 : decode cX1_canCover 55 = .ok (.aload_n 0, 1) := by decide +kernel
theorem dX1_canCover_56 : decode cX1_canCover 56 = .ok (.iload_n 1, 1) := by decide +kernel
theorem dX1_canCover_57 : decode cX1_canCover 57 = .ok (.aload_n 0, 1) := by decide +kernel
theorem dX1_canCover_58 : decode cX1_canCover 58 = .ok (.getfield 15, 3) := by decide +kernel
theorem dX1_canCover_61 : decode cX1_canCover 61 = .ok (.iload 5, 2) := by decide +kernel
theorem dX1_canCover_63 : decode cX1_canCover 63 = .ok (.invokestatic 33, 3) := by decide +kernel
theorem dX1_canCover_66 : decode cX1_canCover 66 = .ok (.iconst (-1), 1) := by decide +kernel
theorem dX1_canCover_67 : decode cX1_canCover 67 = .ok (.ixor, 1) := by decide +kernel
theorem dX1_canCover_68 : decode cX1_canCover 68 = .ok (.iand, 1) := by decide +kernel
theorem dX1_canCover_69 : decode cX1_canCover 69 = .ok (.iload_n 2, 1) := by decide +kernel
theorem dX1_canCover_70 : decode cX1_canCover 70 = .ok (.iload_n 3, 1) := by decide +kernel
theorem dX1_canCover_71 : decode cX1_canCover 71 = .ok (.iconst 1, 1) := by decide +kernel
theorem dX1_canCover_72 : decode cX1_canCover 72 = .ok (.isub, 1) := by decide +kernel
theorem dX1_canCover_73 : decode cX1_canCover 73 = .ok (.invokestatic 57, 3) := by decide +kernel
theorem dX1_canCover_76 : decode cX1_canCover 76 = .ok (.ifCond .eq 5, 3) := by decide +kernel
theorem dX1_canCover_79 : decode cX1_canCover 79 = .ok (.iconst 1, 1) := by decide +kernel
theorem dX1_canCover_80 : decode cX1_canCover 80 = .ok (.ireturn, 1) := by decide +kernel
theorem dX1_canCover_81 : decode cX1_canCover 81 = .ok (.iinc 5 1, 3) := by decide +kernel
theorem dX1_canCover_84 : decode cX1_canCover 84 = .ok (.goto (-46), 3) := by decide +kernel
theorem dX1_canCover_87 : decode cX1_canCover 87 = .ok (.iconst 0, 1) := by decide +kernel
theorem dX1_canCover_88 : decode cX1_canCover 88 = .ok (.ireturn, 1) := by decide +kernel
theorem dX1_mostTogether_0 : decode cX1_mostTogether 0 = .ok (.iconst 0, 1) := by decide +kernel
theorem dX1_mostTogether_1 : decode cX1_mostTogether 1 = .ok (.istore_n 1, 1) := by decide +kernel
theorem dX1_mostTogether_2 : decode cX1_mostTogether 2 = .ok (.iload_n 1, 1) := by decide +kernel
theorem dX1_mostTogether_3 : decode cX1_mostTogether 3 = .ok (.aload_n 0, 1) := by decide +kernel
theorem dX1_mostTogether_4 : decode cX1_mostTogether 4 = .ok (.getfield 21, 3) := by decide +kernel
theorem dX1_mostTogether_7 : decode cX1_mostTogether 7 = .ok (.if_icmp .ge 22, 3) := by decide +kernel
theorem dX1_mostTogether_10 : decode cX1_mostTogether 10 = .ok (.aload_n 0, 1) := by decide +kernel
theorem dX1_mostTogether_11 : decode cX1_mostTogether 11 = .ok (.getfield 18, 3) := by decide +kernel
theorem dX1_mostTogether_14 : decode cX1_mostTogether 14 = .ok (.iload_n 1, 1) := by decide +kernel
theorem dX1_mostTogether_15 : decode cX1_mostTogether 15 = .ok (.aload_n 0, 1) := by decide +kernel
theorem dX1_mostTogether_16 : decode cX1_mostTogether 16 = .ok (.iload_n 1, 1) := by decide +kernel
theorem dX1_mostTogether_17 : decode cX1_mostTogether 17 = .ok (.invokevirtual 64, 3) := by decide +kernel
theorem dX1_mostTogether_20 : decode cX1_mostTogether 20 = .ok (.invokestatic 46, 3) := by decide +kernel
theorem dX1_mostTogether_23 : decode cX1_mostTogether 23 = .ok (.iinc 1 1, 3) := by decide +kernel
theorem dX1_mostTogether_26 : decode cX1_mostTogether 26 = .ok (.goto (-24), 3) := by decide +kernel
theorem dX1_mostTogether_29 : decode cX1_mostTogether 29 = .ok (.aload_n 0, 1) := by decide +kernel
theorem dX1_mostTogether_30 : decode cX1_mostTogether 30 = .ok (.getfield 18, 3) := by decide +kernel
theorem dX1_mostTogether_33 : decode cX1_mostTogether 33 = .ok (.aload_n 0, 1) := by decide +kernel
theorem dX1_mostTogether_34 : decode cX1_mostTogether 34 = .ok (.invokevirtual 53, 3) := by decide +kernel
theorem dX1_mostTogether_37 : decode cX1_mostTogether 37 = .ok (.bipush 12, 2) := by decide +kernel
theorem dX1_mostTogether_39 : decode cX1_mostTogether 39 = .ok (.invokestatic 67, 3) := by decide +kernel
theorem dX1_mostTogether_42 : decode cX1_mostTogether 42 = .ok (.ireturn, 1) := by decide +kernel
theorem dX1_rivalsOf_0 : decode cX1_rivalsOf 0 = .ok (.iconst 0, 1) := by decide +kernel
theorem dX1_rivalsOf_1 : decode cX1_rivalsOf 1 = .ok (.istore_n 2, 1) := by decide +kernel
theorem dX1_rivalsOf_2 : decode cX1_rivalsOf 2 = .ok (.iconst 0, 1) := by decide +kernel
theorem dX1_rivalsOf_3 : decode cX1_rivalsOf 3 = .ok (.istore_n 3, 1) := by decide +kernel
theorem dX1_rivalsOf_4 : decode cX1_rivalsOf 4 = .ok (.iload_n 3, 1) := by decide +kernel
theorem dX1_rivalsOf_5 : decode cX1_rivalsOf 5 = .ok (.aload_n 0, 1) := by decide +kernel
theorem dX1_rivalsOf_6 : decode cX1_rivalsOf 6 = .ok (.getfield 21, 3) := by decide +kernel
theorem dX1_rivalsOf_9 : decode cX1_rivalsOf 9 = .ok (.if_icmp .ge 55, 3) := by decide +kernel
theorem dX1_rivalsOf_12 : decode cX1_rivalsOf 12 = .ok (.aload_n 0, 1) := by decide +kernel
theorem dX1_rivalsOf_13 : decode cX1_rivalsOf 13 = .ok (.getfield 9, 3) := by decide +kernel
theorem dX1_rivalsOf_16 : decode cX1_rivalsOf 16 = .ok (.iload_n 3, 1) := by decide +kernel
theorem dX1_rivalsOf_17 : decode cX1_rivalsOf 17 = .ok (.invokestatic 33, 3) := by decide +kernel
theorem dX1_rivalsOf_20 : decode cX1_rivalsOf 20 = .ok (.aload_n 0, 1) := by decide +kernel
theorem dX1_rivalsOf_21 : decode cX1_rivalsOf 21 = .ok (.getfield 9, 3) := by decide +kernel
theorem dX1_rivalsOf_24 : decode cX1_rivalsOf 24 = .ok (.iload_n 1, 1) := by decide +kernel
theorem dX1_rivalsOf_25 : decode cX1_rivalsOf 25 = .ok (.invokestatic 33, 3) := by decide +kernel
theorem dX1_rivalsOf_28 : decode cX1_rivalsOf 28 = .ok (.iand, 1) := by decide +kernel
theorem dX1_rivalsOf_29 : decode cX1_rivalsOf 29 = .ok (.istore 4, 2) := by decide +kernel
theorem dX1_rivalsOf_31 : decode cX1_rivalsOf 31 = .ok (.iload_n 3, 1) := by decide +kernel
theorem dX1_rivalsOf_32 : decode cX1_rivalsOf 32 = .ok (.iload_n 1, 1) := by decide +kernel
theorem dX1_rivalsOf_33 : decode cX1_rivalsOf 33 = .ok (.if_icmp .eq 25, 3) := by decide +kernel
theorem dX1_rivalsOf_36 : decode cX1_rivalsOf 36 = .ok (.iload 4, 2) := by decide +kernel
theorem dX1_rivalsOf_38 : decode cX1_rivalsOf 38 = .ok (.bipush 63, 2) := by decide +kernel
theorem dX1_rivalsOf_40 : decode cX1_rivalsOf 40 = .ok (.iand, 1) := by decide +kernel
theorem dX1_rivalsOf_41 : decode cX1_rivalsOf 41 = .ok (.ifCond .eq 17, 3) := by decide +kernel
theorem dX1_rivalsOf_44 : decode cX1_rivalsOf 44 = .ok (.iload 4, 2) := by decide +kernel
theorem dX1_rivalsOf_46 : decode cX1_rivalsOf 46 = .ok (.bipush (-64), 2) := by decide +kernel
theorem dX1_rivalsOf_48 : decode cX1_rivalsOf 48 = .ok (.iand, 1) := by decide +kernel
theorem dX1_rivalsOf_49 : decode cX1_rivalsOf 49 = .ok (.ifCond .ne 9, 3) := by decide +kernel
theorem dX1_rivalsOf_52 : decode cX1_rivalsOf 52 = .ok (.iload_n 2, 1) := by decide +kernel
theorem dX1_rivalsOf_53 : decode cX1_rivalsOf 53 = .ok (.iconst 1, 1) := by decide +kernel
theorem dX1_rivalsOf_54 : decode cX1_rivalsOf 54 = .ok (.iload_n 3, 1) := by decide +kernel
theorem dX1_rivalsOf_55 : decode cX1_rivalsOf 55 = .ok (.ishl, 1) := by decide +kernel
theorem dX1_rivalsOf_56 : decode cX1_rivalsOf 56 = .ok (.ior, 1) := by decide +kernel
theorem dX1_rivalsOf_57 : decode cX1_rivalsOf 57 = .ok (.istore_n 2, 1) := by decide +kernel
theorem dX1_rivalsOf_58 : decode cX1_rivalsOf 58 = .ok (.iinc 3 1, 3) := by decide +kernel
theorem dX1_rivalsOf_61 : decode cX1_rivalsOf 61 = .ok (.goto (-57), 3) := by decide +kernel
theorem dX1_rivalsOf_64 : decode cX1_rivalsOf 64 = .ok (.iload_n 2, 1) := by decide +kernel
theorem dX1_rivalsOf_65 : decode cX1_rivalsOf 65 = .ok (.ireturn, 1) := by decide +kernel
theorem dX1_mostOf_0 : decode cX1_mostOf 0 = .ok (.iload_n 1, 1) := by decide +kernel
theorem dX1_mostOf_1 : decode cX1_mostOf 1 = .ok (.ifCond .eq 7, 3) := by decide +kernel
theorem dX1_mostOf_4 : decode cX1_mostOf 4 = .ok (.iload_n 2, 1) := by decide +kernel
theorem dX1_mostOf_5 : decode cX1_mostOf 5 = .ok (.ifCond .gt 5, 3) := by decide +kernel
theorem dX1_mostOf_8 : decode cX1_mostOf 8 = .ok (.iconst 0, 1) := by decide +kernel
theorem dX1_mostOf_9 : decode cX1_mostOf 9 = .ok (.ireturn, 1) := by decide +kernel
theorem dX1_mostOf_10 : decode cX1_mostOf 10 = .ok (.iload_n 1, 1) := by decide +kernel
theorem dX1_mostOf_11 : decode cX1_mostOf 11 = .ok (.invokestatic 61, 3) := by decide +kernel
theorem dX1_mostOf_14 : decode cX1_mostOf 14 = .ok (.istore_n 3, 1) := by decide +kernel
theorem dX1_mostOf_15 : decode cX1_mostOf 15 = .ok (.iload_n 1, 1) := by decide +kernel
theorem dX1_mostOf_16 : decode cX1_mostOf 16 = .ok (.iconst 1, 1) := by decide +kernel
theorem dX1_mostOf_17 : decode cX1_mostOf 17 = .ok (.iload_n 3, 1) := by decide +kernel
theorem dX1_mostOf_18 : decode cX1_mostOf 18 = .ok (.ishl, 1) := by decide +kernel
theorem dX1_mostOf_19 : decode cX1_mostOf 19 = .ok (.iconst (-1), 1) := by decide +kernel
theorem dX1_mostOf_20 : decode cX1_mostOf 20 = .ok (.ixor, 1) := by decide +kernel
theorem dX1_mostOf_21 : decode cX1_mostOf 21 = .ok (.iand, 1) := by decide +kernel
theorem dX1_mostOf_22 : decode cX1_mostOf 22 = .ok (.istore 4, 2) := by decide +kernel
theorem dX1_mostOf_24 : decode cX1_mostOf 24 = .ok (.iload 4, 2) := by decide +kernel
theorem dX1_mostOf_26 : decode cX1_mostOf 26 = .ok (.aload_n 0, 1) := by decide +kernel
theorem dX1_mostOf_27 : decode cX1_mostOf 27 = .ok (.iload_n 3, 1) := by decide +kernel
theorem dX1_mostOf_28 : decode cX1_mostOf 28 = .ok (.invokestatic 33, 3) := by decide +kernel
theorem dX1_mostOf_31 : decode cX1_mostOf 31 = .ok (.iconst (-1), 1) := by decide +kernel
theorem dX1_mostOf_32 : decode cX1_mostOf 32 = .ok (.ixor, 1) := by decide +kernel
theorem dX1_mostOf_33 : decode cX1_mostOf 33 = .ok (.iand, 1) := by decide +kernel
theorem dX1_mostOf_34 : decode cX1_mostOf 34 = .ok (.istore 5, 2) := by decide +kernel
theorem dX1_mostOf_36 : decode cX1_mostOf 36 = .ok (.iconst 1, 1) := by decide +kernel
theorem dX1_mostOf_37 : decode cX1_mostOf 37 = .ok (.aload_n 0, 1) := by decide +kernel
theorem dX1_mostOf_38 : decode cX1_mostOf 38 = .ok (.iload 5, 2) := by decide +kernel
theorem dX1_mostOf_40 : decode cX1_mostOf 40 = .ok (.iload_n 2, 1) := by decide +kernel
theorem dX1_mostOf_41 : decode cX1_mostOf 41 = .ok (.iconst 1, 1) := by decide +kernel
theorem dX1_mostOf_42 : decode cX1_mostOf 42 = .ok (.isub, 1) := by decide +kernel
theorem dX1_mostOf_43 : decode cX1_mostOf 43 = .ok (.invokestatic 67, 3) := by decide +kernel
theorem dX1_mostOf_46 : decode cX1_mostOf 46 = .ok (.iadd, 1) := by decide +kernel
theorem dX1_mostOf_47 : decode cX1_mostOf 47 = .ok (.istore 6, 2) := by decide +kernel
theorem dX1_mostOf_49 : decode cX1_mostOf 49 = .ok (.iload 5, 2) := by decide +kernel
theorem dX1_mostOf_51 : decode cX1_mostOf 51 = .ok (.iload 4, 2) := by decide +kernel
theorem dX1_mostOf_53 : decode cX1_mostOf 53 = .ok (.if_icmp .ne 8, 3) := by decide +kernel
theorem dX1_mostOf_56 : decode cX1_mostOf 56 = .ok (.iload 6, 2) := by decide +kernel
theorem dX1_mostOf_58 : decode cX1_mostOf 58 = .ok (.goto 17, 3) := by decide +kernel
theorem dX1_mostOf_61 : decode cX1_mostOf 61 = .ok (.iload 6, 2) := by decide +kernel
theorem dX1_mostOf_63 : decode cX1_mostOf 63 = .ok (.aload_n 0, 1) := by decide +kernel
theorem dX1_mostOf_64 : decode cX1_mostOf 64 = .ok (.iload 4, 2) := by decide +kernel
theorem dX1_mostOf_66 : decode cX1_mostOf 66 = .ok (.iload_n 2, 1) := by decide +kernel
theorem dX1_mostOf_67 : decode cX1_mostOf 67 = .ok (.iconst 1, 1) := by decide +kernel
theorem dX1_mostOf_68 : decode cX1_mostOf 68 = .ok (.isub, 1) := by decide +kernel
theorem dX1_mostOf_69 : decode cX1_mostOf 69 = .ok (.invokestatic 67, 3) := by decide +kernel
theorem dX1_mostOf_72 : decode cX1_mostOf 72 = .ok (.invokestatic 71, 3) := by decide +kernel
theorem dX1_mostOf_75 : decode cX1_mostOf 75 = .ok (.ireturn, 1) := by decide +kernel
theorem dX1_sharersOfFirstWheel_0 : decode cX1_sharersOfFirstWheel 0 = .ok (.iconst 0, 1) := by decide +kernel
theorem dX1_sharersOfFirstWheel_1 : decode cX1_sharersOfFirstWheel 1 = .ok (.istore_n 1, 1) := by decide +kernel
theorem dX1_sharersOfFirstWheel_2 : decode cX1_sharersOfFirstWheel 2 = .ok (.iconst 0, 1) := by decide +kernel
theorem dX1_sharersOfFirstWheel_3 : decode cX1_sharersOfFirstWheel 3 = .ok (.istore_n 2, 1) := by decide +kernel
theorem dX1_sharersOfFirstWheel_4 : decode cX1_sharersOfFirstWheel 4 = .ok (.iload_n 2, 1) := by decide +kernel
theorem dX1_sharersOfFirstWheel_5 : decode cX1_sharersOfFirstWheel 5 = .ok (.bipush 6, 2) := by decide +kernel
theorem dX1_sharersOfFirstWheel_7 : decode cX1_sharersOfFirstWheel 7 = .ok (.if_icmp .ge 38, 3) := by decide +kernel
theorem dX1_sharersOfFirstWheel_10 : decode cX1_sharersOfFirstWheel 10 = .ok (.aload_n 0, 1) := by decide +kernel
theorem dX1_sharersOfFirstWheel_11 : decode cX1_sharersOfFirstWheel 11 = .ok (.getfield 15, 3) := by decide +kernel
theorem dX1_sharersOfFirstWheel_14 : decode cX1_sharersOfFirstWheel 14 = .ok (.iconst 0, 1) := by decide +kernel
theorem dX1_sharersOfFirstWheel_15 : decode cX1_sharersOfFirstWheel 15 = .ok (.iload_n 2, 1) := by decide +kernel
theorem dX1_sharersOfFirstWheel_16 : decode cX1_sharersOfFirstWheel 16 = .ok (.invokestatic 77, 3) := by decide +kernel
theorem dX1_sharersOfFirstWheel_19 : decode cX1_sharersOfFirstWheel 19 = .ok (.invokestatic 33, 3) := by decide +kernel
theorem dX1_sharersOfFirstWheel_22 : decode cX1_sharersOfFirstWheel 22 = .ok (.invokestatic 80, 3) := by decide +kernel
theorem dX1_sharersOfFirstWheel_25 : decode cX1_sharersOfFirstWheel 25 = .ok (.istore_n 3, 1) := by decide +kernel
theorem dX1_sharersOfFirstWheel_26 : decode cX1_sharersOfFirstWheel 26 = .ok (.iload_n 1, 1) := by decide +kernel
theorem dX1_sharersOfFirstWheel_27 : decode cX1_sharersOfFirstWheel 27 = .ok (.iload_n 3, 1) := by decide +kernel
theorem dX1_sharersOfFirstWheel_28 : decode cX1_sharersOfFirstWheel 28 = .ok (.iconst 1, 1) := by decide +kernel
theorem dX1_sharersOfFirstWheel_29 : decode cX1_sharersOfFirstWheel 29 = .ok (.if_icmp .le 7, 3) := by decide +kernel
theorem dX1_sharersOfFirstWheel_32 : decode cX1_sharersOfFirstWheel 32 = .ok (.iload_n 3, 1) := by decide +kernel
theorem dX1_sharersOfFirstWheel_33 : decode cX1_sharersOfFirstWheel 33 = .ok (.goto 4, 3) := by decide +kernel
theorem dX1_sharersOfFirstWheel_36 : decode cX1_sharersOfFirstWheel 36 = .ok (.iconst 0, 1) := by decide +kernel
theorem dX1_sharersOfFirstWheel_37 : decode cX1_sharersOfFirstWheel 37 = .ok (.iadd, 1) := by decide +kernel
theorem dX1_sharersOfFirstWheel_38 : decode cX1_sharersOfFirstWheel 38 = .ok (.istore_n 1, 1) := by decide +kernel
theorem dX1_sharersOfFirstWheel_39 : decode cX1_sharersOfFirstWheel 39 = .ok (.iinc 2 1, 3) := by decide +kernel
theorem dX1_sharersOfFirstWheel_42 : decode cX1_sharersOfFirstWheel 42 = .ok (.goto (-38), 3) := by decide +kernel
theorem dX1_sharersOfFirstWheel_45 : decode cX1_sharersOfFirstWheel 45 = .ok (.iload_n 1, 1) := by decide +kernel
theorem dX1_sharersOfFirstWheel_46 : decode cX1_sharersOfFirstWheel 46 = .ok (.ireturn, 1) := by decide +kernel
theorem dX2_init_0 : decode cX2_init 0 = .ok (.aload_n 0, 1) := by decide +kernel
theorem dX2_init_1 : decode cX2_init 1 = .ok (.invokespecial 3, 3) := by decide +kernel
theorem dX2_init_4 : decode cX2_init 4 = .ok (.aload_n 0, 1) := by decide +kernel
theorem dX2_init_5 : decode cX2_init 5 = .ok (.iconst 4, 1) := by decide +kernel
theorem dX2_init_6 : decode cX2_init 6 = .ok (.newarray .int, 2) := by decide +kernel
theorem dX2_init_8 : decode cX2_init 8 = .ok (.putfield 9, 3) := by decide +kernel
theorem dX2_init_11 : decode cX2_init 11 = .ok (.aload_n 0, 1) := by decide +kernel
theorem dX2_init_12 : decode cX2_init 12 = .ok (.iconst 4, 1) := by decide +kernel
theorem dX2_init_13 : decode cX2_init 13 = .ok (.newarray .int, 2) := by decide +kernel
theorem dX2_init_15 : decode cX2_init 15 = .ok (.putfield 15, 3) := by decide +kernel
theorem dX2_init_18 : decode cX2_init 18 = .ok (.aload_n 0, 1) := by decide +kernel
theorem dX2_init_19 : decode cX2_init 19 = .ok (.iconst 4, 1) := by decide +kernel
theorem dX2_init_20 : decode cX2_init 20 = .ok (.newarray .int, 2) := by decide +kernel
theorem dX2_init_22 : decode cX2_init 22 = .ok (.putfield 18, 3) := by decide +kernel
theorem dX2_init_25 : decode cX2_init 25 = .ok (.aload_n 0, 1) := by decide +kernel
theorem dX2_init_26 : decode cX2_init 26 = .ok (.iconst 4, 1) := by decide +kernel
theorem dX2_init_27 : decode cX2_init 27 = .ok (.newarray .int, 2) := by decide +kernel
theorem dX2_init_29 : decode cX2_init 29 = .ok (.putfield 21, 3) := by decide +kernel
theorem dX2_init_32 : decode cX2_init 32 = .ok (.aload_n 0, 1) := by decide +kernel
theorem dX2_init_33 : decode cX2_init 33 = .ok (.bipush 8, 2) := by decide +kernel
theorem dX2_init_35 : decode cX2_init 35 = .ok (.newarray .int, 2) := by decide +kernel
theorem dX2_init_37 : decode cX2_init 37 = .ok (.putfield 24, 3) := by decide +kernel
theorem dX2_init_40 : decode cX2_init 40 = .ok (.aload_n 0, 1) := by decide +kernel
theorem dX2_init_41 : decode cX2_init 41 = .ok (.iconst 5, 1) := by decide +kernel
theorem dX2_init_42 : decode cX2_init 42 = .ok (.newarray .int, 2) := by decide +kernel
theorem dX2_init_44 : decode cX2_init 44 = .ok (.putfield 27, 3) := by decide +kernel
theorem dX2_init_47 : decode cX2_init 47 = .ok (.return_, 1) := by decide +kernel
theorem dX2_empty_0 : decode cX2_empty 0 = .ok (.aload_n 0, 1) := by decide +kernel
theorem dX2_empty_1 : decode cX2_empty 1 = .ok (.iconst 0, 1) := by decide +kernel
theorem dX2_empty_2 : decode cX2_empty 2 = .ok (.putfield 30, 3) := by decide +kernel
theorem dX2_empty_5 : decode cX2_empty 5 = .ok (.aload_n 0, 1) := by decide +kernel
theorem dX2_empty_6 : decode cX2_empty 6 = .ok (.iconst 0, 1) := by decide +kernel
theorem dX2_empty_7 : decode cX2_empty 7 = .ok (.putfield 34, 3) := by decide +kernel
theorem dX2_empty_10 : decode cX2_empty 10 = .ok (.aload_n 0, 1) := by decide +kernel
theorem dX2_empty_11 : decode cX2_empty 11 = .ok (.iconst 0, 1) := by decide +kernel
theorem dX2_empty_12 : decode cX2_empty 12 = .ok (.putfield 37, 3) := by decide +kernel
theorem dX2_empty_15 : decode cX2_empty 15 = .ok (.aload_n 0, 1) := by decide +kernel
theorem dX2_empty_16 : decode cX2_empty 16 = .ok (.iconst 1, 1) := by decide +kernel
theorem dX2_empty_17 : decode cX2_empty 17 = .ok (.putfield 40, 3) := by decide +kernel
theorem dX2_empty_20 : decode cX2_empty 20 = .ok (.aload_n 0, 1) := by decide +kernel
theorem dX2_empty_21 : decode cX2_empty 21 = .ok (.iconst 1, 1) := by decide +kernel
theorem dX2_empty_22 : decode cX2_empty 22 = .ok (.putfield 43, 3) := by decide +kernel
theorem dX2_empty_25 : decode cX2_empty 25 = .ok (.aload_n 0, 1) := by decide +kernel
theorem dX2_empty_26 : decode cX2_empty 26 = .ok (.bipush 60, 2) := by decide +kernel
theorem dX2_empty_28 : decode cX2_empty 28 = .ok (.putfield 46, 3) := by decide +kernel
theorem dX2_empty_31 : decode cX2_empty 31 = .ok (.return_, 1) := by decide +kernel
theorem dX2_take_0 : decode cX2_take 0 = .ok (.aload_n 2, 1) := by decide +kernel
theorem dX2_take_1 : decode cX2_take 1 = .ok (.iconst 0, 1) := by decide +kernel
theorem dX2_take_2 : decode cX2_take 2 = .ok (.invokestatic 49, 3) := by decide +kernel
theorem dX2_take_5 : decode cX2_take 5 = .ok (.istore_n 3, 1) := by decide +kernel
theorem dX2_take_6 : decode cX2_take 6 = .ok (.aload_n 2, 1) := by decide +kernel
theorem dX2_take_7 : decode cX2_take 7 = .ok (.iconst 1, 1) := by decide +kernel
theorem dX2_take_8 : decode cX2_take 8 = .ok (.invokestatic 49, 3) := by decide +kernel
theorem dX2_take_11 : decode cX2_take 11 = .ok (.istore 4, 2) := by decide +kernel
theorem dX2_take_13 : decode cX2_take 13 = .ok (.iload_n 1, 1) := by decide +kernel
theorem dX2_take_14 : decode cX2_take 14 = .ok (.tableswitch 99 111 120 #[91, 85, 99, 99, 99, 99, 99, 99, 54, 67], 54) := by decide +kernel
theorem dX2_take_68 : decode cX2_take 68 = .ok (.aload_n 0, 1) := by decide +kernel
theorem dX2_take_69 : decode cX2_take 69 = .ok (.iload_n 3, 1) := by decide +kernel
theorem dX2_take_70 : decode cX2_take 70 = .ok (.iload 4, 2) := by decide +kernel
theorem dX2_take_72 : decode cX2_take 72 = .ok (.aload_n 2, 1) := by decide +kernel
theorem dX2_take_73 : decode cX2_take 73 = .ok (.iconst 2, 1) := by decide +kernel
theorem dX2_take_74 : decode cX2_take 74 = .ok (.invokestatic 49, 3) := by decide +kernel
theorem dX2_take_77 : decode cX2_take 77 = .ok (.invokevirtual 53, 3) := by decide +kernel
theorem dX2_take_80 : decode cX2_take 80 = .ok (.ireturn, 1) := by decide +kernel
theorem dX2_take_81 : decode cX2_take 81 = .ok (.aload_n 0, 1) := by decide +kernel
theorem dX2_take_82 : decode cX2_take 82 = .ok (.iload_n 3, 1) := by decide +kernel
theorem dX2_take_83 : decode cX2_take 83 = .ok (.iload 4, 2) := by decide +kernel
theorem dX2_take_85 : decode cX2_take 85 = .ok (.aload_n 2, 1) := by decide +kernel
theorem dX2_take_86 : decode cX2_take 86 = .ok (.iconst 2, 1) := by decide +kernel
theorem dX2_take_87 : decode cX2_take 87 = .ok (.invokestatic 49, 3) := by decide +kernel
theorem dX2_take_90 : decode cX2_take 90 = .ok (.aload_n 2, 1) := by decide +kernel
theorem dX2_take_91 : decode cX2_take 91 = .ok (.iconst 3, 1) := by decide +kernel
theorem dX2_take_92 : decode cX2_take 92 = .ok (.invokestatic 49, 3) := by decide +kernel
theorem dX2_take_95 : decode cX2_take 95 = .ok (.invokevirtual 57, 3) := by decide +kernel
theorem dX2_take_98 : decode cX2_take 98 = .ok (.ireturn, 1) := by decide +kernel
theorem dX2_take_99 : decode cX2_take 99 = .ok (.aload_n 0, 1) := by decide +kernel
theorem dX2_take_100 : decode cX2_take 100 = .ok (.iload_n 3, 1) := by decide +kernel
theorem dX2_take_101 : decode cX2_take 101 = .ok (.invokevirtual 61, 3) := by decide +kernel
theorem dX2_take_104 : decode cX2_take 104 = .ok (.ireturn, 1) := by decide +kernel
theorem dX2_take_105 : decode cX2_take 105 = .ok (.aload_n 0, 1) := by decide +kernel
theorem dX2_take_106 : decode cX2_take 106 = .ok (.iload_n 3, 1) := by decide +kernel
theorem dX2_take_107 : decode cX2_take 107 = .ok (.iload 4, 2) := by decide +kernel
theorem dX2_take_109 : decode cX2_take 109 = .ok (.invokevirtual 65, 3) := by decide +kernel
theorem dX2_take_112 : decode cX2_take 112 = .ok (.ireturn, 1) := by decide +kernel
theorem dX2_take_113 : decode cX2_take 113 = .ok (.iconst 0, 1) := by decide +kernel
theorem dX2_take_114 : decode cX2_take 114 = .ok (.ireturn, 1) := by decide +kernel
theorem dX2_addWheel_0 : decode cX2_addWheel 0 = .ok (.aload_n 0, 1) := by decide +kernel
theorem dX2_addWheel_1 : decode cX2_addWheel 1 = .ok (.getfield 30, 3) := by decide +kernel
theorem dX2_addWheel_4 : decode cX2_addWheel 4 = .ok (.iconst 4, 1) := by decide +kernel
theorem dX2_addWheel_5 : decode cX2_addWheel 5 = .ok (.if_icmp .ge 24, 3) := by decide +kernel
theorem dX2_addWheel_8 : decode cX2_addWheel 8 = .ok (.iload_n 1, 1) := by decide +kernel
theorem dX2_addWheel_9 : decode cX2_addWheel 9 = .ok (.iconst 2, 1) := by decide +kernel
theorem dX2_addWheel_10 : decode cX2_addWheel 10 = .ok (.if_icmp .lt 19, 3) := by decide +kernel
theorem dX2_addWheel_13 : decode cX2_addWheel 13 = .ok (.iload_n 1, 1) := by decide +kernel
theorem dX2_addWheel_14 : decode cX2_addWheel 14 = .ok (.bipush 6, 2) := by decide +kernel
theorem dX2_addWheel_16 : decode cX2_addWheel 16 = .ok (.if_icmp .gt 13, 3) := by decide +kernel
theorem dX2_addWheel_19 : decode cX2_addWheel 19 = .ok (.iload_n 2, 1) := by decide +kernel
theorem dX2_addWheel_20 : decode cX2_addWheel 20 = .ok (.iload_n 1, 1) := by decide +kernel
theorem dX2_addWheel_21 : decode cX2_addWheel 21 = .ok (.if_icmp .ge 8, 3) := by decide +kernel
theorem dX2_addWheel_24 : decode cX2_addWheel 24 = .ok (.iload_n 3, 1) := by decide +kernel
theorem dX2_addWheel_25 : decode cX2_addWheel 25 = .ok (.iload_n 1, 1) := by decide +kernel
theorem dX2_addWheel_26 : decode cX2_addWheel 26 = .ok (.if_icmp .lt 5, 3) := by decide +kernel
theorem dX2_addWheel_29 : decode cX2_addWheel 29 = .ok (.iconst 0, 1) := by decide +kernel
theorem dX2_addWheel_30 : decode cX2_addWheel 30 = .ok (.ireturn, 1) := by decide +kernel
theorem dX2_addWheel_31 : decode cX2_addWheel 31 = .ok (.aload_n 0, 1) := by decide +kernel
theorem dX2_addWheel_32 : decode cX2_addWheel 32 = .ok (.getfield 9, 3) := by decide +kernel
theorem dX2_addWheel_35 : decode cX2_addWheel 35 = .ok (.aload_n 0, 1) := by decide +kernel
theorem dX2_addWheel_36 : decode cX2_addWheel 36 = .ok (.getfield 30, 3) := by decide +kernel
theorem dX2_addWheel_39 : decode cX2_addWheel 39 = .ok (.iload_n 1, 1) := by decide +kernel
theorem dX2_addWheel_40 : decode cX2_addWheel 40 = .ok (.invokestatic 69, 3) := by decide +kernel
theorem dX2_addWheel_43 : decode cX2_addWheel 43 = .ok (.aload_n 0, 1) := by decide +kernel
theorem dX2_addWheel_44 : decode cX2_addWheel 44 = .ok (.getfield 15, 3) := by decide +kernel
theorem dX2_addWheel_47 : decode cX2_addWheel 47 = .ok (.aload_n 0, 1) := by decide +kernel
theorem dX2_addWheel_48 : decode cX2_addWheel 48 = .ok (.getfield 30, 3) := by decide +kernel
theorem dX2_addWheel_51 : decode cX2_addWheel 51 = .ok (.iload_n 2, 1) := by decide +kernel
theorem dX2_addWheel_52 : decode cX2_addWheel 52 = .ok (.invokestatic 69, 3) := by decide +kernel
theorem dX2_addWheel_55 : decode cX2_addWheel 55 = .ok (.aload_n 0, 1) := by decide +kernel
theorem dX2_addWheel_56 : decode cX2_addWheel 56 = .ok (.getfield 18, 3) := by decide +kernel
theorem dX2_addWheel_59 : decode cX2_addWheel 59 = .ok (.aload_n 0, 1) := by decide +kernel
theorem dX2_addWheel_60 : decode cX2_addWheel 60 = .ok (.getfield 30, 3) := by decide +kernel
theorem dX2_addWheel_63 : decode cX2_addWheel 63 = .ok (.iload_n 3, 1) := by decide +kernel
theorem dX2_addWheel_64 : decode cX2_addWheel 64 = .ok (.invokestatic 69, 3) := by decide +kernel
theorem dX2_addWheel_67 : decode cX2_addWheel 67 = .ok (.aload_n 0, 1) := by decide +kernel
theorem dX2_addWheel_68 : decode cX2_addWheel 68 = .ok (.getfield 21, 3) := by decide +kernel
theorem dX2_addWheel_71 : decode cX2_addWheel 71 = .ok (.aload_n 0, 1) := by decide +kernel
theorem dX2_addWheel_72 : decode cX2_addWheel 72 = .ok (.getfield 30, 3) := by decide +kernel
theorem dX2_addWheel_75 : decode cX2_addWheel 75 = .ok (.aload_n 0, 1) := by decide +kernel
theorem dX2_addWheel_76 : decode cX2_addWheel 76 = .ok (.getfield 40, 3) := by decide +kernel
theorem dX2_addWheel_79 : decode cX2_addWheel 79 = .ok (.invokestatic 69, 3) := by decide +kernel
theorem dX2_addWheel_82 : decode cX2_addWheel 82 = .ok (.aload_n 0, 1) := by decide +kernel
theorem dX2_addWheel_83 : decode cX2_addWheel 83 = .ok (.dup, 1) := by decide +kernel
theorem dX2_addWheel_84 : decode cX2_addWheel 84 = .ok (.getfield 40, 3) := by decide +kernel
theorem dX2_addWheel_87 : decode cX2_addWheel 87 = .ok (.iload_n 1, 1) := by decide +kernel
theorem dX2_addWheel_88 : decode cX2_addWheel 88 = .ok (.imul, 1) := by decide +kernel
theorem dX2_addWheel_89 : decode cX2_addWheel 89 = .ok (.putfield 40, 3) := by decide +kernel
theorem dX2_addWheel_92 : decode cX2_addWheel 92 = .ok (.aload_n 0, 1) := by decide +kernel
theorem dX2_addWheel_93 : decode cX2_addWheel 93 = .ok (.dup, 1) := by decide +kernel
theorem dX2_addWheel_94 : decode cX2_addWheel 94 = .ok (.getfield 30, 3) := by decide +kernel
theorem dX2_addWheel_97 : decode cX2_addWheel 97 = .ok (.iconst 1, 1) := by decide +kernel
theorem dX2_addWheel_98 : decode cX2_addWheel 98 = .ok (.iadd, 1) := by decide +kernel
theorem dX2_addWheel_99 : decode cX2_addWheel 99 = .ok (.putfield 30, 3) := by decide +kernel
theorem dX2_addWheel_102 : decode cX2_addWheel 102 = .ok (.iconst 1, 1) := by decide +kernel
theorem dX2_addWheel_103 : decode cX2_addWheel 103 = .ok (.ireturn, 1) := by decide +kernel
theorem dX2_addClash_0 : decode cX2_addClash 0 = .ok (.aload_n 0, 1) := by decide +kernel
theorem dX2_addClash_1 : decode cX2_addClash 1 = .ok (.getfield 34, 3) := by decide +kernel
theorem dX2_addClash_4 : decode cX2_addClash 4 = .ok (.bipush 8, 2) := by decide +kernel
theorem dX2_addClash_6 : decode cX2_addClash 6 = .ok (.if_icmp .ge 27, 3) := by decide +kernel
theorem dX2_addClash_9 : decode cX2_addClash 9 = .ok (.iload_n 1, 1) := by decide +kernel
theorem dX2_addClash_10 : decode cX2_addClash 10 = .ok (.iload_n 3, 1) := by decide +kernel
theorem dX2_addClash_11 : decode cX2_addClash 11 = .ok (.if_icmp .eq 22, 3) := by decide +kernel
theorem dX2_addClash_14 : decode cX2_addClash 14 = .ok (.aload_n 0, 1) := by decide +kernel
theorem dX2_addClash_15 : decode cX2_addClash 15 = .ok (.iload_n 1, 1) := by decide +kernel
theorem dX2_addClash_16 : decode cX2_addClash 16 = .ok (.iload_n 2, 1) := by decide +kernel
theorem dX2_addClash_17 : decode cX2_addClash 17 = .ok (.invokevirtual 73, 3) := by decide +kernel
theorem dX2_addClash_20 : decode cX2_addClash 20 = .ok (.ifCond .eq 13, 3) := by decide +kernel
theorem dX2_addClash_23 : decode cX2_addClash 23 = .ok (.aload_n 0, 1) := by decide +kernel
theorem dX2_addClash_24 : decode cX2_addClash 24 = .ok (.iload_n 3, 1) := by decide +kernel
theorem dX2_addClash_25 : decode cX2_addClash 25 = .ok (.iload 4, 2) := by decide +kernel
theorem dX2_addClash_27 : decode cX2_addClash 27 = .ok (.invokevirtual 73, 3) := by decide +kernel
theorem dX2_addClash_30 : decode cX2_addClash 30 = .ok (.ifCond .ne 5, 3) := by decide +kernel
theorem dX2_addClash_33 : decode cX2_addClash 33 = .ok (.iconst 0, 1) := by decide +kernel
theorem dX2_addClash_34 : decode cX2_addClash 34 = .ok (.ireturn, 1) := by decide +kernel
theorem dX2_addClash_35 : decode cX2_addClash 35 = .ok (.aload_n 0, 1) := by decide +kernel
theorem dX2_addClash_36 : decode cX2_addClash 36 = .ok (.getfield 24, 3) := by decide +kernel
theorem dX2_addClash_39 : decode cX2_addClash 39 = .ok (.aload_n 0, 1) := by decide +kernel
theorem dX2_addClash_40 : decode cX2_addClash 40 = .ok (.getfield 34, 3) := by decide +kernel
theorem dX2_addClash_43 : decode cX2_addClash 43 = .ok (.iconst 1, 1) := by decide +kernel
theorem dX2_addClash_44 : decode cX2_addClash 44 = .ok (.iload_n 1, 1) := by decide +kernel
theorem dX2_addClash_45 : decode cX2_addClash 45 = .ok (.iload_n 2, 1) := by decide +kernel
theorem dX2_addClash_46 : decode cX2_addClash 46 = .ok (.invokestatic 76, 3) := by decide +kernel
theorem dX2_addClash_49 : decode cX2_addClash 49 = .ok (.ishl, 1) := by decide +kernel
theorem dX2_addClash_50 : decode cX2_addClash 50 = .ok (.iconst 1, 1) := by decide +kernel
theorem dX2_addClash_51 : decode cX2_addClash 51 = .ok (.iload_n 3, 1) := by decide +kernel
theorem dX2_addClash_52 : decode cX2_addClash 52 = .ok (.iload 4, 2) := by decide +kernel
theorem dX2_addClash_54 : decode cX2_addClash 54 = .ok (.invokestatic 76, 3) := by decide +kernel
theorem dX2_addClash_57 : decode cX2_addClash 57 = .ok (.ishl, 1) := by decide +kernel
theorem dX2_addClash_58 : decode cX2_addClash 58 = .ok (.ior, 1) := by decide +kernel
theorem dX2_addClash_59 : decode cX2_addClash 59 = .ok (.invokestatic 69, 3) := by decide +kernel
theorem dX2_addClash_62 : decode cX2_addClash 62 = .ok (.aload_n 0, 1) := by decide +kernel
theorem dX2_addClash_63 : decode cX2_addClash 63 = .ok (.dup, 1) := by decide +kernel
theorem dX2_addClash_64 : decode cX2_addClash 64 = .ok (.getfield 34, 3) := by decide +kernel
theorem dX2_addClash_67 : decode cX2_addClash 67 = .ok (.iconst 1, 1) := by decide +kernel
theorem dX2_addClash_68 : decode cX2_addClash 68 = .ok (.iadd, 1) := by decide +kernel
theorem dX2_addClash_69 : decode cX2_addClash 69 = .ok (.putfield 34, 3) := by decide +kernel
theorem dX2_addClash_72 : decode cX2_addClash 72 = .ok (.iconst 1, 1) := by decide +kernel
theorem dX2_addClash_73 : decode cX2_addClash 73 = .ok (.ireturn, 1) := by decide +kernel
theorem dX2_isToothTold_0 : decode cX2_isToothTold 0 = .ok (.iload_n 1, 1) := by decide +kernel
theorem dX2_isToothTold_1 : decode cX2_isToothTold 1 = .ok (.aload_n 0, 1) := by decide +kernel
theorem dX2_isToothTold_2 : decode cX2_isToothTold 2 = .ok (.getfield 30, 3) := by decide +kernel
theorem dX2_isToothTold_5 : decode cX2_isToothTold 5 = .ok (.if_icmp .ge 19, 3) := by decide +kernel
theorem dX2_isToothTold_8 : decode cX2_isToothTold 8 = .ok (.iload_n 2, 1) := by decide +kernel
theorem dX2_isToothTold_9 : decode cX2_isToothTold 9 = .ok (.aload_n 0, 1) := by decide +kernel
theorem dX2_isToothTold_10 : decode cX2_isToothTold 10 = .ok (.getfield 9, 3) := by decide +kernel
theorem dX2_isToothTold_13 : decode cX2_isToothTold 13 = .ok (.iload_n 1, 1) := by decide +kernel
theorem dX2_isToothTold_14 : decode cX2_isToothTold 14 = .ok (.invokestatic 49, 3) := by decide +kernel
theorem dX2_isToothTold_17 : decode cX2_isToothTold 17 = .ok (.if_icmp .ge 7, 3) := by decide +kernel
theorem dX2_isToothTold_20 : decode cX2_isToothTold 20 = .ok (.iconst 1, 1) := by decide +kernel
theorem dX2_isToothTold_21 : decode cX2_isToothTold 21 = .ok (.goto 4, 3) := by decide +kernel
theorem dX2_isToothTold_24 : decode cX2_isToothTold 24 = .ok (.iconst 0, 1) := by decide +kernel
theorem dX2_isToothTold_25 : decode cX2_isToothTold 25 = .ok (.ireturn, 1) := by decide +kernel
theorem dX2_addPerson_0 : decode cX2_addPerson 0 = .ok (.aload_n 0, 1) := by decide +kernel
theorem dX2_addPerson_1 : decode cX2_addPerson 1 = .ok (.getfield 37, 3) := by decide +kernel
theorem dX2_addPerson_4 : decode cX2_addPerson 4 = .ok (.iconst 5, 1) := by decide +kernel
theorem dX2_addPerson_5 : decode cX2_addPerson 5 = .ok (.if_icmp .ge 9, 3) := by decide +kernel
theorem dX2_addPerson_8 : decode cX2_addPerson 8 = .ok (.iload_n 1, 1) := by decide +kernel
theorem dX2_addPerson_9 : decode cX2_addPerson 9 = .ok (.bipush 31, 2) := by decide +kernel
theorem dX2_addPerson_11 : decode cX2_addPerson 11 = .ok (.if_icmp .le 5, 3) := by decide +kernel
theorem dX2_addPerson_14 : decode cX2_addPerson 14 = .ok (.iconst 0, 1) := by decide +kernel
theorem dX2_addPerson_15 : decode cX2_addPerson 15 = .ok (.ireturn, 1) := by decide +kernel
theorem dX2_addPerson_16 : decode cX2_addPerson 16 = .ok (.aload_n 0, 1) := by decide +kernel
theorem dX2_addPerson_17 : decode cX2_addPerson 17 = .ok (.getfield 27, 3) := by decide +kernel
theorem dX2_addPerson_20 : decode cX2_addPerson 20 = .ok (.aload_n 0, 1) := by decide +kernel
theorem dX2_addPerson_21 : decode cX2_addPerson 21 = .ok (.getfield 37, 3) := by decide +kernel
theorem dX2_addPerson_24 : decode cX2_addPerson 24 = .ok (.iload_n 1, 1) := by decide +kernel
theorem dX2_addPerson_25 : decode cX2_addPerson 25 = .ok (.invokestatic 69, 3) := by decide +kernel
theorem dX2_addPerson_28 : decode cX2_addPerson 28 = .ok (.aload_n 0, 1) := by decide +kernel
theorem dX2_addPerson_29 : decode cX2_addPerson 29 = .ok (.dup, 1) := by decide +kernel
theorem dX2_addPerson_30 : decode cX2_addPerson 30 = .ok (.getfield 37, 3) := by decide +kernel
theorem dX2_addPerson_33 : decode cX2_addPerson 33 = .ok (.iconst 1, 1) := by decide +kernel
theorem dX2_addPerson_34 : decode cX2_addPerson 34 = .ok (.iadd, 1) := by decide +kernel
theorem dX2_addPerson_35 : decode cX2_addPerson 35 = .ok (.putfield 37, 3) := by decide +kernel
theorem dX2_addPerson_38 : decode cX2_addPerson 38 = .ok (.iconst 1, 1) := by decide +kernel
theorem dX2_addPerson_39 : decode cX2_addPerson 39 = .ok (.ireturn, 1) := by decide +kernel
theorem dX2_setWorth_0 : decode cX2_setWorth 0 = .ok (.iload_n 1, 1) := by decide +kernel
theorem dX2_setWorth_1 : decode cX2_setWorth 1 = .ok (.bipush 9, 2) := by decide +kernel
theorem dX2_setWorth_3 : decode cX2_setWorth 3 = .ok (.if_icmp .le 5, 3) := by decide +kernel
theorem dX2_setWorth_6 : decode cX2_setWorth 6 = .ok (.iconst 0, 1) := by decide +kernel
theorem dX2_setWorth_7 : decode cX2_setWorth 7 = .ok (.ireturn, 1) := by decide +kernel
theorem dX2_setWorth_8 : decode cX2_setWorth 8 = .ok (.aload_n 0, 1) := by decide +kernel
theorem dX2_setWorth_9 : decode cX2_setWorth 9 = .ok (.iload_n 1, 1) := by decide +kernel
theorem dX2_setWorth_10 : decode cX2_setWorth 10 = .ok (.putfield 43, 3) := by decide +kernel
theorem dX2_setWorth_13 : decode cX2_setWorth 13 = .ok (.aload_n 0, 1) := by decide +kernel
theorem dX2_setWorth_14 : decode cX2_setWorth 14 = .ok (.iload_n 2, 1) := by decide +kernel
theorem dX2_setWorth_15 : decode cX2_setWorth 15 = .ok (.putfield 46, 3) := by decide +kernel
theorem dX2_setWorth_18 : decode cX2_setWorth 18 = .ok (.iconst 1, 1) := by decide +kernel
theorem dX2_setWorth_19 : decode cX2_setWorth 19 = .ok (.ireturn, 1) := by decide +kernel
theorem dX2_toothOf_0 : decode cX2_toothOf 0 = .ok (.aload_n 0, 1) := by decide +kernel
theorem dX2_toothOf_1 : decode cX2_toothOf 1 = .ok (.getfield 21, 3) := by decide +kernel
theorem dX2_toothOf_4 : decode cX2_toothOf 4 = .ok (.iload_n 2, 1) := by decide +kernel
theorem dX2_toothOf_5 : decode cX2_toothOf 5 = .ok (.invokestatic 49, 3) := by decide +kernel
theorem dX2_toothOf_8 : decode cX2_toothOf 8 = .ok (.istore_n 3, 1) := by decide +kernel
theorem dX2_toothOf_9 : decode cX2_toothOf 9 = .ok (.aload_n 0, 1) := by decide +kernel
theorem dX2_toothOf_10 : decode cX2_toothOf 10 = .ok (.getfield 9, 3) := by decide +kernel
theorem dX2_toothOf_13 : decode cX2_toothOf 13 = .ok (.iload_n 2, 1) := by decide +kernel
theorem dX2_toothOf_14 : decode cX2_toothOf 14 = .ok (.invokestatic 49, 3) := by decide +kernel
theorem dX2_toothOf_17 : decode cX2_toothOf 17 = .ok (.istore 4, 2) := by decide +kernel
theorem dX2_toothOf_19 : decode cX2_toothOf 19 = .ok (.iload_n 3, 1) := by decide +kernel
theorem dX2_toothOf_20 : decode cX2_toothOf 20 = .ok (.ifCond .le 17, 3) := by decide +kernel
theorem dX2_toothOf_23 : decode cX2_toothOf 23 = .ok (.iload 4, 2) := by decide +kernel
theorem dX2_toothOf_25 : decode cX2_toothOf 25 = .ok (.ifCond .le 12, 3) := by decide +kernel
theorem dX2_toothOf_28 : decode cX2_toothOf 28 = .ok (.iload_n 1, 1) := by decide +kernel
theorem dX2_toothOf_29 : decode cX2_toothOf 29 = .ok (.iload_n 3, 1) := by decide +kernel
theorem dX2_toothOf_30 : decode cX2_toothOf 30 = .ok (.idiv, 1) := by decide +kernel
theorem dX2_toothOf_31 : decode cX2_toothOf 31 = .ok (.iload 4, 2) := by decide +kernel
theorem dX2_toothOf_33 : decode cX2_toothOf 33 = .ok (.irem, 1) := by decide +kernel
theorem dX2_toothOf_34 : decode cX2_toothOf 34 = .ok (.goto 4, 3) := by decide +kernel
theorem dX2_toothOf_37 : decode cX2_toothOf 37 = .ok (.iconst 0, 1) := by decide +kernel
theorem dX2_toothOf_38 : decode cX2_toothOf 38 = .ok (.ireturn, 1) := by decide +kernel
theorem dX2_teethOf_0 : decode cX2_teethOf 0 = .ok (.iconst 0, 1) := by decide +kernel
theorem dX2_teethOf_1 : decode cX2_teethOf 1 = .ok (.istore_n 2, 1) := by decide +kernel
theorem dX2_teethOf_2 : decode cX2_teethOf 2 = .ok (.iconst 0, 1) := by decide +kernel
theorem dX2_teethOf_3 : decode cX2_teethOf 3 = .ok (.istore_n 3, 1) := by decide +kernel
theorem dX2_teethOf_4 : decode cX2_teethOf 4 = .ok (.iload_n 3, 1) := by decide +kernel
theorem dX2_teethOf_5 : decode cX2_teethOf 5 = .ok (.aload_n 0, 1) := by decide +kernel
theorem dX2_teethOf_6 : decode cX2_teethOf 6 = .ok (.getfield 30, 3) := by decide +kernel
theorem dX2_teethOf_9 : decode cX2_teethOf 9 = .ok (.if_icmp .ge 24, 3) := by decide +kernel
theorem dX2_teethOf_12 : decode cX2_teethOf 12 = .ok (.iload_n 2, 1) := by decide +kernel
theorem dX2_teethOf_13 : decode cX2_teethOf 13 = .ok (.iconst 1, 1) := by decide +kernel
theorem dX2_teethOf_14 : decode cX2_teethOf 14 = .ok (.iload_n 3, 1) := by decide +kernel
theorem dX2_teethOf_15 : decode cX2_teethOf 15 = .ok (.aload_n 0, 1) := by decide +kernel
theorem dX2_teethOf_16 : decode cX2_teethOf 16 = .ok (.iload_n 1, 1) := by decide +kernel
theorem dX2_teethOf_17 : decode cX2_teethOf 17 = .ok (.iload_n 3, 1) := by decide +kernel
theorem dX2_teethOf_18 : decode cX2_teethOf 18 = .ok (.invokevirtual 80, 3) := by decide +kernel
theorem dX2_teethOf_21 : decode cX2_teethOf 21 = .ok (.invokestatic 76, 3) := by decide +kernel
theorem dX2_teethOf_24 : decode cX2_teethOf 24 = .ok (.ishl, 1) := by decide +kernel
theorem dX2_teethOf_25 : decode cX2_teethOf 25 = .ok (.ior, 1) := by decide +kernel
theorem dX2_teethOf_26 : decode cX2_teethOf 26 = .ok (.istore_n 2, 1) := by decide +kernel
theorem dX2_teethOf_27 : decode cX2_teethOf 27 = .ok (.iinc 3 1, 3) := by decide +kernel
theorem dX2_teethOf_30 : decode cX2_teethOf 30 = .ok (.goto (-26), 3) := by decide +kernel
theorem dX2_teethOf_33 : decode cX2_teethOf 33 = .ok (.iload_n 2, 1) := by decide +kernel
theorem dX2_teethOf_34 : decode cX2_teethOf 34 = .ok (.ireturn, 1) := by decide +kernel
theorem dX2_goTogether_0 : decode cX2_goTogether 0 = .ok (.iconst 0, 1) := by decide +kernel
theorem dX2_goTogether_1 : decode cX2_goTogether 1 = .ok (.istore_n 2, 1) := by decide +kernel
theorem dX2_goTogether_2 : decode cX2_goTogether 2 = .ok (.iload_n 2, 1) := by decide +kernel
theorem dX2_goTogether_3 : decode cX2_goTogether 3 = .ok (.aload_n 0, 1) := by decide +kernel
theorem dX2_goTogether_4 : decode cX2_goTogether 4 = .ok (.getfield 34, 3) := by decide +kernel
theorem dX2_goTogether_7 : decode cX2_goTogether 7 = .ok (.if_icmp .ge 27, 3) := by decide +kernel
theorem dX2_goTogether_10 : decode cX2_goTogether 10 = .ok (.aload_n 0, 1) := by decide +kernel
theorem dX2_goTogether_11 : decode cX2_goTogether 11 = .ok (.getfield 24, 3) := by decide +kernel
theorem dX2_goTogether_14 : decode cX2_goTogether 14 = .ok (.iload_n 2, 1) := by decide +kernel
theorem dX2_goTogether_15 : decode cX2_goTogether 15 = .ok (.invokestatic 49, 3) := by decide +kernel
theorem dX2_goTogether_18 : decode cX2_goTogether 18 = .ok (.istore_n 3, 1) := by decide +kernel
theorem dX2_goTogether_19 : decode cX2_goTogether 19 = .ok (.iload_n 1, 1) := by decide +kernel
theorem dX2_goTogether_20 : decode cX2_goTogether 20 = .ok (.iload_n 3, 1) := by decide +kernel
theorem dX2_goTogether_21 : decode cX2_goTogether 21 = .ok (.iand, 1) := by decide +kernel
theorem dX2_goTogether_22 : decode cX2_goTogether 22 = .ok (.iload_n 3, 1) := by decide +kernel
theorem dX2_goTogether_23 : decode cX2_goTogether 23 = .ok (.if_icmp .ne 5, 3) := by decide +kernel
theorem dX2_goTogether_26 : decode cX2_goTogether 26 = .ok (.iconst 0, 1) := by decide +kernel
theorem dX2_goTogether_27 : decode cX2_goTogether 27 = .ok (.ireturn, 1) := by decide +kernel
theorem dX2_goTogether_28 : decode cX2_goTogether 28 = .ok (.iinc 2 1, 3) := by decide +kernel
theorem dX2_goTogether_31 : decode cX2_goTogether 31 = .ok (.goto (-29), 3) := by decide +kernel
theorem dX2_goTogether_34 : decode cX2_goTogether 34 = .ok (.iconst 1, 1) := by decide +kernel
theorem dX2_goTogether_35 : decode cX2_goTogether 35 = .ok (.ireturn, 1) := by decide +kernel
theorem dX2_friendsOf_0 : decode cX2_friendsOf 0 = .ok (.iconst 0, 1) := by decide +kernel
theorem dX2_friendsOf_1 : decode cX2_friendsOf 1 = .ok (.istore_n 2, 1) := by decide +kernel
theorem dX2_friendsOf_2 : decode cX2_friendsOf 2 = .ok (.iconst 0, 1) := by decide +kernel
theorem dX2_friendsOf_3 : decode cX2_friendsOf 3 = .ok (.istore_n 3, 1) := by decide +kernel
theorem dX2_friendsOf_4 : decode cX2_friendsOf 4 = .ok (.iload_n 3, 1) := by decide +kernel
theorem dX2_friendsOf_5 : decode cX2_friendsOf 5 = .ok (.aload_n 0, 1) := by decide +kernel
theorem dX2_friendsOf_6 : decode cX2_friendsOf 6 = .ok (.getfield 37, 3) := by decide +kernel
theorem dX2_friendsOf_9 : decode cX2_friendsOf 9 = .ok (.if_icmp .ge 46, 3) := by decide +kernel
theorem dX2_friendsOf_12 : decode cX2_friendsOf 12 = .ok (.iload_n 3, 1) := by decide +kernel
theorem dX2_friendsOf_13 : decode cX2_friendsOf 13 = .ok (.iload_n 1, 1) := by decide +kernel
theorem dX2_friendsOf_14 : decode cX2_friendsOf 14 = .ok (.if_icmp .eq 35, 3) := by decide +kernel
theorem dX2_friendsOf_17 : decode cX2_friendsOf 17 = .ok (.aload_n 0, 1) := by decide +kernel
theorem dX2_friendsOf_18 : decode cX2_friendsOf 18 = .ok (.getfield 27, 3) := by decide +kernel
theorem dX2_friendsOf_21 : decode cX2_friendsOf 21 = .ok (.iload_n 1, 1) := by decide +kernel
theorem dX2_friendsOf_22 : decode cX2_friendsOf 22 = .ok (.invokestatic 49, 3) := by decide +kernel
theorem dX2_friendsOf_25 : decode cX2_friendsOf 25 = .ok (.iload_n 3, 1) := by decide +kernel
theorem dX2_friendsOf_26 : decode cX2_friendsOf 26 = .ok (.ishr, 1) := by decide +kernel
theorem dX2_friendsOf_27 : decode cX2_friendsOf 27 = .ok (.aload_n 0, 1) := by decide +kernel
theorem dX2_friendsOf_28 : decode cX2_friendsOf 28 = .ok (.getfield 27, 3) := by decide +kernel
theorem dX2_friendsOf_31 : decode cX2_friendsOf 31 = .ok (.iload_n 3, 1) := by decide +kernel
theorem dX2_friendsOf_32 : decode cX2_friendsOf 32 = .ok (.invokestatic 49, 3) := by decide +kernel
theorem dX2_friendsOf_35 : decode cX2_friendsOf 35 = .ok (.iload_n 1, 1) := by decide +kernel
theorem dX2_friendsOf_36 : decode cX2_friendsOf 36 = .ok (.ishr, 1) := by decide +kernel
theorem dX2_friendsOf_37 : decode cX2_friendsOf 37 = .ok (.ior, 1) := by decide +kernel
theorem dX2_friendsOf_38 : decode cX2_friendsOf 38 = .ok (.iconst 1, 1) := by decide +kernel
theorem dX2_friendsOf_39 : decode cX2_friendsOf 39 = .ok (.iand, 1) := by decide +kernel
theorem dX2_friendsOf_40 : decode cX2_friendsOf 40 = .ok (.ifCond .eq 9, 3) := by decide +kernel
theorem dX2_friendsOf_43 : decode cX2_friendsOf 43 = .ok (.iload_n 2, 1) := by decide +kernel
theorem dX2_friendsOf_44 : decode cX2_friendsOf 44 = .ok (.iconst 1, 1) := by decide +kernel
theorem dX2_friendsOf_45 : decode cX2_friendsOf 45 = .ok (.iload_n 3, 1) := by decide +kernel
theorem dX2_friendsOf_46 : decode cX2_friendsOf 46 = .ok (.ishl, 1) := by decide +kernel
theorem dX2_friendsOf_47 : decode cX2_friendsOf 47 = .ok (.ior, 1) := by decide +kernel
theorem dX2_friendsOf_48 : decode cX2_friendsOf 48 = .ok (.istore_n 2, 1) := by decide +kernel
theorem dX2_friendsOf_49 : decode cX2_friendsOf 49 = .ok (.iinc 3 1, 3) := by decide +kernel
theorem dX2_friendsOf_52 : decode cX2_friendsOf 52 = .ok (.goto (-48), 3) := by decide +kernel
theorem dX2_friendsOf_55 : decode cX2_friendsOf 55 = .ok (.iload_n 2, 1) := by decide +kernel
theorem dX2_friendsOf_56 : decode cX2_friendsOf 56 = .ok (.ireturn, 1) := by decide +kernel
theorem dX2_circleOf_0 : decode cX2_circleOf 0 = .ok (.aload_n 0, 1) := by decide +kernel
theorem dX2_circleOf_1 : decode cX2_circleOf 1 = .ok (.iload_n 1, 1) := by decide +kernel
theorem dX2_circleOf_2 : decode cX2_circleOf 2 = .ok (.invokevirtual 83, 3) := by decide +kernel
theorem dX2_circleOf_5 : decode cX2_circleOf 5 = .ok (.iconst 1, 1) := by decide +kernel
theorem dX2_circleOf_6 : decode cX2_circleOf 6 = .ok (.iload_n 1, 1) := by decide +kernel
theorem dX2_circleOf_7 : decode cX2_circleOf 7 = .ok (.ishl, 1) := by decide +kernel
theorem dX2_circleOf_8 : decode cX2_circleOf 8 = .ok (.ior, 1) := by decide +kernel
theorem dX2_circleOf_9 : decode cX2_circleOf 9 = .ok (.ireturn, 1) := by decide +kernel
theorem dX3_init_0 : decode cX3_init 0 = .ok (.aload_n 0, 1) := by decide +kernel
theorem dX3_init_1 : decode cX3_init 1 = .ok (.invokespecial 1, 3) := by decide +kernel
theorem dX3_init_4 : decode cX3_init 4 = .ok (.aload_n 0, 1) := by decide +kernel
theorem dX3_init_5 : decode cX3_init 5 = .ok (.iload_n 1, 1) := by decide +kernel
theorem dX3_init_6 : decode cX3_init 6 = .ok (.ifCond .le 7, 3) := by decide +kernel
theorem dX3_init_9 : decode cX3_init 9 = .ok (.iload_n 1, 1) := by decide +kernel
theorem dX3_init_10 : decode cX3_init 10 = .ok (.goto 4, 3) := by decide +kernel
theorem dX3_init_13 : decode cX3_init 13 = .ok (.iconst 1, 1) := by decide +kernel
theorem dX3_init_14 : decode cX3_init 14 = .ok (.anewarray 7, 3) := by decide +kernel
theorem dX3_init_17 : decode cX3_init 17 = .ok (.putfield 9, 3) := by decide +kernel
theorem dX3_init_20 : decode cX3_init 20 = .ok (.iconst 0, 1) := by decide +kernel
theorem dX3_init_21 : decode cX3_init 21 = .ok (.istore_n 2, 1) := by decide +kernel
theorem dX3_init_22 : decode cX3_init 22 = .ok (.iload_n 2, 1) := by decide +kernel
theorem dX3_init_23 : decode cX3_init 23 = .ok (.aload_n 0, 1) := by decide +kernel
theorem dX3_init_24 : decode cX3_init 24 = .ok (.getfield 9, 3) := by decide +kernel
theorem dX3_init_27 : decode cX3_init 27 = .ok (.arraylength, 1) := by decide +kernel
theorem dX3_init_28 : decode cX3_init 28 = .ok (.if_icmp .ge 22, 3) := by decide +kernel
theorem dX3_init_31 : decode cX3_init 31 = .ok (.aload_n 0, 1) := by decide +kernel
theorem dX3_init_32 : decode cX3_init 32 = .ok (.getfield 9, 3) := by decide +kernel
theorem dX3_init_35 : decode cX3_init 35 = .ok (.iload_n 2, 1) := by decide +kernel
theorem dX3_init_36 : decode cX3_init 36 = .ok (.new 7, 3) := by decide +kernel
theorem dX3_init_39 : decode cX3_init 39 = .ok (.dup, 1) := by decide +kernel
theorem dX3_init_40 : decode cX3_init 40 = .ok (.invokespecial 15, 3) := by decide +kernel
theorem dX3_init_43 : decode cX3_init 43 = .ok (.aastore, 1) := by decide +kernel
theorem dX3_init_44 : decode cX3_init 44 = .ok (.iinc 2 1, 3) := by decide +kernel
theorem dX3_init_47 : decode cX3_init 47 = .ok (.goto (-25), 3) := by decide +kernel
theorem dX3_init_50 : decode cX3_init 50 = .ok (.return_, 1) := by decide +kernel
theorem dX3_push_0 : decode cX3_push 0 = .ok (.aload_n 0, 1) := by decide +kernel
theorem dX3_push_1 : decode cX3_push 1 = .ok (.aload_n 0, 1) := by decide +kernel
theorem dX3_push_2 : decode cX3_push 2 = .ok (.getfield 16, 3) := by decide +kernel
theorem dX3_push_5 : decode cX3_push 5 = .ok (.invokevirtual 20, 3) := by decide +kernel
theorem dX3_push_8 : decode cX3_push 8 = .ok (.astore_n 2, 1) := by decide +kernel
theorem dX3_push_9 : decode cX3_push 9 = .ok (.aload_n 2, 1) := by decide +kernel
theorem dX3_push_10 : decode cX3_push 10 = .ok (.ifnonnull 4, 3) := by decide +kernel
theorem dX3_push_13 : decode cX3_push 13 = .ok (.return_, 1) := by decide +kernel
theorem dX3_push_14 : decode cX3_push 14 = .ok (.aload_n 2, 1) := by decide +kernel
theorem dX3_push_15 : decode cX3_push 15 = .ok (.aload_n 1, 1) := by decide +kernel
theorem dX3_push_16 : decode cX3_push 16 = .ok (.invokevirtual 24, 3) := by decide +kernel
theorem dX3_push_19 : decode cX3_push 19 = .ok (.aload_n 0, 1) := by decide +kernel
theorem dX3_push_20 : decode cX3_push 20 = .ok (.aload_n 0, 1) := by decide +kernel
theorem dX3_push_21 : decode cX3_push 21 = .ok (.getfield 16, 3) := by decide +kernel
theorem dX3_push_24 : decode cX3_push 24 = .ok (.iconst 1, 1) := by decide +kernel
theorem dX3_push_25 : decode cX3_push 25 = .ok (.iadd, 1) := by decide +kernel
theorem dX3_push_26 : decode cX3_push 26 = .ok (.aload_n 0, 1) := by decide +kernel
theorem dX3_push_27 : decode cX3_push 27 = .ok (.getfield 9, 3) := by decide +kernel
theorem dX3_push_30 : decode cX3_push 30 = .ok (.arraylength, 1) := by decide +kernel
theorem dX3_push_31 : decode cX3_push 31 = .ok (.if_icmp .ge 12, 3) := by decide +kernel
theorem dX3_push_34 : decode cX3_push 34 = .ok (.aload_n 0, 1) := by decide +kernel
theorem dX3_push_35 : decode cX3_push 35 = .ok (.getfield 16, 3) := by decide +kernel
theorem dX3_push_38 : decode cX3_push 38 = .ok (.iconst 1, 1) := by decide +kernel
theorem dX3_push_39 : decode cX3_push 39 = .ok (.iadd, 1) := by decide +kernel
theorem dX3_push_40 : decode cX3_push 40 = .ok (.goto 4, 3) := by decide +kernel
theorem dX3_push_43 : decode cX3_push 43 = .ok (.iconst 0, 1) := by decide +kernel
theorem dX3_push_44 : decode cX3_push 44 = .ok (.putfield 16, 3) := by decide +kernel
theorem dX3_push_47 : decode cX3_push 47 = .ok (.aload_n 0, 1) := by decide +kernel
theorem dX3_push_48 : decode cX3_push 48 = .ok (.aload_n 0, 1) := by decide +kernel
theorem dX3_push_49 : decode cX3_push 49 = .ok (.getfield 28, 3) := by decide +kernel
theorem dX3_push_52 : decode cX3_push 52 = .ok (.aload_n 0, 1) := by decide +kernel
theorem dX3_push_53 : decode cX3_push 53 = .ok (.getfield 9, 3) := by decide +kernel
theorem dX3_push_56 : decode cX3_push 56 = .ok (.arraylength, 1) := by decide +kernel
theorem dX3_push_57 : decode cX3_push 57 = .ok (.if_icmp .ge 12, 3) := by decide +kernel
theorem dX3_push_60 : decode cX3_push 60 = .ok (.aload_n 0, 1) := by decide +kernel
theorem dX3_push_61 : decode cX3_push 61 = .ok (.getfield 28, 3) := by decide +kernel
theorem dX3_push_64 : decode cX3_push 64 = .ok (.iconst 1, 1) := by decide +kernel
theorem dX3_push_65 : decode cX3_push 65 = .ok (.iadd, 1) := by decide +kernel
theorem dX3_push_66 : decode cX3_push 66 = .ok (.goto 7, 3) := by decide +kernel
theorem dX3_push_69 : decode cX3_push 69 = .ok (.aload_n 0, 1) := by decide +kernel
theorem dX3_push_70 : decode cX3_push 70 = .ok (.getfield 28, 3) := by decide +kernel
theorem dX3_push_73 : decode cX3_push 73 = .ok (.putfield 28, 3) := by decide +kernel
theorem dX3_push_76 : decode cX3_push 76 = .ok (.return_, 1) := by decide +kernel
theorem dX3_pop_0 : decode cX3_pop 0 = .ok (.aload_n 0, 1) := by decide +kernel
theorem dX3_pop_1 : decode cX3_pop 1 = .ok (.getfield 16, 3) := by decide +kernel
theorem dX3_pop_4 : decode cX3_pop 4 = .ok (.ifCond .le 12, 3) := by decide +kernel
theorem dX3_pop_7 : decode cX3_pop 7 = .ok (.aload_n 0, 1) := by decide +kernel
theorem dX3_pop_8 : decode cX3_pop 8 = .ok (.getfield 16, 3) := by decide +kernel
theorem dX3_pop_11 : decode cX3_pop 11 = .ok (.iconst 1, 1) := by decide +kernel
theorem dX3_pop_12 : decode cX3_pop 12 = .ok (.isub, 1) := by decide +kernel
theorem dX3_pop_13 : decode cX3_pop 13 = .ok (.goto 10, 3) := by decide +kernel
theorem dX3_pop_16 : decode cX3_pop 16 = .ok (.aload_n 0, 1) := by decide +kernel
theorem dX3_pop_17 : decode cX3_pop 17 = .ok (.getfield 9, 3) := by decide +kernel
theorem dX3_pop_20 : decode cX3_pop 20 = .ok (.arraylength, 1) := by decide +kernel
theorem dX3_pop_21 : decode cX3_pop 21 = .ok (.iconst 1, 1) := by decide +kernel
theorem dX3_pop_22 : decode cX3_pop 22 = .ok (.isub, 1) := by decide +kernel
theorem dX3_pop_23 : decode cX3_pop 23 = .ok (.istore_n 2, 1) := by decide +kernel
theorem dX3_pop_24 : decode cX3_pop 24 = .ok (.aload_n 0, 1) := by decide +kernel
theorem dX3_pop_25 : decode cX3_pop 25 = .ok (.iload_n 2, 1) := by decide +kernel
theorem dX3_pop_26 : decode cX3_pop 26 = .ok (.invokevirtual 20, 3) := by decide +kernel
theorem dX3_pop_29 : decode cX3_pop 29 = .ok (.astore_n 3, 1) := by decide +kernel
theorem dX3_pop_30 : decode cX3_pop 30 = .ok (.aload_n 0, 1) := by decide +kernel
theorem dX3_pop_31 : decode cX3_pop 31 = .ok (.getfield 28, 3) := by decide +kernel
theorem dX3_pop_34 : decode cX3_pop 34 = .ok (.ifCond .eq 7, 3) := by decide +kernel
theorem dX3_pop_37 : decode cX3_pop 37 = .ok (.aload_n 3, 1) := by decide +kernel
theorem dX3_pop_38 : decode cX3_pop 38 = .ok (.ifnonnull 5, 3) := by decide +kernel
theorem dX3_pop_41 : decode cX3_pop 41 = .ok (.iconst 0, 1) := by decide +kernel
theorem dX3_pop_42 : decode cX3_pop 42 = .ok (.ireturn, 1) := by decide +kernel
theorem dX3_pop_43 : decode cX3_pop 43 = .ok (.aload_n 1, 1) := by decide +kernel
theorem dX3_pop_44 : decode cX3_pop 44 = .ok (.aload_n 3, 1) := by decide +kernel
theorem dX3_pop_45 : decode cX3_pop 45 = .ok (.invokevirtual 24, 3) := by decide +kernel
theorem dX3_pop_48 : decode cX3_pop 48 = .ok (.aload_n 0, 1) := by decide +kernel
theorem dX3_pop_49 : decode cX3_pop 49 = .ok (.iload_n 2, 1) := by decide +kernel
theorem dX3_pop_50 : decode cX3_pop 50 = .ok (.putfield 16, 3) := by decide +kernel
theorem dX3_pop_53 : decode cX3_pop 53 = .ok (.aload_n 0, 1) := by decide +kernel
theorem dX3_pop_54 : decode cX3_pop 54 = .ok (.dup, 1) := by decide +kernel
theorem dX3_pop_55 : decode cX3_pop 55 = .ok (.getfield 28, 3) := by decide +kernel
theorem dX3_pop_58 : decode cX3_pop 58 = .ok (.iconst 1, 1) := by decide +kernel
theorem dX3_pop_59 : decode cX3_pop 59 = .ok (.isub, 1) := by decide +kernel
theorem dX3_pop_60 : decode cX3_pop 60 = .ok (.putfield 28, 3) := by decide +kernel
theorem dX3_pop_63 : decode cX3_pop 63 = .ok (.iconst 1, 1) := by decide +kernel
theorem dX3_pop_64 : decode cX3_pop 64 = .ok (.ireturn, 1) := by decide +kernel
theorem dX3_placeAt_0 : decode cX3_placeAt 0 = .ok (.iload_n 1, 1) := by decide +kernel
theorem dX3_placeAt_1 : decode cX3_placeAt 1 = .ok (.ifCond .lt 21, 3) := by decide +kernel
theorem dX3_placeAt_4 : decode cX3_placeAt 4 = .ok (.iload_n 1, 1) := by decide +kernel
theorem dX3_placeAt_5 : decode cX3_placeAt 5 = .ok (.aload_n 0, 1) := by decide +kernel
theorem dX3_placeAt_6 : decode cX3_placeAt 6 = .ok (.getfield 9, 3) := by decide +kernel
theorem dX3_placeAt_9 : decode cX3_placeAt 9 = .ok (.arraylength, 1) := by decide +kernel
theorem dX3_placeAt_10 : decode cX3_placeAt 10 = .ok (.if_icmp .ge 12, 3) := by decide +kernel
theorem dX3_placeAt_13 : decode cX3_placeAt 13 = .ok (.aload_n 0, 1) := by decide +kernel
theorem dX3_placeAt_14 : decode cX3_placeAt 14 = .ok (.getfield 9, 3) := by decide +kernel
theorem dX3_placeAt_17 : decode cX3_placeAt 17 = .ok (.iload_n 1, 1) := by decide +kernel
theorem dX3_placeAt_18 : decode cX3_placeAt 18 = .ok (.aaload, 1) := by decide +kernel
theorem dX3_placeAt_19 : decode cX3_placeAt 19 = .ok (.goto 4, 3) := by decide +kernel
theorem dX3_placeAt_22 : decode cX3_placeAt 22 = .ok (.aconst_null, 1) := by decide +kernel
theorem dX3_placeAt_23 : decode cX3_placeAt 23 = .ok (.areturn, 1) := by decide +kernel
theorem dX4_init_0 : decode cX4_init 0 = .ok (.aload_n 0, 1) := by decide +kernel
theorem dX4_init_1 : decode cX4_init 1 = .ok (.invokespecial 3, 3) := by decide +kernel
theorem dX4_init_4 : decode cX4_init 4 = .ok (.aload_n 0, 1) := by decide +kernel
theorem dX4_init_5 : decode cX4_init 5 = .ok (.bipush 8, 2) := by decide +kernel
theorem dX4_init_7 : decode cX4_init 7 = .ok (.newarray .int, 2) := by decide +kernel
theorem dX4_init_9 : decode cX4_init 9 = .ok (.putfield 9, 3) := by decide +kernel
theorem dX4_init_12 : decode cX4_init 12 = .ok (.aload_n 0, 1) := by decide +kernel
theorem dX4_init_13 : decode cX4_init 13 = .ok (.bipush 8, 2) := by decide +kernel
theorem dX4_init_15 : decode cX4_init 15 = .ok (.newarray .int, 2) := by decide +kernel
theorem dX4_init_17 : decode cX4_init 17 = .ok (.putfield 15, 3) := by decide +kernel
theorem dX4_init_20 : decode cX4_init 20 = .ok (.aload_n 0, 1) := by decide +kernel
theorem dX4_init_21 : decode cX4_init 21 = .ok (.bipush 8, 2) := by decide +kernel
theorem dX4_init_23 : decode cX4_init 23 = .ok (.newarray .int, 2) := by decide +kernel
theorem dX4_init_25 : decode cX4_init 25 = .ok (.putfield 18, 3) := by decide +kernel
theorem dX4_init_28 : decode cX4_init 28 = .ok (.return_, 1) := by decide +kernel
theorem dX4_add_0 : decode cX4_add 0 = .ok (.aload_n 0, 1) := by decide +kernel
theorem dX4_add_1 : decode cX4_add 1 = .ok (.getfield 21, 3) := by decide +kernel
theorem dX4_add_4 : decode cX4_add 4 = .ok (.bipush 8, 2) := by decide +kernel
theorem dX4_add_6 : decode cX4_add 6 = .ok (.if_icmp .lt 5, 3) := by decide +kernel
theorem dX4_add_9 : decode cX4_add 9 = .ok (.iconst 0, 1) := by decide +kernel
theorem dX4_add_10 : decode cX4_add 10 = .ok (.ireturn, 1) := by decide +kernel
theorem dX4_add_11 : decode cX4_add 11 = .ok (.aload_n 0, 1) := by decide +kernel
theorem dX4_add_12 : decode cX4_add 12 = .ok (.getfield 9, 3) := by decide +kernel
theorem dX4_add_15 : decode cX4_add 15 = .ok (.aload_n 0, 1) := by decide +kernel
theorem dX4_add_16 : decode cX4_add 16 = .ok (.getfield 21, 3) := by decide +kernel
theorem dX4_add_19 : decode cX4_add 19 = .ok (.iload_n 1, 1) := by decide +kernel
theorem dX4_add_20 : decode cX4_add 20 = .ok (.invokestatic 25, 3) := by decide +kernel
theorem dX4_add_23 : decode cX4_add 23 = .ok (.aload_n 0, 1) := by decide +kernel
theorem dX4_add_24 : decode cX4_add 24 = .ok (.getfield 15, 3) := by decide +kernel
theorem dX4_add_27 : decode cX4_add 27 = .ok (.aload_n 0, 1) := by decide +kernel
theorem dX4_add_28 : decode cX4_add 28 = .ok (.getfield 21, 3) := by decide +kernel
theorem dX4_add_31 : decode cX4_add 31 = .ok (.iload_n 2, 1) := by decide +kernel
theorem dX4_add_32 : decode cX4_add 32 = .ok (.invokestatic 25, 3) := by decide +kernel
theorem dX4_add_35 : decode cX4_add 35 = .ok (.aload_n 0, 1) := by decide +kernel
theorem dX4_add_36 : decode cX4_add 36 = .ok (.getfield 18, 3) := by decide +kernel
theorem dX4_add_39 : decode cX4_add 39 = .ok (.aload_n 0, 1) := by decide +kernel
theorem dX4_add_40 : decode cX4_add 40 = .ok (.getfield 21, 3) := by decide +kernel
theorem dX4_add_43 : decode cX4_add 43 = .ok (.iload_n 3, 1) := by decide +kernel
theorem dX4_add_44 : decode cX4_add 44 = .ok (.invokestatic 25, 3) := by decide +kernel
theorem dX4_add_47 : decode cX4_add 47 = .ok (.aload_n 0, 1) := by decide +kernel
theorem dX4_add_48 : decode cX4_add 48 = .ok (.dup, 1) := by decide +kernel
theorem dX4_add_49 : decode cX4_add 49 = .ok (.getfield 21, 3) := by decide +kernel
theorem dX4_add_52 : decode cX4_add 52 = .ok (.iconst 1, 1) := by decide +kernel
theorem dX4_add_53 : decode cX4_add 53 = .ok (.iadd, 1) := by decide +kernel
theorem dX4_add_54 : decode cX4_add 54 = .ok (.putfield 21, 3) := by decide +kernel
theorem dX4_add_57 : decode cX4_add 57 = .ok (.iconst 1, 1) := by decide +kernel
theorem dX4_add_58 : decode cX4_add 58 = .ok (.ireturn, 1) := by decide +kernel
theorem dX4_stepsOf_0 : decode cX4_stepsOf 0 = .ok (.iconst 0, 1) := by decide +kernel
theorem dX4_stepsOf_1 : decode cX4_stepsOf 1 = .ok (.istore_n 3, 1) := by decide +kernel
theorem dX4_stepsOf_2 : decode cX4_stepsOf 2 = .ok (.aload_n 1, 1) := by decide +kernel
theorem dX4_stepsOf_3 : decode cX4_stepsOf 3 = .ok (.getfield 29, 3) := by decide +kernel
theorem dX4_stepsOf_6 : decode cX4_stepsOf 6 = .ok (.iload_n 2, 1) := by decide +kernel
theorem dX4_stepsOf_7 : decode cX4_stepsOf 7 = .ok (.invokestatic 32, 3) := by decide +kernel
theorem dX4_stepsOf_10 : decode cX4_stepsOf 10 = .ok (.istore 4, 2) := by decide +kernel
theorem dX4_stepsOf_12 : decode cX4_stepsOf 12 = .ok (.iconst 0, 1) := by decide +kernel
theorem dX4_stepsOf_13 : decode cX4_stepsOf 13 = .ok (.istore 5, 2) := by decide +kernel
theorem dX4_stepsOf_15 : decode cX4_stepsOf 15 = .ok (.iload 5, 2) := by decide +kernel
theorem dX4_stepsOf_17 : decode cX4_stepsOf 17 = .ok (.iload 4, 2) := by decide +kernel
theorem dX4_stepsOf_19 : decode cX4_stepsOf 19 = .ok (.if_icmp .ge 27, 3) := by decide +kernel
theorem dX4_stepsOf_22 : decode cX4_stepsOf 22 = .ok (.aload_n 0, 1) := by decide +kernel
theorem dX4_stepsOf_23 : decode cX4_stepsOf 23 = .ok (.aload_n 1, 1) := by decide +kernel
theorem dX4_stepsOf_24 : decode cX4_stepsOf 24 = .ok (.iload_n 2, 1) := by decide +kernel
theorem dX4_stepsOf_25 : decode cX4_stepsOf 25 = .ok (.iload 5, 2) := by decide +kernel
theorem dX4_stepsOf_27 : decode cX4_stepsOf 27 = .ok (.invokevirtual 36, 3) := by decide +kernel
theorem dX4_stepsOf_30 : decode cX4_stepsOf 30 = .ok (.ifCond .eq 10, 3) := by decide +kernel
theorem dX4_stepsOf_33 : decode cX4_stepsOf 33 = .ok (.iload_n 3, 1) := by decide +kernel
theorem dX4_stepsOf_34 : decode cX4_stepsOf 34 = .ok (.iconst 1, 1) := by decide +kernel
theorem dX4_stepsOf_35 : decode cX4_stepsOf 35 = .ok (.iload 5, 2) := by decide +kernel
theorem dX4_stepsOf_37 : decode cX4_stepsOf 37 = .ok (.ishl, 1) := by decide +kernel
theorem dX4_stepsOf_38 : decode cX4_stepsOf 38 = .ok (.ior, 1) := by decide +kernel
theorem dX4_stepsOf_39 : decode cX4_stepsOf 39 = .ok (.istore_n 3, 1) := by decide +kernel
theorem dX4_stepsOf_40 : decode cX4_stepsOf 40 = .ok (.iinc 5 1, 3) := by decide +kernel
theorem dX4_stepsOf_43 : decode cX4_stepsOf 43 = .ok (.goto (-28), 3) := by decide +kernel
theorem dX4_stepsOf_46 : decode cX4_stepsOf 46 = .ok (.iload_n 3, 1) := by decide +kernel
theorem dX4_stepsOf_47 : decode cX4_stepsOf 47 = .ok (.ireturn, 1) := by decide +kernel
theorem dX4_isSo_0 : decode cX4_isSo 0 = .ok (.iconst 0, 1) := by decide +kernel
theorem dX4_isSo_1 : decode cX4_isSo 1 = .ok (.istore 4, 2) := by decide +kernel
theorem dX4_isSo_3 : decode cX4_isSo 3 = .ok (.iload 4, 2) := by decide +kernel
theorem dX4_isSo_5 : decode cX4_isSo 5 = .ok (.aload_n 0, 1) := by decide +kernel
theorem dX4_isSo_6 : decode cX4_isSo 6 = .ok (.getfield 21, 3) := by decide +kernel
theorem dX4_isSo_9 : decode cX4_isSo 9 = .ok (.if_icmp .ge 51, 3) := by decide +kernel
theorem dX4_isSo_12 : decode cX4_isSo 12 = .ok (.aload_n 0, 1) := by decide +kernel
theorem dX4_isSo_13 : decode cX4_isSo 13 = .ok (.getfield 9, 3) := by decide +kernel
theorem dX4_isSo_16 : decode cX4_isSo 16 = .ok (.iload 4, 2) := by decide +kernel
theorem dX4_isSo_18 : decode cX4_isSo 18 = .ok (.invokestatic 32, 3) := by decide +kernel
theorem dX4_isSo_21 : decode cX4_isSo 21 = .ok (.iload_n 2, 1) := by decide +kernel
theorem dX4_isSo_22 : decode cX4_isSo 22 = .ok (.if_icmp .ne 32, 3) := by decide +kernel
theorem dX4_isSo_25 : decode cX4_isSo 25 = .ok (.aload_n 1, 1) := by decide +kernel
theorem dX4_isSo_26 : decode cX4_isSo 26 = .ok (.iload_n 2, 1) := by decide +kernel
theorem dX4_isSo_27 : decode cX4_isSo 27 = .ok (.iload_n 3, 1) := by decide +kernel
theorem dX4_isSo_28 : decode cX4_isSo 28 = .ok (.aload_n 0, 1) := by decide +kernel
theorem dX4_isSo_29 : decode cX4_isSo 29 = .ok (.getfield 15, 3) := by decide +kernel
theorem dX4_isSo_32 : decode cX4_isSo 32 = .ok (.iload 4, 2) := by decide +kernel
theorem dX4_isSo_34 : decode cX4_isSo 34 = .ok (.invokestatic 32, 3) := by decide +kernel
theorem dX4_isSo_37 : decode cX4_isSo 37 = .ok (.invokestatic 40, 3) := by decide +kernel
theorem dX4_isSo_40 : decode cX4_isSo 40 = .ok (.aload_n 0, 1) := by decide +kernel
theorem dX4_isSo_41 : decode cX4_isSo 41 = .ok (.getfield 18, 3) := by decide +kernel
theorem dX4_isSo_44 : decode cX4_isSo 44 = .ok (.iload 4, 2) := by decide +kernel
theorem dX4_isSo_46 : decode cX4_isSo 46 = .ok (.invokestatic 32, 3) := by decide +kernel
theorem dX4_isSo_49 : decode cX4_isSo 49 = .ok (.if_icmp .eq 5, 3) := by decide +kernel
theorem dX4_isSo_52 : decode cX4_isSo 52 = .ok (.iconst 0, 1) := by decide +kernel
theorem dX4_isSo_53 : decode cX4_isSo 53 = .ok (.ireturn, 1) := by decide +kernel
theorem dX4_isSo_54 : decode cX4_isSo 54 = .ok (.iinc 4 1, 3) := by decide +kernel
theorem dX4_isSo_57 : decode cX4_isSo 57 = .ok (.goto (-54), 3) := by decide +kernel
theorem dX4_isSo_60 : decode cX4_isSo 60 = .ok (.iconst 1, 1) := by decide +kernel
theorem dX4_isSo_61 : decode cX4_isSo 61 = .ok (.ireturn, 1) := by decide +kernel
theorem dX4_mostAlike_0 : decode cX4_mostAlike 0 = .ok (.aload_n 1, 1) := by decide +kernel
theorem dX4_mostAlike_1 : decode cX4_mostAlike 1 = .ok (.getfield 29, 3) := by decide +kernel
theorem dX4_mostAlike_4 : decode cX4_mostAlike 4 = .ok (.iload_n 2, 1) := by decide +kernel
theorem dX4_mostAlike_5 : decode cX4_mostAlike 5 = .ok (.invokestatic 32, 3) := by decide +kernel
theorem dX4_mostAlike_8 : decode cX4_mostAlike 8 = .ok (.istore 5, 2) := by decide +kernel
theorem dX4_mostAlike_10 : decode cX4_mostAlike 10 = .ok (.iconst 0, 1) := by decide +kernel
theorem dX4_mostAlike_11 : decode cX4_mostAlike 11 = .ok (.istore 6, 2) := by decide +kernel
theorem dX4_mostAlike_13 : decode cX4_mostAlike 13 = .ok (.iconst 0, 1) := by decide +kernel
theorem dX4_mostAlike_14 : decode cX4_mostAlike 14 = .ok (.istore 7, 2) := by decide +kernel
theorem dX4_mostAlike_16 : decode cX4_mostAlike 16 = .ok (.iload 7, 2) := by decide +kernel
theorem dX4_mostAlike_18 : decode cX4_mostAlike 18 = .ok (.iload 5, 2) := by decide +kernel
theorem dX4_mostAlike_20 : decode cX4_mostAlike 20 = .ok (.if_icmp .ge 63, 3) := by decide +kernel
theorem dX4_mostAlike_23 : decode cX4_mostAlike 23 = .ok (.iconst 0, 1) := by decide +kernel
theorem dX4_mostAlike_24 : decode cX4_mostAlike 24 = .ok (.istore 8, 2) := by decide +kernel
theorem dX4_mostAlike_26 : decode cX4_mostAlike 26 = .ok (.iconst 0, 1) := by decide +kernel
theorem dX4_mostAlike_27 : decode cX4_mostAlike 27 = .ok (.istore 9, 2) := by decide +kernel
theorem dX4_mostAlike_29 : decode cX4_mostAlike 29 = .ok (.iload 9, 2) := by decide +kernel
theorem dX4_mostAlike_31 : decode cX4_mostAlike 31 = .ok (.iload 5, 2) := by decide +kernel
theorem dX4_mostAlike_33 : decode cX4_mostAlike 33 = .ok (.if_icmp .ge 35, 3) := by decide +kernel
theorem dX4_mostAlike_36 : decode cX4_mostAlike 36 = .ok (.iload_n 3, 1) := by decide +kernel
theorem dX4_mostAlike_37 : decode cX4_mostAlike 37 = .ok (.iload 9, 2) := by decide +kernel
theorem dX4_mostAlike_39 : decode cX4_mostAlike 39 = .ok (.ishr, 1) := by decide +kernel
theorem dX4_mostAlike_40 : decode cX4_mostAlike 40 = .ok (.iconst 1, 1) := by decide +kernel
theorem dX4_mostAlike_41 : decode cX4_mostAlike 41 = .ok (.iand, 1) := by decide +kernel
theorem dX4_mostAlike_42 : decode cX4_mostAlike 42 = .ok (.ifCond .eq 20, 3) := by decide +kernel
theorem dX4_mostAlike_45 : decode cX4_mostAlike 45 = .ok (.aload_n 1, 1) := by decide +kernel
theorem dX4_mostAlike_46 : decode cX4_mostAlike 46 = .ok (.iload_n 2, 1) := by decide +kernel
theorem dX4_mostAlike_47 : decode cX4_mostAlike 47 = .ok (.iload 9, 2) := by decide +kernel
theorem dX4_mostAlike_49 : decode cX4_mostAlike 49 = .ok (.iload 4, 2) := by decide +kernel
theorem dX4_mostAlike_51 : decode cX4_mostAlike 51 = .ok (.invokestatic 40, 3) := by decide +kernel
theorem dX4_mostAlike_54 : decode cX4_mostAlike 54 = .ok (.iload 7, 2) := by decide +kernel
theorem dX4_mostAlike_56 : decode cX4_mostAlike 56 = .ok (.if_icmp .ne 6, 3) := by decide +kernel
theorem dX4_mostAlike_59 : decode cX4_mostAlike 59 = .ok (.iinc 8 1, 3) := by decide +kernel
theorem dX4_mostAlike_62 : decode cX4_mostAlike 62 = .ok (.iinc 9 1, 3) := by decide +kernel
theorem dX4_mostAlike_65 : decode cX4_mostAlike 65 = .ok (.goto (-36), 3) := by decide +kernel
theorem dX4_mostAlike_68 : decode cX4_mostAlike 68 = .ok (.iload 6, 2) := by decide +kernel
theorem dX4_mostAlike_70 : decode cX4_mostAlike 70 = .ok (.iload 8, 2) := by decide +kernel
theorem dX4_mostAlike_72 : decode cX4_mostAlike 72 = .ok (.invokestatic 44, 3) := by decide +kernel
theorem dX4_mostAlike_75 : decode cX4_mostAlike 75 = .ok (.istore 6, 2) := by decide +kernel
theorem dX4_mostAlike_77 : decode cX4_mostAlike 77 = .ok (.iinc 7 1, 3) := by decide +kernel
theorem dX4_mostAlike_80 : decode cX4_mostAlike 80 = .ok (.goto (-64), 3) := by decide +kernel
theorem dX4_mostAlike_83 : decode cX4_mostAlike 83 = .ok (.iload 6, 2) := by decide +kernel
theorem dX4_mostAlike_85 : decode cX4_mostAlike 85 = .ok (.ireturn, 1) := by decide +kernel
theorem dX4_toothBehind_0 : decode cX4_toothBehind 0 = .ok (.aload_n 0, 1) := by decide +kernel
theorem dX4_toothBehind_1 : decode cX4_toothBehind 1 = .ok (.getfield 29, 3) := by decide +kernel
theorem dX4_toothBehind_4 : decode cX4_toothBehind 4 = .ok (.iload_n 1, 1) := by decide +kernel
theorem dX4_toothBehind_5 : decode cX4_toothBehind 5 = .ok (.invokestatic 32, 3) := by decide +kernel
theorem dX4_toothBehind_8 : decode cX4_toothBehind 8 = .ok (.istore 4, 2) := by decide +kernel
theorem dX4_toothBehind_10 : decode cX4_toothBehind 10 = .ok (.iload 4, 2) := by decide +kernel
theorem dX4_toothBehind_12 : decode cX4_toothBehind 12 = .ok (.ifCond .le 21, 3) := by decide +kernel
theorem dX4_toothBehind_15 : decode cX4_toothBehind 15 = .ok (.aload_n 0, 1) := by decide +kernel
theorem dX4_toothBehind_16 : decode cX4_toothBehind 16 = .ok (.getfield 50, 3) := by decide +kernel
theorem dX4_toothBehind_19 : decode cX4_toothBehind 19 = .ok (.iload_n 1, 1) := by decide +kernel
theorem dX4_toothBehind_20 : decode cX4_toothBehind 20 = .ok (.invokestatic 32, 3) := by decide +kernel
theorem dX4_toothBehind_23 : decode cX4_toothBehind 23 = .ok (.iload_n 2, 1) := by decide +kernel
theorem dX4_toothBehind_24 : decode cX4_toothBehind 24 = .ok (.iload_n 3, 1) := by decide +kernel
theorem dX4_toothBehind_25 : decode cX4_toothBehind 25 = .ok (.imul, 1) := by decide +kernel
theorem dX4_toothBehind_26 : decode cX4_toothBehind 26 = .ok (.iadd, 1) := by decide +kernel
theorem dX4_toothBehind_27 : decode cX4_toothBehind 27 = .ok (.iload 4, 2) := by decide +kernel
theorem dX4_toothBehind_29 : decode cX4_toothBehind 29 = .ok (.irem, 1) := by decide +kernel
theorem dX4_toothBehind_30 : decode cX4_toothBehind 30 = .ok (.goto 4, 3) := by decide +kernel
theorem dX4_toothBehind_33 : decode cX4_toothBehind 33 = .ok (.iconst 0, 1) := by decide +kernel
theorem dX4_toothBehind_34 : decode cX4_toothBehind 34 = .ok (.ireturn, 1) := by decide +kernel
theorem dX5_init_0 : decode cX5_init 0 = .ok (.aload_n 0, 1) := by decide +kernel
theorem dX5_init_1 : decode cX5_init 1 = .ok (.invokespecial 3, 3) := by decide +kernel
theorem dX5_init_4 : decode cX5_init 4 = .ok (.aload_n 0, 1) := by decide +kernel
theorem dX5_init_5 : decode cX5_init 5 = .ok (.sipush 200, 3) := by decide +kernel
theorem dX5_init_8 : decode cX5_init 8 = .ok (.newarray .char, 2) := by decide +kernel
theorem dX5_init_10 : decode cX5_init 10 = .ok (.putfield 9, 3) := by decide +kernel
theorem dX5_init_13 : decode cX5_init 13 = .ok (.aload_n 0, 1) := by decide +kernel
theorem dX5_init_14 : decode cX5_init 14 = .ok (.iconst 4, 1) := by decide +kernel
theorem dX5_init_15 : decode cX5_init 15 = .ok (.newarray .int, 2) := by decide +kernel
theorem dX5_init_17 : decode cX5_init 17 = .ok (.putfield 15, 3) := by decide +kernel
theorem dX5_init_20 : decode cX5_init 20 = .ok (.return_, 1) := by decide +kernel
theorem dX5_add_0 : decode cX5_add 0 = .ok (.aload_n 0, 1) := by decide +kernel
theorem dX5_add_1 : decode cX5_add 1 = .ok (.getfield 19, 3) := by decide +kernel
theorem dX5_add_4 : decode cX5_add 4 = .ok (.ifCond .lt 15, 3) := by decide +kernel
theorem dX5_add_7 : decode cX5_add 7 = .ok (.aload_n 0, 1) := by decide +kernel
theorem dX5_add_8 : decode cX5_add 8 = .ok (.getfield 19, 3) := by decide +kernel
theorem dX5_add_11 : decode cX5_add 11 = .ok (.aload_n 0, 1) := by decide +kernel
theorem dX5_add_12 : decode cX5_add 12 = .ok (.getfield 9, 3) := by decide +kernel
theorem dX5_add_15 : decode cX5_add 15 = .ok (.arraylength, 1) := by decide +kernel
theorem dX5_add_16 : decode cX5_add 16 = .ok (.if_icmp .lt 5, 3) := by decide +kernel
theorem dX5_add_19 : decode cX5_add 19 = .ok (.iconst 0, 1) := by decide +kernel
theorem dX5_add_20 : decode cX5_add 20 = .ok (.ireturn, 1) := by decide +kernel
theorem dX5_add_21 : decode cX5_add 21 = .ok (.aload_n 0, 1) := by decide +kernel
theorem dX5_add_22 : decode cX5_add 22 = .ok (.getfield 9, 3) := by decide +kernel
theorem dX5_add_25 : decode cX5_add 25 = .ok (.aload_n 0, 1) := by decide +kernel
theorem dX5_add_26 : decode cX5_add 26 = .ok (.getfield 19, 3) := by decide +kernel
theorem dX5_add_29 : decode cX5_add 29 = .ok (.iload_n 1, 1) := by decide +kernel
theorem dX5_add_30 : decode cX5_add 30 = .ok (.castore, 1) := by decide +kernel
theorem dX5_add_31 : decode cX5_add 31 = .ok (.aload_n 0, 1) := by decide +kernel
theorem dX5_add_32 : decode cX5_add 32 = .ok (.dup, 1) := by decide +kernel
theorem dX5_add_33 : decode cX5_add 33 = .ok (.getfield 19, 3) := by decide +kernel
theorem dX5_add_36 : decode cX5_add 36 = .ok (.iconst 1, 1) := by decide +kernel
theorem dX5_add_37 : decode cX5_add 37 = .ok (.iadd, 1) := by decide +kernel
theorem dX5_add_38 : decode cX5_add 38 = .ok (.putfield 19, 3) := by decide +kernel
theorem dX5_add_41 : decode cX5_add 41 = .ok (.iconst 1, 1) := by decide +kernel
theorem dX5_add_42 : decode cX5_add 42 = .ok (.ireturn, 1) := by decide +kernel
theorem dX5_empty_0 : decode cX5_empty 0 = .ok (.aload_n 0, 1) := by decide +kernel
theorem dX5_empty_1 : decode cX5_empty 1 = .ok (.iconst 0, 1) := by decide +kernel
theorem dX5_empty_2 : decode cX5_empty 2 = .ok (.putfield 19, 3) := by decide +kernel
theorem dX5_empty_5 : decode cX5_empty 5 = .ok (.return_, 1) := by decide +kernel
theorem dX5_readInto_0 : decode cX5_readInto 0 = .ok (.aload_n 1, 1) := by decide +kernel
theorem dX5_readInto_1 : decode cX5_readInto 1 = .ok (.invokevirtual 23, 3) := by decide +kernel
theorem dX5_readInto_4 : decode cX5_readInto 4 = .ok (.aload_n 0, 1) := by decide +kernel
theorem dX5_readInto_5 : decode cX5_readInto 5 = .ok (.iconst 0, 1) := by decide +kernel
theorem dX5_readInto_6 : decode cX5_readInto 6 = .ok (.putfield 28, 3) := by decide +kernel
theorem dX5_readInto_9 : decode cX5_readInto 9 = .ok (.iconst 0, 1) := by decide +kernel
theorem dX5_readInto_10 : decode cX5_readInto 10 = .ok (.istore_n 2, 1) := by decide +kernel
theorem dX5_readInto_11 : decode cX5_readInto 11 = .ok (.iload_n 2, 1) := by decide +kernel
theorem dX5_readInto_12 : decode cX5_readInto 12 = .ok (.sipush 200, 3) := by decide +kernel
theorem dX5_readInto_15 : decode cX5_readInto 15 = .ok (.if_icmp .ge 35, 3) := by decide +kernel
theorem dX5_readInto_18 : decode cX5_readInto 18 = .ok (.aload_n 0, 1) := by decide +kernel
theorem dX5_readInto_19 : decode cX5_readInto 19 = .ok (.getfield 28, 3) := by decide +kernel
theorem dX5_readInto_22 : decode cX5_readInto 22 = .ok (.aload_n 0, 1) := by decide +kernel
theorem dX5_readInto_23 : decode cX5_readInto 23 = .ok (.getfield 19, 3) := by decide +kernel
theorem dX5_readInto_26 : decode cX5_readInto 26 = .ok (.if_icmp .ge 24, 3) := by decide +kernel
theorem dX5_readInto_29 : decode cX5_readInto 29 = .ok (.aload_n 0, 1) := by decide +kernel
theorem dX5_readInto_30 : decode cX5_readInto 30 = .ok (.getfield 28, 3) := by decide +kernel
theorem dX5_readInto_33 : decode cX5_readInto 33 = .ok (.istore_n 3, 1) := by decide +kernel
theorem dX5_readInto_34 : decode cX5_readInto 34 = .ok (.aload_n 0, 1) := by decide +kernel
theorem dX5_readInto_35 : decode cX5_readInto 35 = .ok (.aload_n 1, 1) := by decide +kernel
theorem dX5_readInto_36 : decode cX5_readInto 36 = .ok (.invokevirtual 31, 3) := by decide +kernel
theorem dX5_readInto_39 : decode cX5_readInto 39 = .ok (.ifCond .ne 5, 3) := by decide +kernel
theorem dX5_readInto_42 : decode cX5_readInto 42 = .ok (.iload_n 3, 1) := by decide +kernel
theorem dX5_readInto_43 : decode cX5_readInto 43 = .ok (.ireturn, 1) := by decide +kernel
theorem dX5_readInto_44 : decode cX5_readInto 44 = .ok (.iinc 2 1, 3) := by decide +kernel
theorem dX5_readInto_47 : decode cX5_readInto 47 = .ok (.goto (-36), 3) := by decide +kernel
theorem dX5_readInto_50 : decode cX5_readInto 50 = .ok (.bipush (-4), 2) := by decide +kernel
theorem dX5_readInto_52 : decode cX5_readInto 52 = .ok (.ireturn, 1) := by decide +kernel
theorem dX5_readItem_0 : decode cX5_readItem 0 = .ok (.aload_n 0, 1) := by decide +kernel
theorem dX5_readItem_1 : decode cX5_readItem 1 = .ok (.aload_n 0, 1) := by decide +kernel
theorem dX5_readItem_2 : decode cX5_readItem 2 = .ok (.getfield 28, 3) := by decide +kernel
theorem dX5_readItem_5 : decode cX5_readItem 5 = .ok (.invokevirtual 35, 3) := by decide +kernel
theorem dX5_readItem_8 : decode cX5_readItem 8 = .ok (.istore_n 2, 1) := by decide +kernel
theorem dX5_readItem_9 : decode cX5_readItem 9 = .ok (.iload_n 2, 1) := by decide +kernel
theorem dX5_readItem_10 : decode cX5_readItem 10 = .ok (.invokestatic 39, 3) := by decide +kernel
theorem dX5_readItem_13 : decode cX5_readItem 13 = .ok (.istore_n 3, 1) := by decide +kernel
theorem dX5_readItem_14 : decode cX5_readItem 14 = .ok (.aload_n 0, 1) := by decide +kernel
theorem dX5_readItem_15 : decode cX5_readItem 15 = .ok (.dup, 1) := by decide +kernel
theorem dX5_readItem_16 : decode cX5_readItem 16 = .ok (.getfield 28, 3) := by decide +kernel
theorem dX5_readItem_19 : decode cX5_readItem 19 = .ok (.iconst 1, 1) := by decide +kernel
theorem dX5_readItem_20 : decode cX5_readItem 20 = .ok (.iadd, 1) := by decide +kernel
theorem dX5_readItem_21 : decode cX5_readItem 21 = .ok (.putfield 28, 3) := by decide +kernel
theorem dX5_readItem_24 : decode cX5_readItem 24 = .ok (.iconst 0, 1) := by decide +kernel
theorem dX5_readItem_25 : decode cX5_readItem 25 = .ok (.istore 4, 2) := by decide +kernel
theorem dX5_readItem_27 : decode cX5_readItem 27 = .ok (.iload 4, 2) := by decide +kernel
theorem dX5_readItem_29 : decode cX5_readItem 29 = .ok (.iload_n 3, 1) := by decide +kernel
theorem dX5_readItem_30 : decode cX5_readItem 30 = .ok (.if_icmp .ge 73, 3) := by decide +kernel
theorem dX5_readItem_33 : decode cX5_readItem 33 = .ok (.aload_n 0, 1) := by decide +kernel
theorem dX5_readItem_34 : decode cX5_readItem 34 = .ok (.invokevirtual 42, 3) := by decide +kernel
theorem dX5_readItem_37 : decode cX5_readItem 37 = .ok (.istore 5, 2) := by decide +kernel
theorem dX5_readItem_39 : decode cX5_readItem 39 = .ok (.iload 4, 2) := by decide +kernel
theorem dX5_readItem_41 : decode cX5_readItem 41 = .ok (.iload_n 3, 1) := by decide +kernel
theorem dX5_readItem_42 : decode cX5_readItem 42 = .ok (.iconst 1, 1) := by decide +kernel
theorem dX5_readItem_43 : decode cX5_readItem 43 = .ok (.isub, 1) := by decide +kernel
theorem dX5_readItem_44 : decode cX5_readItem 44 = .ok (.if_icmp .ge 8, 3) := by decide +kernel
theorem dX5_readItem_47 : decode cX5_readItem 47 = .ok (.bipush 44, 2) := by decide +kernel
theorem dX5_readItem_49 : decode cX5_readItem 49 = .ok (.goto 5, 3) := by decide +kernel
theorem dX5_readItem_52 : decode cX5_readItem 52 = .ok (.bipush 59, 2) := by decide +kernel
theorem dX5_readItem_54 : decode cX5_readItem 54 = .ok (.istore 6, 2) := by decide +kernel
theorem dX5_readItem_56 : decode cX5_readItem 56 = .ok (.iload 5, 2) := by decide +kernel
theorem dX5_readItem_58 : decode cX5_readItem 58 = .ok (.ifCond .lt 16, 3) := by decide +kernel
theorem dX5_readItem_61 : decode cX5_readItem 61 = .ok (.aload_n 0, 1) := by decide +kernel
theorem dX5_readItem_62 : decode cX5_readItem 62 = .ok (.aload_n 0, 1) := by decide +kernel
theorem dX5_readItem_63 : decode cX5_readItem 63 = .ok (.getfield 28, 3) := by decide +kernel
theorem dX5_readItem_66 : decode cX5_readItem 66 = .ok (.invokevirtual 35, 3) := by decide +kernel
theorem dX5_readItem_69 : decode cX5_readItem 69 = .ok (.iload 6, 2) := by decide +kernel
theorem dX5_readItem_71 : decode cX5_readItem 71 = .ok (.if_icmp .eq 5, 3) := by decide +kernel
theorem dX5_readItem_74 : decode cX5_readItem 74 = .ok (.iconst 0, 1) := by decide +kernel
theorem dX5_readItem_75 : decode cX5_readItem 75 = .ok (.ireturn, 1) := by decide +kernel
theorem dX5_readItem_76 : decode cX5_readItem 76 = .ok (.aload_n 0, 1) := by decide +kernel
theorem dX5_readItem_77 : decode cX5_readItem 77 = .ok (.dup, 1) := by decide +kernel
theorem dX5_readItem_78 : decode cX5_readItem 78 = .ok (.getfield 28, 3) := by decide +kernel
theorem dX5_readItem_81 : decode cX5_readItem 81 = .ok (.iconst 1, 1) := by decide +kernel
theorem dX5_readItem_82 : decode cX5_readItem 82 = .ok (.iadd, 1) := by decide +kernel
theorem dX5_readItem_83 : decode cX5_readItem 83 = .ok (.putfield 28, 3) := by decide +kernel
theorem dX5_readItem_86 : decode cX5_readItem 86 = .ok (.aload_n 0, 1) := by decide +kernel
theorem dX5_readItem_87 : decode cX5_readItem 87 = .ok (.getfield 15, 3) := by decide +kernel
theorem dX5_readItem_90 : decode cX5_readItem 90 = .ok (.iload 4, 2) := by decide +kernel
theorem dX5_readItem_92 : decode cX5_readItem 92 = .ok (.iload 5, 2) := by decide +kernel
theorem dX5_readItem_94 : decode cX5_readItem 94 = .ok (.invokestatic 46, 3) := by decide +kernel
theorem dX5_readItem_97 : decode cX5_readItem 97 = .ok (.iinc 4 1, 3) := by decide +kernel
theorem dX5_readItem_100 : decode cX5_readItem 100 = .ok (.goto (-73), 3) := by decide +kernel
theorem dX5_readItem_103 : decode cX5_readItem 103 = .ok (.iload_n 3, 1) := by decide +kernel
theorem dX5_readItem_104 : decode cX5_readItem 104 = .ok (.ifCond .le 19, 3) := by decide +kernel
theorem dX5_readItem_107 : decode cX5_readItem 107 = .ok (.aload_n 1, 1) := by decide +kernel
theorem dX5_readItem_108 : decode cX5_readItem 108 = .ok (.iload_n 2, 1) := by decide +kernel
theorem dX5_readItem_109 : decode cX5_readItem 109 = .ok (.aload_n 0, 1) := by decide +kernel
theorem dX5_readItem_110 : decode cX5_readItem 110 = .ok (.getfield 15, 3) := by decide +kernel
theorem dX5_readItem_113 : decode cX5_readItem 113 = .ok (.invokevirtual 50, 3) := by decide +kernel
theorem dX5_readItem_116 : decode cX5_readItem 116 = .ok (.ifCond .eq 7, 3) := by decide +kernel
theorem dX5_readItem_119 : decode cX5_readItem 119 = .ok (.iconst 1, 1) := by decide +kernel
theorem dX5_readItem_120 : decode cX5_readItem 120 = .ok (.goto 4, 3) := by decide +kernel
theorem dX5_readItem_123 : decode cX5_readItem 123 = .ok (.iconst 0, 1) := by decide +kernel
theorem dX5_readItem_124 : decode cX5_readItem 124 = .ok (.ireturn, 1) := by decide +kernel
theorem dX5_numbersOf_0 : decode cX5_numbersOf 0 = .ok (.iload_n 0, 1) := by decide +kernel
theorem dX5_numbersOf_1 : decode cX5_numbersOf 1 = .ok (.tableswitch 63 111 120 #[61, 59, 63, 63, 63, 63, 63, 63, 55, 57], 55) := by decide +kernel
theorem dX5_numbersOf_56 : decode cX5_numbersOf 56 = .ok (.iconst 3, 1) := by decide +kernel
theorem dX5_numbersOf_57 : decode cX5_numbersOf 57 = .ok (.ireturn, 1) := by decide +kernel
theorem dX5_numbersOf_58 : decode cX5_numbersOf 58 = .ok (.iconst 4, 1) := by decide +kernel
theorem dX5_numbersOf_59 : decode cX5_numbersOf 59 = .ok (.ireturn, 1) := by decide +kernel
theorem dX5_numbersOf_60 : decode cX5_numbersOf 60 = .ok (.iconst 1, 1) := by decide +kernel
theorem dX5_numbersOf_61 : decode cX5_numbersOf 61 = .ok (.ireturn, 1) := by decide +kernel
theorem dX5_numbersOf_62 : decode cX5_numbersOf 62 = .ok (.iconst 2, 1) := by decide +kernel
theorem dX5_numbersOf_63 : decode cX5_numbersOf 63 = .ok (.ireturn, 1) := by decide +kernel
theorem dX5_numbersOf_64 : decode cX5_numbersOf 64 = .ok (.iconst 0, 1) := by decide +kernel
theorem dX5_numbersOf_65 : decode cX5_numbersOf 65 = .ok (.ireturn, 1) := by decide +kernel
theorem dX5_readNumber_0 : decode cX5_readNumber 0 = .ok (.aload_n 0, 1) := by decide +kernel
theorem dX5_readNumber_1 : decode cX5_readNumber 1 = .ok (.aload_n 0, 1) := by decide +kernel
theorem dX5_readNumber_2 : decode cX5_readNumber 2 = .ok (.getfield 28, 3) := by decide +kernel
theorem dX5_readNumber_5 : decode cX5_readNumber 5 = .ok (.invokevirtual 54, 3) := by decide +kernel
theorem dX5_readNumber_8 : decode cX5_readNumber 8 = .ok (.istore_n 1, 1) := by decide +kernel
theorem dX5_readNumber_9 : decode cX5_readNumber 9 = .ok (.iload_n 1, 1) := by decide +kernel
theorem dX5_readNumber_10 : decode cX5_readNumber 10 = .ok (.ifCond .ge 5, 3) := by decide +kernel
theorem dX5_readNumber_13 : decode cX5_readNumber 13 = .ok (.iconst (-1), 1) := by decide +kernel
theorem dX5_readNumber_14 : decode cX5_readNumber 14 = .ok (.ireturn, 1) := by decide +kernel
theorem dX5_readNumber_15 : decode cX5_readNumber 15 = .ok (.aload_n 0, 1) := by decide +kernel
theorem dX5_readNumber_16 : decode cX5_readNumber 16 = .ok (.dup, 1) := by decide +kernel
theorem dX5_readNumber_17 : decode cX5_readNumber 17 = .ok (.getfield 28, 3) := by decide +kernel
theorem dX5_readNumber_20 : decode cX5_readNumber 20 = .ok (.iconst 1, 1) := by decide +kernel
theorem dX5_readNumber_21 : decode cX5_readNumber 21 = .ok (.iadd, 1) := by decide +kernel
theorem dX5_readNumber_22 : decode cX5_readNumber 22 = .ok (.putfield 28, 3) := by decide +kernel
theorem dX5_readNumber_25 : decode cX5_readNumber 25 = .ok (.aload_n 0, 1) := by decide +kernel
theorem dX5_readNumber_26 : decode cX5_readNumber 26 = .ok (.aload_n 0, 1) := by decide +kernel
theorem dX5_readNumber_27 : decode cX5_readNumber 27 = .ok (.getfield 28, 3) := by decide +kernel
theorem dX5_readNumber_30 : decode cX5_readNumber 30 = .ok (.invokevirtual 54, 3) := by decide +kernel
theorem dX5_readNumber_33 : decode cX5_readNumber 33 = .ok (.istore_n 2, 1) := by decide +kernel
theorem dX5_readNumber_34 : decode cX5_readNumber 34 = .ok (.iload_n 2, 1) := by decide +kernel
theorem dX5_readNumber_35 : decode cX5_readNumber 35 = .ok (.ifCond .ge 5, 3) := by decide +kernel
theorem dX5_readNumber_38 : decode cX5_readNumber 38 = .ok (.iload_n 1, 1) := by decide +kernel
theorem dX5_readNumber_39 : decode cX5_readNumber 39 = .ok (.ireturn, 1) := by decide +kernel
theorem dX5_readNumber_40 : decode cX5_readNumber 40 = .ok (.aload_n 0, 1) := by decide +kernel
theorem dX5_readNumber_41 : decode cX5_readNumber 41 = .ok (.dup, 1) := by decide +kernel
theorem dX5_readNumber_42 : decode cX5_readNumber 42 = .ok (.getfield 28, 3) := by decide +kernel
theorem dX5_readNumber_45 : decode cX5_readNumber 45 = .ok (.iconst 1, 1) := by decide +kernel
theorem dX5_readNumber_46 : decode cX5_readNumber 46 = .ok (.iadd, 1) := by decide +kernel
theorem dX5_readNumber_47 : decode cX5_readNumber 47 = .ok (.putfield 28, 3) := by decide +kernel
theorem dX5_readNumber_50 : decode cX5_readNumber 50 = .ok (.bipush 10, 2) := by decide +kernel
theorem dX5_readNumber_52 : decode cX5_readNumber 52 = .ok (.iload_n 1, 1) := by decide +kernel
theorem dX5_readNumber_53 : decode cX5_readNumber 53 = .ok (.imul, 1) := by decide +kernel
theorem dX5_readNumber_54 : decode cX5_readNumber 54 = .ok (.iload_n 2, 1) := by decide +kernel
theorem dX5_readNumber_55 : decode cX5_readNumber 55 = .ok (.iadd, 1) := by decide +kernel
theorem dX5_readNumber_56 : decode cX5_readNumber 56 = .ok (.ireturn, 1) := by decide +kernel
theorem dX5_figureAt_0 : decode cX5_figureAt 0 = .ok (.aload_n 0, 1) := by decide +kernel
theorem dX5_figureAt_1 : decode cX5_figureAt 1 = .ok (.iload_n 1, 1) := by decide +kernel
theorem dX5_figureAt_2 : decode cX5_figureAt 2 = .ok (.invokevirtual 35, 3) := by decide +kernel
theorem dX5_figureAt_5 : decode cX5_figureAt 5 = .ok (.istore_n 2, 1) := by decide +kernel
theorem dX5_figureAt_6 : decode cX5_figureAt 6 = .ok (.iload_n 2, 1) := by decide +kernel
theorem dX5_figureAt_7 : decode cX5_figureAt 7 = .ok (.bipush 48, 2) := by decide +kernel
theorem dX5_figureAt_9 : decode cX5_figureAt 9 = .ok (.if_icmp .lt 16, 3) := by decide +kernel
theorem dX5_figureAt_12 : decode cX5_figureAt 12 = .ok (.iload_n 2, 1) := by decide +kernel
theorem dX5_figureAt_13 : decode cX5_figureAt 13 = .ok (.bipush 57, 2) := by decide +kernel
theorem dX5_figureAt_15 : decode cX5_figureAt 15 = .ok (.if_icmp .gt 10, 3) := by decide +kernel
theorem dX5_figureAt_18 : decode cX5_figureAt 18 = .ok (.iload_n 2, 1) := by decide +kernel
theorem dX5_figureAt_19 : decode cX5_figureAt 19 = .ok (.bipush 48, 2) := by decide +kernel
theorem dX5_figureAt_21 : decode cX5_figureAt 21 = .ok (.isub, 1) := by decide +kernel
theorem dX5_figureAt_22 : decode cX5_figureAt 22 = .ok (.goto 4, 3) := by decide +kernel
theorem dX5_figureAt_25 : decode cX5_figureAt 25 = .ok (.iconst (-1), 1) := by decide +kernel
theorem dX5_figureAt_26 : decode cX5_figureAt 26 = .ok (.ireturn, 1) := by decide +kernel
theorem dX5_letterAt_0 : decode cX5_letterAt 0 = .ok (.iload_n 1, 1) := by decide +kernel
theorem dX5_letterAt_1 : decode cX5_letterAt 1 = .ok (.ifCond .lt 29, 3) := by decide +kernel
theorem dX5_letterAt_4 : decode cX5_letterAt 4 = .ok (.iload_n 1, 1) := by decide +kernel
theorem dX5_letterAt_5 : decode cX5_letterAt 5 = .ok (.aload_n 0, 1) := by decide +kernel
theorem dX5_letterAt_6 : decode cX5_letterAt 6 = .ok (.getfield 19, 3) := by decide +kernel
theorem dX5_letterAt_9 : decode cX5_letterAt 9 = .ok (.if_icmp .ge 21, 3) := by decide +kernel
theorem dX5_letterAt_12 : decode cX5_letterAt 12 = .ok (.iload_n 1, 1) := by decide +kernel
theorem dX5_letterAt_13 : decode cX5_letterAt 13 = .ok (.aload_n 0, 1) := by decide +kernel
theorem dX5_letterAt_14 : decode cX5_letterAt 14 = .ok (.getfield 9, 3) := by decide +kernel
theorem dX5_letterAt_17 : decode cX5_letterAt 17 = .ok (.arraylength, 1) := by decide +kernel
theorem dX5_letterAt_18 : decode cX5_letterAt 18 = .ok (.if_icmp .ge 12, 3) := by decide +kernel
theorem dX5_letterAt_21 : decode cX5_letterAt 21 = .ok (.aload_n 0, 1) := by decide +kernel
theorem dX5_letterAt_22 : decode cX5_letterAt 22 = .ok (.getfield 9, 3) := by decide +kernel
theorem dX5_letterAt_25 : decode cX5_letterAt 25 = .ok (.iload_n 1, 1) := by decide +kernel
theorem dX5_letterAt_26 : decode cX5_letterAt 26 = .ok (.caload, 1) := by decide +kernel
theorem dX5_letterAt_27 : decode cX5_letterAt 27 = .ok (.goto 4, 3) := by decide +kernel
theorem dX5_letterAt_30 : decode cX5_letterAt 30 = .ok (.iconst 0, 1) := by decide +kernel
theorem dX5_letterAt_31 : decode cX5_letterAt 31 = .ok (.ireturn, 1) := by decide +kernel
theorem dX6_init_0 : decode cX6_init 0 = .ok (.aload_n 0, 1) := by decide +kernel
theorem dX6_init_1 : decode cX6_init 1 = .ok (.invokespecial 3, 3) := by decide +kernel
theorem dX6_init_4 : decode cX6_init 4 = .ok (.aload_n 0, 1) := by decide +kernel
theorem dX6_init_5 : decode cX6_init 5 = .ok (.new 9, 3) := by decide +kernel
theorem dX6_init_8 : decode cX6_init 8 = .ok (.dup, 1) := by decide +kernel
theorem dX6_init_9 : decode cX6_init 9 = .ok (.invokespecial 11, 3) := by decide +kernel
theorem dX6_init_12 : decode cX6_init 12 = .ok (.putfield 12, 3) := by decide +kernel
theorem dX6_init_15 : decode cX6_init 15 = .ok (.aload_n 0, 1) := by decide +kernel
theorem dX6_init_16 : decode cX6_init 16 = .ok (.new 16, 3) := by decide +kernel
theorem dX6_init_19 : decode cX6_init 19 = .ok (.dup, 1) := by decide +kernel
theorem dX6_init_20 : decode cX6_init 20 = .ok (.invokespecial 18, 3) := by decide +kernel
theorem dX6_init_23 : decode cX6_init 23 = .ok (.putfield 19, 3) := by decide +kernel
theorem dX6_init_26 : decode cX6_init 26 = .ok (.aload_n 0, 1) := by decide +kernel
theorem dX6_init_27 : decode cX6_init 27 = .ok (.new 23, 3) := by decide +kernel
theorem dX6_init_30 : decode cX6_init 30 = .ok (.dup, 1) := by decide +kernel
theorem dX6_init_31 : decode cX6_init 31 = .ok (.bipush 8, 2) := by decide +kernel
theorem dX6_init_33 : decode cX6_init 33 = .ok (.invokespecial 25, 3) := by decide +kernel
theorem dX6_init_36 : decode cX6_init 36 = .ok (.putfield 28, 3) := by decide +kernel
theorem dX6_init_39 : decode cX6_init 39 = .ok (.aload_n 0, 1) := by decide +kernel
theorem dX6_init_40 : decode cX6_init 40 = .ok (.new 23, 3) := by decide +kernel
theorem dX6_init_43 : decode cX6_init 43 = .ok (.dup, 1) := by decide +kernel
theorem dX6_init_44 : decode cX6_init 44 = .ok (.iconst 2, 1) := by decide +kernel
theorem dX6_init_45 : decode cX6_init 45 = .ok (.invokespecial 25, 3) := by decide +kernel
theorem dX6_init_48 : decode cX6_init 48 = .ok (.putfield 32, 3) := by decide +kernel
theorem dX6_init_51 : decode cX6_init 51 = .ok (.aload_n 0, 1) := by decide +kernel
theorem dX6_init_52 : decode cX6_init 52 = .ok (.new 35, 3) := by decide +kernel
theorem dX6_init_55 : decode cX6_init 55 = .ok (.dup, 1) := by decide +kernel
theorem dX6_init_56 : decode cX6_init 56 = .ok (.invokespecial 37, 3) := by decide +kernel
theorem dX6_init_59 : decode cX6_init 59 = .ok (.putfield 38, 3) := by decide +kernel
theorem dX6_init_62 : decode cX6_init 62 = .ok (.aload_n 0, 1) := by decide +kernel
theorem dX6_init_63 : decode cX6_init 63 = .ok (.new 35, 3) := by decide +kernel
theorem dX6_init_66 : decode cX6_init 66 = .ok (.dup, 1) := by decide +kernel
theorem dX6_init_67 : decode cX6_init 67 = .ok (.invokespecial 37, 3) := by decide +kernel
theorem dX6_init_70 : decode cX6_init 70 = .ok (.putfield 42, 3) := by decide +kernel
theorem dX6_init_73 : decode cX6_init 73 = .ok (.aload_n 0, 1) := by decide +kernel
theorem dX6_init_74 : decode cX6_init 74 = .ok (.new 45, 3) := by decide +kernel
theorem dX6_init_77 : decode cX6_init 77 = .ok (.dup, 1) := by decide +kernel
theorem dX6_init_78 : decode cX6_init 78 = .ok (.invokespecial 47, 3) := by decide +kernel
theorem dX6_init_81 : decode cX6_init 81 = .ok (.putfield 48, 3) := by decide +kernel
theorem dX6_init_84 : decode cX6_init 84 = .ok (.aload_n 0, 1) := by decide +kernel
theorem dX6_init_85 : decode cX6_init 85 = .ok (.new 52, 3) := by decide +kernel
theorem dX6_init_88 : decode cX6_init 88 = .ok (.dup, 1) := by decide +kernel
theorem dX6_init_89 : decode cX6_init 89 = .ok (.invokespecial 54, 3) := by decide +kernel
theorem dX6_init_92 : decode cX6_init 92 = .ok (.putfield 55, 3) := by decide +kernel
theorem dX6_init_95 : decode cX6_init 95 = .ok (.aload_n 0, 1) := by decide +kernel
theorem dX6_init_96 : decode cX6_init 96 = .ok (.new 52, 3) := by decide +kernel
theorem dX6_init_99 : decode cX6_init 99 = .ok (.dup, 1) := by decide +kernel
theorem dX6_init_100 : decode cX6_init 100 = .ok (.invokespecial 54, 3) := by decide +kernel
theorem dX6_init_103 : decode cX6_init 103 = .ok (.putfield 59, 3) := by decide +kernel
theorem dX6_init_106 : decode cX6_init 106 = .ok (.iconst 0, 1) := by decide +kernel
theorem dX6_init_107 : decode cX6_init 107 = .ok (.istore_n 1, 1) := by decide +kernel
theorem dX6_init_108 : decode cX6_init 108 = .ok (.iload_n 1, 1) := by decide +kernel
theorem dX6_init_109 : decode cX6_init 109 = .ok (.ldc 62, 2) := by decide +kernel
theorem dX6_init_111 : decode cX6_init 111 = .ok (.invokevirtual 64, 3) := by decide +kernel
theorem dX6_init_114 : decode cX6_init 114 = .ok (.if_icmp .ge 23, 3) := by decide +kernel
theorem dX6_init_117 : decode cX6_init 117 = .ok (.aload_n 0, 1) := by decide +kernel
theorem dX6_init_118 : decode cX6_init 118 = .ok (.getfield 12, 3) := by decide +kernel
theorem dX6_init_121 : decode cX6_init 121 = .ok (.ldc 62, 2) := by decide +kernel
theorem dX6_init_123 : decode cX6_init 123 = .ok (.iload_n 1, 1) := by decide +kernel
theorem dX6_init_124 : decode cX6_init 124 = .ok (.invokevirtual 70, 3) := by decide +kernel
theorem dX6_init_127 : decode cX6_init 127 = .ok (.invokevirtual 74, 3) := by decide +kernel
theorem dX6_init_130 : decode cX6_init 130 = .ok (.pop, 1) := by decide +kernel
theorem dX6_init_131 : decode cX6_init 131 = .ok (.iinc 1 1, 3) := by decide +kernel
theorem dX6_init_134 : decode cX6_init 134 = .ok (.goto (-26), 3) := by decide +kernel
theorem dX6_init_137 : decode cX6_init 137 = .ok (.aload_n 0, 1) := by decide +kernel
theorem dX6_init_138 : decode cX6_init 138 = .ok (.getfield 12, 3) := by decide +kernel
theorem dX6_init_141 : decode cX6_init 141 = .ok (.aload_n 0, 1) := by decide +kernel
theorem dX6_init_142 : decode cX6_init 142 = .ok (.getfield 55, 3) := by decide +kernel
theorem dX6_init_145 : decode cX6_init 145 = .ok (.invokevirtual 78, 3) := by decide +kernel
theorem dX6_init_148 : decode cX6_init 148 = .ok (.pop, 1) := by decide +kernel
theorem dX6_init_149 : decode cX6_init 149 = .ok (.aload_n 0, 1) := by decide +kernel
theorem dX6_init_150 : decode cX6_init 150 = .ok (.getfield 38, 3) := by decide +kernel
theorem dX6_init_153 : decode cX6_init 153 = .ok (.aload_n 0, 1) := by decide +kernel
theorem dX6_init_154 : decode cX6_init 154 = .ok (.getfield 55, 3) := by decide +kernel
theorem dX6_init_157 : decode cX6_init 157 = .ok (.invokevirtual 82, 3) := by decide +kernel
theorem dX6_init_160 : decode cX6_init 160 = .ok (.aload_n 0, 1) := by decide +kernel
theorem dX6_init_161 : decode cX6_init 161 = .ok (.getfield 12, 3) := by decide +kernel
theorem dX6_init_164 : decode cX6_init 164 = .ok (.invokevirtual 86, 3) := by decide +kernel
theorem dX6_init_167 : decode cX6_init 167 = .ok (.return_, 1) := by decide +kernel
theorem dX6_write_0 : decode cX6_write 0 = .ok (.iload_n 1, 1) := by decide +kernel
theorem dX6_write_1 : decode cX6_write 1 = .ok (.bipush 32, 2) := by decide +kernel
theorem dX6_write_3 : decode cX6_write 3 = .ok (.if_icmp .lt 9, 3) := by decide +kernel
theorem dX6_write_6 : decode cX6_write 6 = .ok (.iload_n 1, 1) := by decide +kernel
theorem dX6_write_7 : decode cX6_write 7 = .ok (.bipush 126, 2) := by decide +kernel
theorem dX6_write_9 : decode cX6_write 9 = .ok (.if_icmp .le 5, 3) := by decide +kernel
theorem dX6_write_12 : decode cX6_write 12 = .ok (.iconst (-1), 1) := by decide +kernel
theorem dX6_write_13 : decode cX6_write 13 = .ok (.ireturn, 1) := by decide +kernel
theorem dX6_write_14 : decode cX6_write 14 = .ok (.aload_n 0, 1) := by decide +kernel
theorem dX6_write_15 : decode cX6_write 15 = .ok (.getfield 12, 3) := by decide +kernel
theorem dX6_write_18 : decode cX6_write 18 = .ok (.iload_n 1, 1) := by decide +kernel
theorem dX6_write_19 : decode cX6_write 19 = .ok (.i2c, 1) := by decide +kernel
theorem dX6_write_20 : decode cX6_write 20 = .ok (.invokevirtual 74, 3) := by decide +kernel
theorem dX6_write_23 : decode cX6_write 23 = .ok (.ifCond .eq 13, 3) := by decide +kernel
theorem dX6_write_26 : decode cX6_write 26 = .ok (.aload_n 0, 1) := by decide +kernel
theorem dX6_write_27 : decode cX6_write 27 = .ok (.getfield 12, 3) := by decide +kernel
theorem dX6_write_30 : decode cX6_write 30 = .ok (.getfield 89, 3) := by decide +kernel
theorem dX6_write_33 : decode cX6_write 33 = .ok (.goto 5, 3) := by decide +kernel
theorem dX6_write_36 : decode cX6_write 36 = .ok (.bipush (-3), 2) := by decide +kernel
theorem dX6_write_38 : decode cX6_write 38 = .ok (.ireturn, 1) := by decide +kernel
theorem dX6_wipe_0 : decode cX6_wipe 0 = .ok (.aload_n 0, 1) := by decide +kernel
theorem dX6_wipe_1 : decode cX6_wipe 1 = .ok (.getfield 12, 3) := by decide +kernel
theorem dX6_wipe_4 : decode cX6_wipe 4 = .ok (.getfield 89, 3) := by decide +kernel
theorem dX6_wipe_7 : decode cX6_wipe 7 = .ok (.istore_n 1, 1) := by decide +kernel
theorem dX6_wipe_8 : decode cX6_wipe 8 = .ok (.aload_n 0, 1) := by decide +kernel
theorem dX6_wipe_9 : decode cX6_wipe 9 = .ok (.getfield 12, 3) := by decide +kernel
theorem dX6_wipe_12 : decode cX6_wipe 12 = .ok (.invokevirtual 86, 3) := by decide +kernel
theorem dX6_wipe_15 : decode cX6_wipe 15 = .ok (.iload_n 1, 1) := by decide +kernel
theorem dX6_wipe_16 : decode cX6_wipe 16 = .ok (.ireturn, 1) := by decide +kernel
theorem dX6_fault_0 : decode cX6_fault 0 = .ok (.aload_n 0, 1) := by decide +kernel
theorem dX6_fault_1 : decode cX6_fault 1 = .ok (.getfield 12, 3) := by decide +kernel
theorem dX6_fault_4 : decode cX6_fault 4 = .ok (.aload_n 0, 1) := by decide +kernel
theorem dX6_fault_5 : decode cX6_fault 5 = .ok (.getfield 59, 3) := by decide +kernel
theorem dX6_fault_8 : decode cX6_fault 8 = .ok (.invokevirtual 78, 3) := by decide +kernel
theorem dX6_fault_11 : decode cX6_fault 11 = .ok (.ireturn, 1) := by decide +kernel
theorem dX6_lay_0 : decode cX6_lay 0 = .ok (.aload_n 0, 1) := by decide +kernel
theorem dX6_lay_1 : decode cX6_lay 1 = .ok (.getfield 12, 3) := by decide +kernel
theorem dX6_lay_4 : decode cX6_lay 4 = .ok (.aload_n 0, 1) := by decide +kernel
theorem dX6_lay_5 : decode cX6_lay 5 = .ok (.getfield 59, 3) := by decide +kernel
theorem dX6_lay_8 : decode cX6_lay 8 = .ok (.invokevirtual 78, 3) := by decide +kernel
theorem dX6_lay_11 : decode cX6_lay 11 = .ok (.bipush (-4), 2) := by decide +kernel
theorem dX6_lay_13 : decode cX6_lay 13 = .ok (.if_icmp .ne 13, 3) := by decide +kernel
theorem dX6_lay_16 : decode cX6_lay 16 = .ok (.aload_n 0, 1) := by decide +kernel
theorem dX6_lay_17 : decode cX6_lay 17 = .ok (.getfield 59, 3) := by decide +kernel
theorem dX6_lay_20 : decode cX6_lay 20 = .ok (.getfield 92, 3) := by decide +kernel
theorem dX6_lay_23 : decode cX6_lay 23 = .ok (.ifCond .ne 6, 3) := by decide +kernel
theorem dX6_lay_26 : decode cX6_lay 26 = .ok (.bipush (-2), 2) := by decide +kernel
theorem dX6_lay_28 : decode cX6_lay 28 = .ok (.ireturn, 1) := by decide +kernel
theorem dX6_lay_29 : decode cX6_lay 29 = .ok (.aload_n 0, 1) := by decide +kernel
theorem dX6_lay_30 : decode cX6_lay 30 = .ok (.getfield 55, 3) := by decide +kernel
theorem dX6_lay_33 : decode cX6_lay 33 = .ok (.astore_n 1, 1) := by decide +kernel
theorem dX6_lay_34 : decode cX6_lay 34 = .ok (.aload_n 0, 1) := by decide +kernel
theorem dX6_lay_35 : decode cX6_lay 35 = .ok (.aload_n 0, 1) := by decide +kernel
theorem dX6_lay_36 : decode cX6_lay 36 = .ok (.getfield 59, 3) := by decide +kernel
theorem dX6_lay_39 : decode cX6_lay 39 = .ok (.putfield 55, 3) := by decide +kernel
theorem dX6_lay_42 : decode cX6_lay 42 = .ok (.aload_n 0, 1) := by decide +kernel
theorem dX6_lay_43 : decode cX6_lay 43 = .ok (.aload_n 1, 1) := by decide +kernel
theorem dX6_lay_44 : decode cX6_lay 44 = .ok (.putfield 59, 3) := by decide +kernel
theorem dX6_lay_47 : decode cX6_lay 47 = .ok (.aload_n 0, 1) := by decide +kernel
theorem dX6_lay_48 : decode cX6_lay 48 = .ok (.getfield 38, 3) := by decide +kernel
theorem dX6_lay_51 : decode cX6_lay 51 = .ok (.aload_n 0, 1) := by decide +kernel
theorem dX6_lay_52 : decode cX6_lay 52 = .ok (.getfield 55, 3) := by decide +kernel
theorem dX6_lay_55 : decode cX6_lay 55 = .ok (.invokevirtual 82, 3) := by decide +kernel
theorem dX6_lay_58 : decode cX6_lay 58 = .ok (.aload_n 0, 1) := by decide +kernel
theorem dX6_lay_59 : decode cX6_lay 59 = .ok (.getfield 19, 3) := by decide +kernel
theorem dX6_lay_62 : decode cX6_lay 62 = .ok (.iconst 0, 1) := by decide +kernel
theorem dX6_lay_63 : decode cX6_lay 63 = .ok (.putfield 95, 3) := by decide +kernel
theorem dX6_lay_66 : decode cX6_lay 66 = .ok (.aload_n 0, 1) := by decide +kernel
theorem dX6_lay_67 : decode cX6_lay 67 = .ok (.getfield 28, 3) := by decide +kernel
theorem dX6_lay_70 : decode cX6_lay 70 = .ok (.iconst 0, 1) := by decide +kernel
theorem dX6_lay_71 : decode cX6_lay 71 = .ok (.putfield 98, 3) := by decide +kernel
theorem dX6_lay_74 : decode cX6_lay 74 = .ok (.aload_n 0, 1) := by decide +kernel
theorem dX6_lay_75 : decode cX6_lay 75 = .ok (.getfield 32, 3) := by decide +kernel
theorem dX6_lay_78 : decode cX6_lay 78 = .ok (.iconst 0, 1) := by decide +kernel
theorem dX6_lay_79 : decode cX6_lay 79 = .ok (.putfield 98, 3) := by decide +kernel
theorem dX6_lay_82 : decode cX6_lay 82 = .ok (.aload_n 0, 1) := by decide +kernel
theorem dX6_lay_83 : decode cX6_lay 83 = .ok (.getfield 55, 3) := by decide +kernel
theorem dX6_lay_86 : decode cX6_lay 86 = .ok (.getfield 92, 3) := by decide +kernel
theorem dX6_lay_89 : decode cX6_lay 89 = .ok (.ireturn, 1) := by decide +kernel
theorem dX6_wheel_0 : decode cX6_wheel 0 = .ok (.aload_n 0, 1) := by decide +kernel
theorem dX6_wheel_1 : decode cX6_wheel 1 = .ok (.iload_n 1, 1) := by decide +kernel
theorem dX6_wheel_2 : decode cX6_wheel 2 = .ok (.invokevirtual 101, 3) := by decide +kernel
theorem dX6_wheel_5 : decode cX6_wheel 5 = .ok (.ifCond .ne 5, 3) := by decide +kernel
theorem dX6_wheel_8 : decode cX6_wheel 8 = .ok (.iconst (-1), 1) := by decide +kernel
theorem dX6_wheel_9 : decode cX6_wheel 9 = .ok (.ireturn, 1) := by decide +kernel
theorem dX6_wheel_10 : decode cX6_wheel 10 = .ok (.iload_n 2, 1) := by decide +kernel
theorem dX6_wheel_11 : decode cX6_wheel 11 = .ok (.tableswitch 82 0 3 #[29, 41, 53, 65], 29) := by decide +kernel
theorem dX6_wheel_40 : decode cX6_wheel 40 = .ok (.aload_n 0, 1) := by decide +kernel
theorem dX6_wheel_41 : decode cX6_wheel 41 = .ok (.getfield 55, 3) := by decide +kernel
theorem dX6_wheel_44 : decode cX6_wheel 44 = .ok (.getfield 105, 3) := by decide +kernel
theorem dX6_wheel_47 : decode cX6_wheel 47 = .ok (.iload_n 1, 1) := by decide +kernel
theorem dX6_wheel_48 : decode cX6_wheel 48 = .ok (.invokestatic 109, 3) := by decide +kernel
theorem dX6_wheel_51 : decode cX6_wheel 51 = .ok (.ireturn, 1) := by decide +kernel
theorem dX6_wheel_52 : decode cX6_wheel 52 = .ok (.aload_n 0, 1) := by decide +kernel
theorem dX6_wheel_53 : decode cX6_wheel 53 = .ok (.getfield 38, 3) := by decide +kernel
theorem dX6_wheel_56 : decode cX6_wheel 56 = .ok (.getfield 113, 3) := by decide +kernel
theorem dX6_wheel_59 : decode cX6_wheel 59 = .ok (.iload_n 1, 1) := by decide +kernel
theorem dX6_wheel_60 : decode cX6_wheel 60 = .ok (.invokestatic 109, 3) := by decide +kernel
theorem dX6_wheel_63 : decode cX6_wheel 63 = .ok (.ireturn, 1) := by decide +kernel
theorem dX6_wheel_64 : decode cX6_wheel 64 = .ok (.aload_n 0, 1) := by decide +kernel
theorem dX6_wheel_65 : decode cX6_wheel 65 = .ok (.getfield 38, 3) := by decide +kernel
theorem dX6_wheel_68 : decode cX6_wheel 68 = .ok (.getfield 116, 3) := by decide +kernel
theorem dX6_wheel_71 : decode cX6_wheel 71 = .ok (.iload_n 1, 1) := by decide +kernel
theorem dX6_wheel_72 : decode cX6_wheel 72 = .ok (.invokestatic 109, 3) := by decide +kernel
theorem dX6_wheel_75 : decode cX6_wheel 75 = .ok (.ireturn, 1) := by decide +kernel
theorem dX6_wheel_76 : decode cX6_wheel 76 = .ok (.aload_n 0, 1) := by decide +kernel
theorem dX6_wheel_77 : decode cX6_wheel 77 = .ok (.getfield 38, 3) := by decide +kernel
theorem dX6_wheel_80 : decode cX6_wheel 80 = .ok (.getfield 119, 3) := by decide +kernel
theorem dX6_wheel_83 : decode cX6_wheel 83 = .ok (.iload_n 1, 1) := by decide +kernel
theorem dX6_wheel_84 : decode cX6_wheel 84 = .ok (.iconst 0, 1) := by decide +kernel
theorem dX6_wheel_85 : decode cX6_wheel 85 = .ok (.invokestatic 122, 3) := by decide +kernel
theorem dX6_wheel_88 : decode cX6_wheel 88 = .ok (.ishr, 1) := by decide +kernel
theorem dX6_wheel_89 : decode cX6_wheel 89 = .ok (.bipush 63, 2) := by decide +kernel
theorem dX6_wheel_91 : decode cX6_wheel 91 = .ok (.iand, 1) := by decide +kernel
theorem dX6_wheel_92 : decode cX6_wheel 92 = .ok (.ireturn, 1) := by decide +kernel
theorem dX6_wheel_93 : decode cX6_wheel 93 = .ok (.iconst (-1), 1) := by decide +kernel
theorem dX6_wheel_94 : decode cX6_wheel 94 = .ok (.ireturn, 1) := by decide +kernel
theorem dX6_talks_0 : decode cX6_talks 0 = .ok (.aload_n 0, 1) := by decide +kernel
theorem dX6_talks_1 : decode cX6_talks 1 = .ok (.iload_n 1, 1) := by decide +kernel
theorem dX6_talks_2 : decode cX6_talks 2 = .ok (.invokevirtual 126, 3) := by decide +kernel
theorem dX6_talks_5 : decode cX6_talks 5 = .ok (.ifCond .eq 14, 3) := by decide +kernel
theorem dX6_talks_8 : decode cX6_talks 8 = .ok (.aload_n 0, 1) := by decide +kernel
theorem dX6_talks_9 : decode cX6_talks 9 = .ok (.getfield 55, 3) := by decide +kernel
theorem dX6_talks_12 : decode cX6_talks 12 = .ok (.iload_n 1, 1) := by decide +kernel
theorem dX6_talks_13 : decode cX6_talks 13 = .ok (.invokevirtual 129, 3) := by decide +kernel
theorem dX6_talks_16 : decode cX6_talks 16 = .ok (.goto 4, 3) := by decide +kernel
theorem dX6_talks_19 : decode cX6_talks 19 = .ok (.iconst (-1), 1) := by decide +kernel
theorem dX6_talks_20 : decode cX6_talks 20 = .ok (.ireturn, 1) := by decide +kernel
theorem dX6_heard_0 : decode cX6_heard 0 = .ok (.aload_n 0, 1) := by decide +kernel
theorem dX6_heard_1 : decode cX6_heard 1 = .ok (.iload_n 1, 1) := by decide +kernel
theorem dX6_heard_2 : decode cX6_heard 2 = .ok (.invokevirtual 133, 3) := by decide +kernel
theorem dX6_heard_5 : decode cX6_heard 5 = .ok (.ifCond .ne 5, 3) := by decide +kernel
theorem dX6_heard_8 : decode cX6_heard 8 = .ok (.iconst (-1), 1) := by decide +kernel
theorem dX6_heard_9 : decode cX6_heard 9 = .ok (.ireturn, 1) := by decide +kernel
theorem dX6_heard_10 : decode cX6_heard 10 = .ok (.iload_n 2, 1) := by decide +kernel
theorem dX6_heard_11 : decode cX6_heard 11 = .ok (.tableswitch 93 0 4 #[33, 45, 57, 69, 81], 33) := by decide +kernel
theorem dX6_heard_44 : decode cX6_heard 44 = .ok (.aload_n 0, 1) := by decide +kernel
theorem dX6_heard_45 : decode cX6_heard 45 = .ok (.getfield 38, 3) := by decide +kernel
theorem dX6_heard_48 : decode cX6_heard 48 = .ok (.getfield 136, 3) := by decide +kernel
theorem dX6_heard_51 : decode cX6_heard 51 = .ok (.iload_n 1, 1) := by decide +kernel
theorem dX6_heard_52 : decode cX6_heard 52 = .ok (.invokestatic 109, 3) := by decide +kernel
theorem dX6_heard_55 : decode cX6_heard 55 = .ok (.ireturn, 1) := by decide +kernel
theorem dX6_heard_56 : decode cX6_heard 56 = .ok (.aload_n 0, 1) := by decide +kernel
theorem dX6_heard_57 : decode cX6_heard 57 = .ok (.getfield 38, 3) := by decide +kernel
theorem dX6_heard_60 : decode cX6_heard 60 = .ok (.getfield 139, 3) := by decide +kernel
theorem dX6_heard_63 : decode cX6_heard 63 = .ok (.iload_n 1, 1) := by decide +kernel
theorem dX6_heard_64 : decode cX6_heard 64 = .ok (.invokestatic 109, 3) := by decide +kernel
theorem dX6_heard_67 : decode cX6_heard 67 = .ok (.ireturn, 1) := by decide +kernel
theorem dX6_heard_68 : decode cX6_heard 68 = .ok (.aload_n 0, 1) := by decide +kernel
theorem dX6_heard_69 : decode cX6_heard 69 = .ok (.getfield 38, 3) := by decide +kernel
theorem dX6_heard_72 : decode cX6_heard 72 = .ok (.getfield 142, 3) := by decide +kernel
theorem dX6_heard_75 : decode cX6_heard 75 = .ok (.iload_n 1, 1) := by decide +kernel
theorem dX6_heard_76 : decode cX6_heard 76 = .ok (.invokestatic 109, 3) := by decide +kernel
theorem dX6_heard_79 : decode cX6_heard 79 = .ok (.ireturn, 1) := by decide +kernel
theorem dX6_heard_80 : decode cX6_heard 80 = .ok (.aload_n 0, 1) := by decide +kernel
theorem dX6_heard_81 : decode cX6_heard 81 = .ok (.getfield 38, 3) := by decide +kernel
theorem dX6_heard_84 : decode cX6_heard 84 = .ok (.getfield 145, 3) := by decide +kernel
theorem dX6_heard_87 : decode cX6_heard 87 = .ok (.iload_n 1, 1) := by decide +kernel
theorem dX6_heard_88 : decode cX6_heard 88 = .ok (.invokestatic 109, 3) := by decide +kernel
theorem dX6_heard_91 : decode cX6_heard 91 = .ok (.ireturn, 1) := by decide +kernel
theorem dX6_heard_92 : decode cX6_heard 92 = .ok (.aload_n 0, 1) := by decide +kernel
theorem dX6_heard_93 : decode cX6_heard 93 = .ok (.getfield 38, 3) := by decide +kernel
theorem dX6_heard_96 : decode cX6_heard 96 = .ok (.getfield 148, 3) := by decide +kernel
theorem dX6_heard_99 : decode cX6_heard 99 = .ok (.iload_n 1, 1) := by decide +kernel
theorem dX6_heard_100 : decode cX6_heard 100 = .ok (.invokestatic 109, 3) := by decide +kernel
theorem dX6_heard_103 : decode cX6_heard 103 = .ok (.ireturn, 1) := by decide +kernel
theorem dX6_heard_104 : decode cX6_heard 104 = .ok (.iconst (-1), 1) := by decide +kernel
theorem dX6_heard_105 : decode cX6_heard 105 = .ok (.ireturn, 1) := by decide +kernel
theorem dX6_sense_0 : decode cX6_sense 0 = .ok (.aload_n 0, 1) := by decide +kernel
theorem dX6_sense_1 : decode cX6_sense 1 = .ok (.iload_n 1, 1) := by decide +kernel
theorem dX6_sense_2 : decode cX6_sense 2 = .ok (.invokevirtual 151, 3) := by decide +kernel
theorem dX6_sense_5 : decode cX6_sense 5 = .ok (.ifCond .ne 5, 3) := by decide +kernel
theorem dX6_sense_8 : decode cX6_sense 8 = .ok (.iconst (-1), 1) := by decide +kernel
theorem dX6_sense_9 : decode cX6_sense 9 = .ok (.ireturn, 1) := by decide +kernel
theorem dX6_sense_10 : decode cX6_sense 10 = .ok (.aload_n 0, 1) := by decide +kernel
theorem dX6_sense_11 : decode cX6_sense 11 = .ok (.getfield 38, 3) := by decide +kernel
theorem dX6_sense_14 : decode cX6_sense 14 = .ok (.aload_n 0, 1) := by decide +kernel
theorem dX6_sense_15 : decode cX6_sense 15 = .ok (.getfield 55, 3) := by decide +kernel
theorem dX6_sense_18 : decode cX6_sense 18 = .ok (.iload_n 1, 1) := by decide +kernel
theorem dX6_sense_19 : decode cX6_sense 19 = .ok (.invokevirtual 154, 3) := by decide +kernel
theorem dX6_sense_22 : decode cX6_sense 22 = .ok (.ifCond .eq 7, 3) := by decide +kernel
theorem dX6_sense_25 : decode cX6_sense 25 = .ok (.iconst 1, 1) := by decide +kernel
theorem dX6_sense_26 : decode cX6_sense 26 = .ok (.goto 4, 3) := by decide +kernel
theorem dX6_sense_29 : decode cX6_sense 29 = .ok (.iconst 0, 1) := by decide +kernel
theorem dX6_sense_30 : decode cX6_sense 30 = .ok (.ireturn, 1) := by decide +kernel
theorem dX6_stale_0 : decode cX6_stale 0 = .ok (.aload_n 0, 1) := by decide +kernel
theorem dX6_stale_1 : decode cX6_stale 1 = .ok (.iload_n 1, 1) := by decide +kernel
theorem dX6_stale_2 : decode cX6_stale 2 = .ok (.invokevirtual 151, 3) := by decide +kernel
theorem dX6_stale_5 : decode cX6_stale 5 = .ok (.ifCond .eq 11, 3) := by decide +kernel
theorem dX6_stale_8 : decode cX6_stale 8 = .ok (.aload_n 0, 1) := by decide +kernel
theorem dX6_stale_9 : decode cX6_stale 9 = .ok (.iload_n 2, 1) := by decide +kernel
theorem dX6_stale_10 : decode cX6_stale 10 = .ok (.invokevirtual 126, 3) := by decide +kernel
theorem dX6_stale_13 : decode cX6_stale 13 = .ok (.ifCond .ne 5, 3) := by decide +kernel
theorem dX6_stale_16 : decode cX6_stale 16 = .ok (.iconst (-1), 1) := by decide +kernel
theorem dX6_stale_17 : decode cX6_stale 17 = .ok (.ireturn, 1) := by decide +kernel
theorem dX6_stale_18 : decode cX6_stale 18 = .ok (.aload_n 0, 1) := by decide +kernel
theorem dX6_stale_19 : decode cX6_stale 19 = .ok (.getfield 38, 3) := by decide +kernel
theorem dX6_stale_22 : decode cX6_stale 22 = .ok (.iload_n 1, 1) := by decide +kernel
theorem dX6_stale_23 : decode cX6_stale 23 = .ok (.aload_n 0, 1) := by decide +kernel
theorem dX6_stale_24 : decode cX6_stale 24 = .ok (.getfield 55, 3) := by decide +kernel
theorem dX6_stale_27 : decode cX6_stale 27 = .ok (.iload_n 2, 1) := by decide +kernel
theorem dX6_stale_28 : decode cX6_stale 28 = .ok (.invokevirtual 158, 3) := by decide +kernel
theorem dX6_stale_31 : decode cX6_stale 31 = .ok (.invokevirtual 161, 3) := by decide +kernel
theorem dX6_stale_34 : decode cX6_stale 34 = .ok (.ifCond .eq 7, 3) := by decide +kernel
theorem dX6_stale_37 : decode cX6_stale 37 = .ok (.iconst 1, 1) := by decide +kernel
theorem dX6_stale_38 : decode cX6_stale 38 = .ok (.goto 4, 3) := by decide +kernel
theorem dX6_stale_41 : decode cX6_stale 41 = .ok (.iconst 0, 1) := by decide +kernel
theorem dX6_stale_42 : decode cX6_stale 42 = .ok (.ireturn, 1) := by decide +kernel
theorem dX6_crank_0 : decode cX6_crank 0 = .ok (.aload_n 0, 1) := by decide +kernel
theorem dX6_crank_1 : decode cX6_crank 1 = .ok (.getfield 28, 3) := by decide +kernel
theorem dX6_crank_4 : decode cX6_crank 4 = .ok (.aload_n 0, 1) := by decide +kernel
theorem dX6_crank_5 : decode cX6_crank 5 = .ok (.getfield 38, 3) := by decide +kernel
theorem dX6_crank_8 : decode cX6_crank 8 = .ok (.invokevirtual 165, 3) := by decide +kernel
theorem dX6_crank_11 : decode cX6_crank 11 = .ok (.aload_n 0, 1) := by decide +kernel
theorem dX6_crank_12 : decode cX6_crank 12 = .ok (.getfield 38, 3) := by decide +kernel
theorem dX6_crank_15 : decode cX6_crank 15 = .ok (.aload_n 0, 1) := by decide +kernel
theorem dX6_crank_16 : decode cX6_crank 16 = .ok (.getfield 55, 3) := by decide +kernel
theorem dX6_crank_19 : decode cX6_crank 19 = .ok (.iconst 1, 1) := by decide +kernel
theorem dX6_crank_20 : decode cX6_crank 20 = .ok (.invokevirtual 169, 3) := by decide +kernel
theorem dX6_crank_23 : decode cX6_crank 23 = .ok (.aload_n 0, 1) := by decide +kernel
theorem dX6_crank_24 : decode cX6_crank 24 = .ok (.getfield 38, 3) := by decide +kernel
theorem dX6_crank_27 : decode cX6_crank 27 = .ok (.aload_n 0, 1) := by decide +kernel
theorem dX6_crank_28 : decode cX6_crank 28 = .ok (.getfield 55, 3) := by decide +kernel
theorem dX6_crank_31 : decode cX6_crank 31 = .ok (.iconst 0, 1) := by decide +kernel
theorem dX6_crank_32 : decode cX6_crank 32 = .ok (.invokevirtual 173, 3) := by decide +kernel
theorem dX6_crank_35 : decode cX6_crank 35 = .ok (.ireturn, 1) := by decide +kernel
theorem dX6_give_0 : decode cX6_give 0 = .ok (.aload_n 0, 1) := by decide +kernel
theorem dX6_give_1 : decode cX6_give 1 = .ok (.iload_n 1, 1) := by decide +kernel
theorem dX6_give_2 : decode cX6_give 2 = .ok (.invokevirtual 126, 3) := by decide +kernel
theorem dX6_give_5 : decode cX6_give 5 = .ok (.ifCond .eq 16, 3) := by decide +kernel
theorem dX6_give_8 : decode cX6_give 8 = .ok (.aload_n 0, 1) := by decide +kernel
theorem dX6_give_9 : decode cX6_give 9 = .ok (.iload_n 2, 1) := by decide +kernel
theorem dX6_give_10 : decode cX6_give 10 = .ok (.invokevirtual 126, 3) := by decide +kernel
theorem dX6_give_13 : decode cX6_give 13 = .ok (.ifCond .eq 8, 3) := by decide +kernel
theorem dX6_give_16 : decode cX6_give 16 = .ok (.iload_n 1, 1) := by decide +kernel
theorem dX6_give_17 : decode cX6_give 17 = .ok (.iload_n 2, 1) := by decide +kernel
theorem dX6_give_18 : decode cX6_give 18 = .ok (.if_icmp .ne 5, 3) := by decide +kernel
theorem dX6_give_21 : decode cX6_give 21 = .ok (.iconst (-1), 1) := by decide +kernel
theorem dX6_give_22 : decode cX6_give 22 = .ok (.ireturn, 1) := by decide +kernel
theorem dX6_give_23 : decode cX6_give 23 = .ok (.aload_n 0, 1) := by decide +kernel
theorem dX6_give_24 : decode cX6_give 24 = .ok (.getfield 38, 3) := by decide +kernel
theorem dX6_give_27 : decode cX6_give 27 = .ok (.getfield 177, 3) := by decide +kernel
theorem dX6_give_30 : decode cX6_give 30 = .ok (.bipush 12, 2) := by decide +kernel
theorem dX6_give_32 : decode cX6_give 32 = .ok (.if_icmp .lt 6, 3) := by decide +kernel
theorem dX6_give_35 : decode cX6_give 35 = .ok (.bipush (-3), 2) := by decide +kernel
theorem dX6_give_37 : decode cX6_give 37 = .ok (.ireturn, 1) := by decide +kernel
theorem dX6_give_38 : decode cX6_give 38 = .ok (.aload_n 0, 1) := by decide +kernel
theorem dX6_give_39 : decode cX6_give 39 = .ok (.getfield 38, 3) := by decide +kernel
theorem dX6_give_42 : decode cX6_give 42 = .ok (.aload_n 0, 1) := by decide +kernel
theorem dX6_give_43 : decode cX6_give 43 = .ok (.getfield 55, 3) := by decide +kernel
theorem dX6_give_46 : decode cX6_give 46 = .ok (.iload_n 2, 1) := by decide +kernel
theorem dX6_give_47 : decode cX6_give 47 = .ok (.invokevirtual 180, 3) := by decide +kernel
theorem dX6_give_50 : decode cX6_give 50 = .ok (.istore_n 3, 1) := by decide +kernel
theorem dX6_give_51 : decode cX6_give 51 = .ok (.iload_n 3, 1) := by decide +kernel
theorem dX6_give_52 : decode cX6_give 52 = .ok (.ifCond .ne 6, 3) := by decide +kernel
theorem dX6_give_55 : decode cX6_give 55 = .ok (.bipush (-4), 2) := by decide +kernel
theorem dX6_give_57 : decode cX6_give 57 = .ok (.ireturn, 1) := by decide +kernel
theorem dX6_give_58 : decode cX6_give 58 = .ok (.aload_n 0, 1) := by decide +kernel
theorem dX6_give_59 : decode cX6_give 59 = .ok (.getfield 28, 3) := by decide +kernel
theorem dX6_give_62 : decode cX6_give 62 = .ok (.aload_n 0, 1) := by decide +kernel
theorem dX6_give_63 : decode cX6_give 63 = .ok (.getfield 38, 3) := by decide +kernel
theorem dX6_give_66 : decode cX6_give 66 = .ok (.invokevirtual 165, 3) := by decide +kernel
theorem dX6_give_69 : decode cX6_give 69 = .ok (.aload_n 0, 1) := by decide +kernel
theorem dX6_give_70 : decode cX6_give 70 = .ok (.getfield 38, 3) := by decide +kernel
theorem dX6_give_73 : decode cX6_give 73 = .ok (.aload_n 0, 1) := by decide +kernel
theorem dX6_give_74 : decode cX6_give 74 = .ok (.getfield 55, 3) := by decide +kernel
theorem dX6_give_77 : decode cX6_give 77 = .ok (.iload_n 3, 1) := by decide +kernel
theorem dX6_give_78 : decode cX6_give 78 = .ok (.invokevirtual 169, 3) := by decide +kernel
theorem dX6_give_81 : decode cX6_give 81 = .ok (.aload_n 0, 1) := by decide +kernel
theorem dX6_give_82 : decode cX6_give 82 = .ok (.getfield 38, 3) := by decide +kernel
theorem dX6_give_85 : decode cX6_give 85 = .ok (.aload_n 0, 1) := by decide +kernel
theorem dX6_give_86 : decode cX6_give 86 = .ok (.getfield 55, 3) := by decide +kernel
theorem dX6_give_89 : decode cX6_give 89 = .ok (.iload_n 1, 1) := by decide +kernel
theorem dX6_give_90 : decode cX6_give 90 = .ok (.iload_n 2, 1) := by decide +kernel
theorem dX6_give_91 : decode cX6_give 91 = .ok (.invokevirtual 183, 3) := by decide +kernel
theorem dX6_give_94 : decode cX6_give 94 = .ok (.pop, 1) := by decide +kernel
theorem dX6_give_95 : decode cX6_give 95 = .ok (.aload_n 0, 1) := by decide +kernel
theorem dX6_give_96 : decode cX6_give 96 = .ok (.getfield 38, 3) := by decide +kernel
theorem dX6_give_99 : decode cX6_give 99 = .ok (.aload_n 0, 1) := by decide +kernel
theorem dX6_give_100 : decode cX6_give 100 = .ok (.getfield 55, 3) := by decide +kernel
theorem dX6_give_103 : decode cX6_give 103 = .ok (.iconst 0, 1) := by decide +kernel
theorem dX6_give_104 : decode cX6_give 104 = .ok (.invokevirtual 173, 3) := by decide +kernel
theorem dX6_give_107 : decode cX6_give 107 = .ok (.ireturn, 1) := by decide +kernel
theorem dX6_day_0 : decode cX6_day 0 = .ok (.aload_n 0, 1) := by decide +kernel
theorem dX6_day_1 : decode cX6_day 1 = .ok (.getfield 28, 3) := by decide +kernel
theorem dX6_day_4 : decode cX6_day 4 = .ok (.aload_n 0, 1) := by decide +kernel
theorem dX6_day_5 : decode cX6_day 5 = .ok (.getfield 38, 3) := by decide +kernel
theorem dX6_day_8 : decode cX6_day 8 = .ok (.invokevirtual 165, 3) := by decide +kernel
theorem dX6_day_11 : decode cX6_day 11 = .ok (.aload_n 0, 1) := by decide +kernel
theorem dX6_day_12 : decode cX6_day 12 = .ok (.getfield 38, 3) := by decide +kernel
theorem dX6_day_15 : decode cX6_day 15 = .ok (.dup, 1) := by decide +kernel
theorem dX6_day_16 : decode cX6_day 16 = .ok (.getfield 187, 3) := by decide +kernel
theorem dX6_day_19 : decode cX6_day 19 = .ok (.iconst 1, 1) := by decide +kernel
theorem dX6_day_20 : decode cX6_day 20 = .ok (.iadd, 1) := by decide +kernel
theorem dX6_day_21 : decode cX6_day 21 = .ok (.putfield 187, 3) := by decide +kernel
theorem dX6_day_24 : decode cX6_day 24 = .ok (.aload_n 0, 1) := by decide +kernel
theorem dX6_day_25 : decode cX6_day 25 = .ok (.getfield 38, 3) := by decide +kernel
theorem dX6_day_28 : decode cX6_day 28 = .ok (.getfield 187, 3) := by decide +kernel
theorem dX6_day_31 : decode cX6_day 31 = .ok (.ireturn, 1) := by decide +kernel
theorem dX6_file_0 : decode cX6_file 0 = .ok (.aload_n 0, 1) := by decide +kernel
theorem dX6_file_1 : decode cX6_file 1 = .ok (.iload_n 1, 1) := by decide +kernel
theorem dX6_file_2 : decode cX6_file 2 = .ok (.invokevirtual 101, 3) := by decide +kernel
theorem dX6_file_5 : decode cX6_file 5 = .ok (.ifCond .eq 12, 3) := by decide +kernel
theorem dX6_file_8 : decode cX6_file 8 = .ok (.aload_n 0, 1) := by decide +kernel
theorem dX6_file_9 : decode cX6_file 9 = .ok (.iload_n 1, 1) := by decide +kernel
theorem dX6_file_10 : decode cX6_file 10 = .ok (.iload_n 2, 1) := by decide +kernel
theorem dX6_file_11 : decode cX6_file 11 = .ok (.invokevirtual 190, 3) := by decide +kernel
theorem dX6_file_14 : decode cX6_file 14 = .ok (.ifCond .ne 5, 3) := by decide +kernel
theorem dX6_file_17 : decode cX6_file 17 = .ok (.iconst (-1), 1) := by decide +kernel
theorem dX6_file_18 : decode cX6_file 18 = .ok (.ireturn, 1) := by decide +kernel
theorem dX6_file_19 : decode cX6_file 19 = .ok (.iconst 1, 1) := by decide +kernel
theorem dX6_file_20 : decode cX6_file 20 = .ok (.iload_n 1, 1) := by decide +kernel
theorem dX6_file_21 : decode cX6_file 21 = .ok (.iload_n 2, 1) := by decide +kernel
theorem dX6_file_22 : decode cX6_file 22 = .ok (.invokestatic 122, 3) := by decide +kernel
theorem dX6_file_25 : decode cX6_file 25 = .ok (.ishl, 1) := by decide +kernel
theorem dX6_file_26 : decode cX6_file 26 = .ok (.istore_n 3, 1) := by decide +kernel
theorem dX6_file_27 : decode cX6_file 27 = .ok (.aload_n 0, 1) := by decide +kernel
theorem dX6_file_28 : decode cX6_file 28 = .ok (.getfield 38, 3) := by decide +kernel
theorem dX6_file_31 : decode cX6_file 31 = .ok (.getfield 119, 3) := by decide +kernel
theorem dX6_file_34 : decode cX6_file 34 = .ok (.iload_n 3, 1) := by decide +kernel
theorem dX6_file_35 : decode cX6_file 35 = .ok (.iand, 1) := by decide +kernel
theorem dX6_file_36 : decode cX6_file 36 = .ok (.ifCond .eq 6, 3) := by decide +kernel
theorem dX6_file_39 : decode cX6_file 39 = .ok (.bipush (-2), 2) := by decide +kernel
theorem dX6_file_41 : decode cX6_file 41 = .ok (.ireturn, 1) := by decide +kernel
theorem dX6_file_42 : decode cX6_file 42 = .ok (.aload_n 0, 1) := by decide +kernel
theorem dX6_file_43 : decode cX6_file 43 = .ok (.getfield 28, 3) := by decide +kernel
theorem dX6_file_46 : decode cX6_file 46 = .ok (.aload_n 0, 1) := by decide +kernel
theorem dX6_file_47 : decode cX6_file 47 = .ok (.getfield 38, 3) := by decide +kernel
theorem dX6_file_50 : decode cX6_file 50 = .ok (.invokevirtual 165, 3) := by decide +kernel
theorem dX6_file_53 : decode cX6_file 53 = .ok (.aload_n 0, 1) := by decide +kernel
theorem dX6_file_54 : decode cX6_file 54 = .ok (.getfield 38, 3) := by decide +kernel
theorem dX6_file_57 : decode cX6_file 57 = .ok (.dup, 1) := by decide +kernel
theorem dX6_file_58 : decode cX6_file 58 = .ok (.getfield 119, 3) := by decide +kernel
theorem dX6_file_61 : decode cX6_file 61 = .ok (.iload_n 3, 1) := by decide +kernel
theorem dX6_file_62 : decode cX6_file 62 = .ok (.ior, 1) := by decide +kernel
theorem dX6_file_63 : decode cX6_file 63 = .ok (.putfield 119, 3) := by decide +kernel
theorem dX6_file_66 : decode cX6_file 66 = .ok (.aload_n 0, 1) := by decide +kernel
theorem dX6_file_67 : decode cX6_file 67 = .ok (.getfield 38, 3) := by decide +kernel
theorem dX6_file_70 : decode cX6_file 70 = .ok (.getfield 119, 3) := by decide +kernel
theorem dX6_file_73 : decode cX6_file 73 = .ok (.iload_n 1, 1) := by decide +kernel
theorem dX6_file_74 : decode cX6_file 74 = .ok (.iconst 0, 1) := by decide +kernel
theorem dX6_file_75 : decode cX6_file 75 = .ok (.invokestatic 122, 3) := by decide +kernel
theorem dX6_file_78 : decode cX6_file 78 = .ok (.ishr, 1) := by decide +kernel
theorem dX6_file_79 : decode cX6_file 79 = .ok (.bipush 63, 2) := by decide +kernel
theorem dX6_file_81 : decode cX6_file 81 = .ok (.iand, 1) := by decide +kernel
theorem dX6_file_82 : decode cX6_file 82 = .ok (.invokestatic 193, 3) := by decide +kernel
theorem dX6_file_85 : decode cX6_file 85 = .ok (.ireturn, 1) := by decide +kernel
theorem dX6_gear_0 : decode cX6_gear 0 = .ok (.aload_n 0, 1) := by decide +kernel
theorem dX6_gear_1 : decode cX6_gear 1 = .ok (.iload_n 1, 1) := by decide +kernel
theorem dX6_gear_2 : decode cX6_gear 2 = .ok (.invokevirtual 101, 3) := by decide +kernel
theorem dX6_gear_5 : decode cX6_gear 5 = .ok (.ifCond .eq 12, 3) := by decide +kernel
theorem dX6_gear_8 : decode cX6_gear 8 = .ok (.aload_n 0, 1) := by decide +kernel
theorem dX6_gear_9 : decode cX6_gear 9 = .ok (.iload_n 1, 1) := by decide +kernel
theorem dX6_gear_10 : decode cX6_gear 10 = .ok (.iload_n 2, 1) := by decide +kernel
theorem dX6_gear_11 : decode cX6_gear 11 = .ok (.invokevirtual 190, 3) := by decide +kernel
theorem dX6_gear_14 : decode cX6_gear 14 = .ok (.ifCond .ne 5, 3) := by decide +kernel
theorem dX6_gear_17 : decode cX6_gear 17 = .ok (.iconst (-1), 1) := by decide +kernel
theorem dX6_gear_18 : decode cX6_gear 18 = .ok (.ireturn, 1) := by decide +kernel
theorem dX6_gear_19 : decode cX6_gear 19 = .ok (.aload_n 0, 1) := by decide +kernel
theorem dX6_gear_20 : decode cX6_gear 20 = .ok (.getfield 38, 3) := by decide +kernel
theorem dX6_gear_23 : decode cX6_gear 23 = .ok (.getfield 113, 3) := by decide +kernel
theorem dX6_gear_26 : decode cX6_gear 26 = .ok (.iload_n 1, 1) := by decide +kernel
theorem dX6_gear_27 : decode cX6_gear 27 = .ok (.invokestatic 109, 3) := by decide +kernel
theorem dX6_gear_30 : decode cX6_gear 30 = .ok (.istore_n 3, 1) := by decide +kernel
theorem dX6_gear_31 : decode cX6_gear 31 = .ok (.aload_n 0, 1) := by decide +kernel
theorem dX6_gear_32 : decode cX6_gear 32 = .ok (.getfield 28, 3) := by decide +kernel
theorem dX6_gear_35 : decode cX6_gear 35 = .ok (.aload_n 0, 1) := by decide +kernel
theorem dX6_gear_36 : decode cX6_gear 36 = .ok (.getfield 38, 3) := by decide +kernel
theorem dX6_gear_39 : decode cX6_gear 39 = .ok (.invokevirtual 165, 3) := by decide +kernel
theorem dX6_gear_42 : decode cX6_gear 42 = .ok (.aload_n 0, 1) := by decide +kernel
theorem dX6_gear_43 : decode cX6_gear 43 = .ok (.getfield 38, 3) := by decide +kernel
theorem dX6_gear_46 : decode cX6_gear 46 = .ok (.getfield 113, 3) := by decide +kernel
theorem dX6_gear_49 : decode cX6_gear 49 = .ok (.iload_n 1, 1) := by decide +kernel
theorem dX6_gear_50 : decode cX6_gear 50 = .ok (.iload_n 2, 1) := by decide +kernel
theorem dX6_gear_51 : decode cX6_gear 51 = .ok (.invokestatic 198, 3) := by decide +kernel
theorem dX6_gear_54 : decode cX6_gear 54 = .ok (.iload_n 3, 1) := by decide +kernel
theorem dX6_gear_55 : decode cX6_gear 55 = .ok (.ireturn, 1) := by decide +kernel
theorem dX6_undo_0 : decode cX6_undo 0 = .ok (.aload_n 0, 1) := by decide +kernel
theorem dX6_undo_1 : decode cX6_undo 1 = .ok (.getfield 28, 3) := by decide +kernel
theorem dX6_undo_4 : decode cX6_undo 4 = .ok (.aload_n 0, 1) := by decide +kernel
theorem dX6_undo_5 : decode cX6_undo 5 = .ok (.getfield 38, 3) := by decide +kernel
theorem dX6_undo_8 : decode cX6_undo 8 = .ok (.invokevirtual 202, 3) := by decide +kernel
theorem dX6_undo_11 : decode cX6_undo 11 = .ok (.ifCond .eq 13, 3) := by decide +kernel
theorem dX6_undo_14 : decode cX6_undo 14 = .ok (.aload_n 0, 1) := by decide +kernel
theorem dX6_undo_15 : decode cX6_undo 15 = .ok (.getfield 28, 3) := by decide +kernel
theorem dX6_undo_18 : decode cX6_undo 18 = .ok (.getfield 98, 3) := by decide +kernel
theorem dX6_undo_21 : decode cX6_undo 21 = .ok (.goto 5, 3) := by decide +kernel
theorem dX6_undo_24 : decode cX6_undo 24 = .ok (.bipush (-2), 2) := by decide +kernel
theorem dX6_undo_26 : decode cX6_undo 26 = .ok (.ireturn, 1) := by decide +kernel
theorem dX6_up_0 : decode cX6_up 0 = .ok (.iload_n 1, 1) := by decide +kernel
theorem dX6_up_1 : decode cX6_up 1 = .ok (.ifCond .lt 17, 3) := by decide +kernel
theorem dX6_up_4 : decode cX6_up 4 = .ok (.iload_n 1, 1) := by decide +kernel
theorem dX6_up_5 : decode cX6_up 5 = .ok (.sipush 9999, 3) := by decide +kernel
theorem dX6_up_8 : decode cX6_up 8 = .ok (.if_icmp .gt 10, 3) := by decide +kernel
theorem dX6_up_11 : decode cX6_up 11 = .ok (.iload_n 2, 1) := by decide +kernel
theorem dX6_up_12 : decode cX6_up 12 = .ok (.invokestatic 206, 3) := by decide +kernel
theorem dX6_up_15 : decode cX6_up 15 = .ok (.ifCond .ne 5, 3) := by decide +kernel
theorem dX6_up_18 : decode cX6_up 18 = .ok (.iconst (-1), 1) := by decide +kernel
theorem dX6_up_19 : decode cX6_up 19 = .ok (.ireturn, 1) := by decide +kernel
theorem dX6_up_20 : decode cX6_up 20 = .ok (.aload_n 0, 1) := by decide +kernel
theorem dX6_up_21 : decode cX6_up 21 = .ok (.getfield 38, 3) := by decide +kernel
theorem dX6_up_24 : decode cX6_up 24 = .ok (.aload_n 0, 1) := by decide +kernel
theorem dX6_up_25 : decode cX6_up 25 = .ok (.getfield 55, 3) := by decide +kernel
theorem dX6_up_28 : decode cX6_up 28 = .ok (.iload_n 1, 1) := by decide +kernel
theorem dX6_up_29 : decode cX6_up 29 = .ok (.invokevirtual 173, 3) := by decide +kernel
theorem dX6_up_32 : decode cX6_up 32 = .ok (.istore_n 3, 1) := by decide +kernel
theorem dX6_up_33 : decode cX6_up 33 = .ok (.iload_n 2, 1) := by decide +kernel
theorem dX6_up_34 : decode cX6_up 34 = .ok (.ifCond .ne 5, 3) := by decide +kernel
theorem dX6_up_37 : decode cX6_up 37 = .ok (.iload_n 3, 1) := by decide +kernel
theorem dX6_up_38 : decode cX6_up 38 = .ok (.ireturn, 1) := by decide +kernel
theorem dX6_up_39 : decode cX6_up 39 = .ok (.aload_n 0, 1) := by decide +kernel
theorem dX6_up_40 : decode cX6_up 40 = .ok (.getfield 38, 3) := by decide +kernel
theorem dX6_up_43 : decode cX6_up 43 = .ok (.aload_n 0, 1) := by decide +kernel
theorem dX6_up_44 : decode cX6_up 44 = .ok (.getfield 55, 3) := by decide +kernel
theorem dX6_up_47 : decode cX6_up 47 = .ok (.iload_n 3, 1) := by decide +kernel
theorem dX6_up_48 : decode cX6_up 48 = .ok (.invokevirtual 154, 3) := by decide +kernel
theorem dX6_up_51 : decode cX6_up 51 = .ok (.ifCond .eq 7, 3) := by decide +kernel
theorem dX6_up_54 : decode cX6_up 54 = .ok (.iconst 1, 1) := by decide +kernel
theorem dX6_up_55 : decode cX6_up 55 = .ok (.goto 4, 3) := by decide +kernel
theorem dX6_up_58 : decode cX6_up 58 = .ok (.iconst 0, 1) := by decide +kernel
theorem dX6_up_59 : decode cX6_up 59 = .ok (.ireturn, 1) := by decide +kernel
theorem dX6_round_0 : decode cX6_round 0 = .ok (.aload_n 0, 1) := by decide +kernel
theorem dX6_round_1 : decode cX6_round 1 = .ok (.getfield 38, 3) := by decide +kernel
theorem dX6_round_4 : decode cX6_round 4 = .ok (.aload_n 0, 1) := by decide +kernel
theorem dX6_round_5 : decode cX6_round 5 = .ok (.getfield 55, 3) := by decide +kernel
theorem dX6_round_8 : decode cX6_round 8 = .ok (.invokevirtual 209, 3) := by decide +kernel
theorem dX6_round_11 : decode cX6_round 11 = .ok (.ireturn, 1) := by decide +kernel
theorem dX6_sensible_0 : decode cX6_sensible 0 = .ok (.iload_n 1, 1) := by decide +kernel
theorem dX6_sensible_1 : decode cX6_sensible 1 = .ok (.invokestatic 206, 3) := by decide +kernel
theorem dX6_sensible_4 : decode cX6_sensible 4 = .ok (.ifCond .ne 5, 3) := by decide +kernel
theorem dX6_sensible_7 : decode cX6_sensible 7 = .ok (.iconst (-1), 1) := by decide +kernel
theorem dX6_sensible_8 : decode cX6_sensible 8 = .ok (.ireturn, 1) := by decide +kernel
theorem dX6_sensible_9 : decode cX6_sensible 9 = .ok (.iload_n 1, 1) := by decide +kernel
theorem dX6_sensible_10 : decode cX6_sensible 10 = .ok (.ifCond .ne 13, 3) := by decide +kernel
theorem dX6_sensible_13 : decode cX6_sensible 13 = .ok (.aload_n 0, 1) := by decide +kernel
theorem dX6_sensible_14 : decode cX6_sensible 14 = .ok (.getfield 55, 3) := by decide +kernel
theorem dX6_sensible_17 : decode cX6_sensible 17 = .ok (.getfield 212, 3) := by decide +kernel
theorem dX6_sensible_20 : decode cX6_sensible 20 = .ok (.goto 14, 3) := by decide +kernel
theorem dX6_sensible_23 : decode cX6_sensible 23 = .ok (.aload_n 0, 1) := by decide +kernel
theorem dX6_sensible_24 : decode cX6_sensible 24 = .ok (.getfield 38, 3) := by decide +kernel
theorem dX6_sensible_27 : decode cX6_sensible 27 = .ok (.aload_n 0, 1) := by decide +kernel
theorem dX6_sensible_28 : decode cX6_sensible 28 = .ok (.getfield 55, 3) := by decide +kernel
theorem dX6_sensible_31 : decode cX6_sensible 31 = .ok (.invokevirtual 209, 3) := by decide +kernel
theorem dX6_sensible_34 : decode cX6_sensible 34 = .ok (.istore_n 2, 1) := by decide +kernel
theorem dX6_sensible_35 : decode cX6_sensible 35 = .ok (.iconst 0, 1) := by decide +kernel
theorem dX6_sensible_36 : decode cX6_sensible 36 = .ok (.istore_n 3, 1) := by decide +kernel
theorem dX6_sensible_37 : decode cX6_sensible 37 = .ok (.iconst 0, 1) := by decide +kernel
theorem dX6_sensible_38 : decode cX6_sensible 38 = .ok (.istore 4, 2) := by decide +kernel
theorem dX6_sensible_40 : decode cX6_sensible 40 = .ok (.iload 4, 2) := by decide +kernel
theorem dX6_sensible_42 : decode cX6_sensible 42 = .ok (.iload_n 2, 1) := by decide +kernel
theorem dX6_sensible_43 : decode cX6_sensible 43 = .ok (.if_icmp .ge 52, 3) := by decide +kernel
theorem dX6_sensible_46 : decode cX6_sensible 46 = .ok (.iload_n 1, 1) := by decide +kernel
theorem dX6_sensible_47 : decode cX6_sensible 47 = .ok (.ifCond .ne 8, 3) := by decide +kernel
theorem dX6_sensible_50 : decode cX6_sensible 50 = .ok (.iload 4, 2) := by decide +kernel
theorem dX6_sensible_52 : decode cX6_sensible 52 = .ok (.goto 16, 3) := by decide +kernel
theorem dX6_sensible_55 : decode cX6_sensible 55 = .ok (.aload_n 0, 1) := by decide +kernel
theorem dX6_sensible_56 : decode cX6_sensible 56 = .ok (.getfield 38, 3) := by decide +kernel
theorem dX6_sensible_59 : decode cX6_sensible 59 = .ok (.aload_n 0, 1) := by decide +kernel
theorem dX6_sensible_60 : decode cX6_sensible 60 = .ok (.getfield 55, 3) := by decide +kernel
theorem dX6_sensible_63 : decode cX6_sensible 63 = .ok (.iload 4, 2) := by decide +kernel
theorem dX6_sensible_65 : decode cX6_sensible 65 = .ok (.invokevirtual 173, 3) := by decide +kernel
theorem dX6_sensible_68 : decode cX6_sensible 68 = .ok (.istore 5, 2) := by decide +kernel
theorem dX6_sensible_70 : decode cX6_sensible 70 = .ok (.aload_n 0, 1) := by decide +kernel
theorem dX6_sensible_71 : decode cX6_sensible 71 = .ok (.getfield 38, 3) := by decide +kernel
theorem dX6_sensible_74 : decode cX6_sensible 74 = .ok (.aload_n 0, 1) := by decide +kernel
theorem dX6_sensible_75 : decode cX6_sensible 75 = .ok (.getfield 55, 3) := by decide +kernel
theorem dX6_sensible_78 : decode cX6_sensible 78 = .ok (.iload 5, 2) := by decide +kernel
theorem dX6_sensible_80 : decode cX6_sensible 80 = .ok (.invokevirtual 154, 3) := by decide +kernel
theorem dX6_sensible_83 : decode cX6_sensible 83 = .ok (.ifCond .eq 6, 3) := by decide +kernel
theorem dX6_sensible_86 : decode cX6_sensible 86 = .ok (.iinc 3 1, 3) := by decide +kernel
theorem dX6_sensible_89 : decode cX6_sensible 89 = .ok (.iinc 4 1, 3) := by decide +kernel
theorem dX6_sensible_92 : decode cX6_sensible 92 = .ok (.goto (-52), 3) := by decide +kernel
theorem dX6_sensible_95 : decode cX6_sensible 95 = .ok (.iload_n 3, 1) := by decide +kernel
theorem dX6_sensible_96 : decode cX6_sensible 96 = .ok (.ireturn, 1) := by decide +kernel
theorem dX6_longest_0 : decode cX6_longest 0 = .ok (.aload_n 0, 1) := by decide +kernel
theorem dX6_longest_1 : decode cX6_longest 1 = .ok (.iload_n 1, 1) := by decide +kernel
theorem dX6_longest_2 : decode cX6_longest 2 = .ok (.invokevirtual 126, 3) := by decide +kernel
theorem dX6_longest_5 : decode cX6_longest 5 = .ok (.ifCond .ne 5, 3) := by decide +kernel
theorem dX6_longest_8 : decode cX6_longest 8 = .ok (.iconst (-1), 1) := by decide +kernel
theorem dX6_longest_9 : decode cX6_longest 9 = .ok (.ireturn, 1) := by decide +kernel
theorem dX6_longest_10 : decode cX6_longest 10 = .ok (.aload_n 0, 1) := by decide +kernel
theorem dX6_longest_11 : decode cX6_longest 11 = .ok (.getfield 55, 3) := by decide +kernel
theorem dX6_longest_14 : decode cX6_longest 14 = .ok (.iload_n 1, 1) := by decide +kernel
theorem dX6_longest_15 : decode cX6_longest 15 = .ok (.invokevirtual 158, 3) := by decide +kernel
theorem dX6_longest_18 : decode cX6_longest 18 = .ok (.istore_n 2, 1) := by decide +kernel
theorem dX6_longest_19 : decode cX6_longest 19 = .ok (.aload_n 0, 1) := by decide +kernel
theorem dX6_longest_20 : decode cX6_longest 20 = .ok (.getfield 38, 3) := by decide +kernel
theorem dX6_longest_23 : decode cX6_longest 23 = .ok (.aload_n 0, 1) := by decide +kernel
theorem dX6_longest_24 : decode cX6_longest 24 = .ok (.getfield 55, 3) := by decide +kernel
theorem dX6_longest_27 : decode cX6_longest 27 = .ok (.invokevirtual 209, 3) := by decide +kernel
theorem dX6_longest_30 : decode cX6_longest 30 = .ok (.istore_n 3, 1) := by decide +kernel
theorem dX6_longest_31 : decode cX6_longest 31 = .ok (.iconst 0, 1) := by decide +kernel
theorem dX6_longest_32 : decode cX6_longest 32 = .ok (.istore 4, 2) := by decide +kernel
theorem dX6_longest_34 : decode cX6_longest 34 = .ok (.iconst 0, 1) := by decide +kernel
theorem dX6_longest_35 : decode cX6_longest 35 = .ok (.istore 5, 2) := by decide +kernel
theorem dX6_longest_37 : decode cX6_longest 37 = .ok (.iload 5, 2) := by decide +kernel
theorem dX6_longest_39 : decode cX6_longest 39 = .ok (.iload_n 3, 1) := by decide +kernel
theorem dX6_longest_40 : decode cX6_longest 40 = .ok (.if_icmp .ge 40, 3) := by decide +kernel
theorem dX6_longest_43 : decode cX6_longest 43 = .ok (.aload_n 0, 1) := by decide +kernel
theorem dX6_longest_44 : decode cX6_longest 44 = .ok (.getfield 38, 3) := by decide +kernel
theorem dX6_longest_47 : decode cX6_longest 47 = .ok (.aload_n 0, 1) := by decide +kernel
theorem dX6_longest_48 : decode cX6_longest 48 = .ok (.getfield 55, 3) := by decide +kernel
theorem dX6_longest_51 : decode cX6_longest 51 = .ok (.aload_n 0, 1) := by decide +kernel
theorem dX6_longest_52 : decode cX6_longest 52 = .ok (.getfield 38, 3) := by decide +kernel
theorem dX6_longest_55 : decode cX6_longest 55 = .ok (.aload_n 0, 1) := by decide +kernel
theorem dX6_longest_56 : decode cX6_longest 56 = .ok (.getfield 55, 3) := by decide +kernel
theorem dX6_longest_59 : decode cX6_longest 59 = .ok (.iload 5, 2) := by decide +kernel
theorem dX6_longest_61 : decode cX6_longest 61 = .ok (.invokevirtual 173, 3) := by decide +kernel
theorem dX6_longest_64 : decode cX6_longest 64 = .ok (.iload_n 2, 1) := by decide +kernel
theorem dX6_longest_65 : decode cX6_longest 65 = .ok (.invokevirtual 215, 3) := by decide +kernel
theorem dX6_longest_68 : decode cX6_longest 68 = .ok (.ifCond .eq 6, 3) := by decide +kernel
theorem dX6_longest_71 : decode cX6_longest 71 = .ok (.iinc 4 1, 3) := by decide +kernel
theorem dX6_longest_74 : decode cX6_longest 74 = .ok (.iinc 5 1, 3) := by decide +kernel
theorem dX6_longest_77 : decode cX6_longest 77 = .ok (.goto (-40), 3) := by decide +kernel
theorem dX6_longest_80 : decode cX6_longest 80 = .ok (.iload 4, 2) := by decide +kernel
theorem dX6_longest_82 : decode cX6_longest 82 = .ok (.ireturn, 1) := by decide +kernel
theorem dX6_teeth_0 : decode cX6_teeth 0 = .ok (.aload_n 0, 1) := by decide +kernel
theorem dX6_teeth_1 : decode cX6_teeth 1 = .ok (.iload_n 1, 1) := by decide +kernel
theorem dX6_teeth_2 : decode cX6_teeth 2 = .ok (.invokevirtual 126, 3) := by decide +kernel
theorem dX6_teeth_5 : decode cX6_teeth 5 = .ok (.ifCond .eq 14, 3) := by decide +kernel
theorem dX6_teeth_8 : decode cX6_teeth 8 = .ok (.iload_n 2, 1) := by decide +kernel
theorem dX6_teeth_9 : decode cX6_teeth 9 = .ok (.iconst (-1), 1) := by decide +kernel
theorem dX6_teeth_10 : decode cX6_teeth 10 = .ok (.if_icmp .lt 9, 3) := by decide +kernel
theorem dX6_teeth_13 : decode cX6_teeth 13 = .ok (.iload_n 2, 1) := by decide +kernel
theorem dX6_teeth_14 : decode cX6_teeth 14 = .ok (.bipush 7, 2) := by decide +kernel
theorem dX6_teeth_16 : decode cX6_teeth 16 = .ok (.if_icmp .le 5, 3) := by decide +kernel
theorem dX6_teeth_19 : decode cX6_teeth 19 = .ok (.iconst (-1), 1) := by decide +kernel
theorem dX6_teeth_20 : decode cX6_teeth 20 = .ok (.ireturn, 1) := by decide +kernel
theorem dX6_teeth_21 : decode cX6_teeth 21 = .ok (.aload_n 0, 1) := by decide +kernel
theorem dX6_teeth_22 : decode cX6_teeth 22 = .ok (.getfield 48, 3) := by decide +kernel
theorem dX6_teeth_25 : decode cX6_teeth 25 = .ok (.aload_n 0, 1) := by decide +kernel
theorem dX6_teeth_26 : decode cX6_teeth 26 = .ok (.getfield 55, 3) := by decide +kernel
theorem dX6_teeth_29 : decode cX6_teeth 29 = .ok (.aload_n 0, 1) := by decide +kernel
theorem dX6_teeth_30 : decode cX6_teeth 30 = .ok (.getfield 38, 3) := by decide +kernel
theorem dX6_teeth_33 : decode cX6_teeth 33 = .ok (.iload_n 1, 1) := by decide +kernel
theorem dX6_teeth_34 : decode cX6_teeth 34 = .ok (.invokevirtual 219, 3) := by decide +kernel
theorem dX6_teeth_37 : decode cX6_teeth 37 = .ok (.aload_n 0, 1) := by decide +kernel
theorem dX6_teeth_38 : decode cX6_teeth 38 = .ok (.getfield 48, 3) := by decide +kernel
theorem dX6_teeth_41 : decode cX6_teeth 41 = .ok (.invokevirtual 223, 3) := by decide +kernel
theorem dX6_teeth_44 : decode cX6_teeth 44 = .ok (.istore_n 3, 1) := by decide +kernel
theorem dX6_teeth_45 : decode cX6_teeth 45 = .ok (.iload_n 2, 1) := by decide +kernel
theorem dX6_teeth_46 : decode cX6_teeth 46 = .ok (.iconst (-1), 1) := by decide +kernel
theorem dX6_teeth_47 : decode cX6_teeth 47 = .ok (.if_icmp .ne 5, 3) := by decide +kernel
theorem dX6_teeth_50 : decode cX6_teeth 50 = .ok (.iload_n 3, 1) := by decide +kernel
theorem dX6_teeth_51 : decode cX6_teeth 51 = .ok (.ireturn, 1) := by decide +kernel
theorem dX6_teeth_52 : decode cX6_teeth 52 = .ok (.iload_n 2, 1) := by decide +kernel
theorem dX6_teeth_53 : decode cX6_teeth 53 = .ok (.iload_n 3, 1) := by decide +kernel
theorem dX6_teeth_54 : decode cX6_teeth 54 = .ok (.if_icmp .lt 6, 3) := by decide +kernel
theorem dX6_teeth_57 : decode cX6_teeth 57 = .ok (.bipush (-4), 2) := by decide +kernel
theorem dX6_teeth_59 : decode cX6_teeth 59 = .ok (.ireturn, 1) := by decide +kernel
theorem dX6_teeth_60 : decode cX6_teeth 60 = .ok (.aload_n 0, 1) := by decide +kernel
theorem dX6_teeth_61 : decode cX6_teeth 61 = .ok (.getfield 48, 3) := by decide +kernel
theorem dX6_teeth_64 : decode cX6_teeth 64 = .ok (.iload_n 3, 1) := by decide +kernel
theorem dX6_teeth_65 : decode cX6_teeth 65 = .ok (.iload_n 2, 1) := by decide +kernel
theorem dX6_teeth_66 : decode cX6_teeth 66 = .ok (.invokevirtual 226, 3) := by decide +kernel
theorem dX6_teeth_69 : decode cX6_teeth 69 = .ok (.istore 4, 2) := by decide +kernel
theorem dX6_teeth_71 : decode cX6_teeth 71 = .ok (.iload 4, 2) := by decide +kernel
theorem dX6_teeth_73 : decode cX6_teeth 73 = .ok (.bipush 6, 2) := by decide +kernel
theorem dX6_teeth_75 : decode cX6_teeth 75 = .ok (.idiv, 1) := by decide +kernel
theorem dX6_teeth_76 : decode cX6_teeth 76 = .ok (.bipush 10, 2) := by decide +kernel
theorem dX6_teeth_78 : decode cX6_teeth 78 = .ok (.imul, 1) := by decide +kernel
theorem dX6_teeth_79 : decode cX6_teeth 79 = .ok (.iload 4, 2) := by decide +kernel
theorem dX6_teeth_81 : decode cX6_teeth 81 = .ok (.bipush 6, 2) := by decide +kernel
theorem dX6_teeth_83 : decode cX6_teeth 83 = .ok (.irem, 1) := by decide +kernel
theorem dX6_teeth_84 : decode cX6_teeth 84 = .ok (.iadd, 1) := by decide +kernel
theorem dX6_teeth_85 : decode cX6_teeth 85 = .ok (.ireturn, 1) := by decide +kernel
theorem dX6_together_0 : decode cX6_together 0 = .ok (.aload_n 0, 1) := by decide +kernel
theorem dX6_together_1 : decode cX6_together 1 = .ok (.iload_n 1, 1) := by decide +kernel
theorem dX6_together_2 : decode cX6_together 2 = .ok (.invokevirtual 126, 3) := by decide +kernel
theorem dX6_together_5 : decode cX6_together 5 = .ok (.ifCond .ne 5, 3) := by decide +kernel
theorem dX6_together_8 : decode cX6_together 8 = .ok (.iconst (-1), 1) := by decide +kernel
theorem dX6_together_9 : decode cX6_together 9 = .ok (.ireturn, 1) := by decide +kernel
theorem dX6_together_10 : decode cX6_together 10 = .ok (.aload_n 0, 1) := by decide +kernel
theorem dX6_together_11 : decode cX6_together 11 = .ok (.getfield 48, 3) := by decide +kernel
theorem dX6_together_14 : decode cX6_together 14 = .ok (.aload_n 0, 1) := by decide +kernel
theorem dX6_together_15 : decode cX6_together 15 = .ok (.getfield 55, 3) := by decide +kernel
theorem dX6_together_18 : decode cX6_together 18 = .ok (.aload_n 0, 1) := by decide +kernel
theorem dX6_together_19 : decode cX6_together 19 = .ok (.getfield 38, 3) := by decide +kernel
theorem dX6_together_22 : decode cX6_together 22 = .ok (.iload_n 1, 1) := by decide +kernel
theorem dX6_together_23 : decode cX6_together 23 = .ok (.invokevirtual 219, 3) := by decide +kernel
theorem dX6_together_26 : decode cX6_together 26 = .ok (.aload_n 0, 1) := by decide +kernel
theorem dX6_together_27 : decode cX6_together 27 = .ok (.getfield 48, 3) := by decide +kernel
theorem dX6_together_30 : decode cX6_together 30 = .ok (.invokevirtual 229, 3) := by decide +kernel
theorem dX6_together_33 : decode cX6_together 33 = .ok (.ireturn, 1) := by decide +kernel
theorem dX6_owner_0 : decode cX6_owner 0 = .ok (.aload_n 0, 1) := by decide +kernel
theorem dX6_owner_1 : decode cX6_owner 1 = .ok (.iload_n 1, 1) := by decide +kernel
theorem dX6_owner_2 : decode cX6_owner 2 = .ok (.invokevirtual 133, 3) := by decide +kernel
theorem dX6_owner_5 : decode cX6_owner 5 = .ok (.ifCond .ne 5, 3) := by decide +kernel
theorem dX6_owner_8 : decode cX6_owner 8 = .ok (.iconst (-1), 1) := by decide +kernel
theorem dX6_owner_9 : decode cX6_owner 9 = .ok (.ireturn, 1) := by decide +kernel
theorem dX6_owner_10 : decode cX6_owner 10 = .ok (.aload_n 0, 1) := by decide +kernel
theorem dX6_owner_11 : decode cX6_owner 11 = .ok (.getfield 38, 3) := by decide +kernel
theorem dX6_owner_14 : decode cX6_owner 14 = .ok (.getfield 136, 3) := by decide +kernel
theorem dX6_owner_17 : decode cX6_owner 17 = .ok (.iload_n 1, 1) := by decide +kernel
theorem dX6_owner_18 : decode cX6_owner 18 = .ok (.invokestatic 109, 3) := by decide +kernel
theorem dX6_owner_21 : decode cX6_owner 21 = .ok (.istore_n 2, 1) := by decide +kernel
theorem dX6_owner_22 : decode cX6_owner 22 = .ok (.iconst 0, 1) := by decide +kernel
theorem dX6_owner_23 : decode cX6_owner 23 = .ok (.istore_n 3, 1) := by decide +kernel
theorem dX6_owner_24 : decode cX6_owner 24 = .ok (.iload_n 3, 1) := by decide +kernel
theorem dX6_owner_25 : decode cX6_owner 25 = .ok (.iload_n 1, 1) := by decide +kernel
theorem dX6_owner_26 : decode cX6_owner 26 = .ok (.if_icmp .ge 24, 3) := by decide +kernel
theorem dX6_owner_29 : decode cX6_owner 29 = .ok (.aload_n 0, 1) := by decide +kernel
theorem dX6_owner_30 : decode cX6_owner 30 = .ok (.getfield 38, 3) := by decide +kernel
theorem dX6_owner_33 : decode cX6_owner 33 = .ok (.getfield 136, 3) := by decide +kernel
theorem dX6_owner_36 : decode cX6_owner 36 = .ok (.iload_n 3, 1) := by decide +kernel
theorem dX6_owner_37 : decode cX6_owner 37 = .ok (.invokestatic 109, 3) := by decide +kernel
theorem dX6_owner_40 : decode cX6_owner 40 = .ok (.iload_n 2, 1) := by decide +kernel
theorem dX6_owner_41 : decode cX6_owner 41 = .ok (.if_icmp .eq 9, 3) := by decide +kernel
theorem dX6_owner_44 : decode cX6_owner 44 = .ok (.iinc 3 1, 3) := by decide +kernel
theorem dX6_owner_47 : decode cX6_owner 47 = .ok (.goto (-23), 3) := by decide +kernel
theorem dX6_owner_50 : decode cX6_owner 50 = .ok (.aload_n 0, 1) := by decide +kernel
theorem dX6_owner_51 : decode cX6_owner 51 = .ok (.getfield 38, 3) := by decide +kernel
theorem dX6_owner_54 : decode cX6_owner 54 = .ok (.getfield 139, 3) := by decide +kernel
theorem dX6_owner_57 : decode cX6_owner 57 = .ok (.iload_n 3, 1) := by decide +kernel
theorem dX6_owner_58 : decode cX6_owner 58 = .ok (.invokestatic 109, 3) := by decide +kernel
theorem dX6_owner_61 : decode cX6_owner 61 = .ok (.ireturn, 1) := by decide +kernel
theorem dX6_caught_0 : decode cX6_caught 0 = .ok (.aload_n 0, 1) := by decide +kernel
theorem dX6_caught_1 : decode cX6_caught 1 = .ok (.iload_n 1, 1) := by decide +kernel
theorem dX6_caught_2 : decode cX6_caught 2 = .ok (.invokevirtual 126, 3) := by decide +kernel
theorem dX6_caught_5 : decode cX6_caught 5 = .ok (.ifCond .eq 20, 3) := by decide +kernel
theorem dX6_caught_8 : decode cX6_caught 8 = .ok (.iload_n 2, 1) := by decide +kernel
theorem dX6_caught_9 : decode cX6_caught 9 = .ok (.ifCond .lt 16, 3) := by decide +kernel
theorem dX6_caught_12 : decode cX6_caught 12 = .ok (.iload_n 2, 1) := by decide +kernel
theorem dX6_caught_13 : decode cX6_caught 13 = .ok (.bipush 10, 2) := by decide +kernel
theorem dX6_caught_15 : decode cX6_caught 15 = .ok (.if_icmp .gt 10, 3) := by decide +kernel
theorem dX6_caught_18 : decode cX6_caught 18 = .ok (.iload_n 3, 1) := by decide +kernel
theorem dX6_caught_19 : decode cX6_caught 19 = .ok (.invokestatic 206, 3) := by decide +kernel
theorem dX6_caught_22 : decode cX6_caught 22 = .ok (.ifCond .ne 7, 3) := by decide +kernel
theorem dX6_caught_25 : decode cX6_caught 25 = .ok (.ldc2_w 232, 3) := by decide +kernel
theorem dX6_caught_28 : decode cX6_caught 28 = .ok (.lreturn, 1) := by decide +kernel
theorem dX6_caught_29 : decode cX6_caught 29 = .ok (.aload_n 0, 1) := by decide +kernel
theorem dX6_caught_30 : decode cX6_caught 30 = .ok (.getfield 48, 3) := by decide +kernel
theorem dX6_caught_33 : decode cX6_caught 33 = .ok (.aload_n 0, 1) := by decide +kernel
theorem dX6_caught_34 : decode cX6_caught 34 = .ok (.getfield 55, 3) := by decide +kernel
theorem dX6_caught_37 : decode cX6_caught 37 = .ok (.aload_n 0, 1) := by decide +kernel
theorem dX6_caught_38 : decode cX6_caught 38 = .ok (.getfield 38, 3) := by decide +kernel
theorem dX6_caught_41 : decode cX6_caught 41 = .ok (.iload_n 1, 1) := by decide +kernel
theorem dX6_caught_42 : decode cX6_caught 42 = .ok (.invokevirtual 219, 3) := by decide +kernel
theorem dX6_caught_45 : decode cX6_caught 45 = .ok (.bipush 10, 2) := by decide +kernel
theorem dX6_caught_47 : decode cX6_caught 47 = .ok (.bipush 10, 2) := by decide +kernel
theorem dX6_caught_49 : decode cX6_caught 49 = .ok (.iload_n 2, 1) := by decide +kernel
theorem dX6_caught_50 : decode cX6_caught 50 = .ok (.isub, 1) := by decide +kernel
theorem dX6_caught_51 : decode cX6_caught 51 = .ok (.invokestatic 234, 3) := by decide +kernel
theorem dX6_caught_54 : decode cX6_caught 54 = .ok (.istore 4, 2) := by decide +kernel
theorem dX6_caught_56 : decode cX6_caught 56 = .ok (.iload_n 3, 1) := by decide +kernel
theorem dX6_caught_57 : decode cX6_caught 57 = .ok (.ifCond .ne 10, 3) := by decide +kernel
theorem dX6_caught_60 : decode cX6_caught 60 = .ok (.bipush 10, 2) := by decide +kernel
theorem dX6_caught_62 : decode cX6_caught 62 = .ok (.iload_n 2, 1) := by decide +kernel
theorem dX6_caught_63 : decode cX6_caught 63 = .ok (.isub, 1) := by decide +kernel
theorem dX6_caught_64 : decode cX6_caught 64 = .ok (.goto 5, 3) := by decide +kernel
theorem dX6_caught_67 : decode cX6_caught 67 = .ok (.bipush 10, 2) := by decide +kernel
theorem dX6_caught_69 : decode cX6_caught 69 = .ok (.iload 4, 2) := by decide +kernel
theorem dX6_caught_71 : decode cX6_caught 71 = .ok (.ifCond .le 8, 3) := by decide +kernel
theorem dX6_caught_74 : decode cX6_caught 74 = .ok (.iload 4, 2) := by decide +kernel
theorem dX6_caught_76 : decode cX6_caught 76 = .ok (.goto 4, 3) := by decide +kernel
theorem dX6_caught_79 : decode cX6_caught 79 = .ok (.iconst 1, 1) := by decide +kernel
theorem dX6_caught_80 : decode cX6_caught 80 = .ok (.idiv, 1) := by decide +kernel
theorem dX6_caught_81 : decode cX6_caught 81 = .ok (.istore 5, 2) := by decide +kernel
theorem dX6_caught_83 : decode cX6_caught 83 = .ok (.lconst 1, 1) := by decide +kernel
theorem dX6_caught_84 : decode cX6_caught 84 = .ok (.lstore 6, 2) := by decide +kernel
theorem dX6_caught_86 : decode cX6_caught 86 = .ok (.aload_n 0, 1) := by decide +kernel
theorem dX6_caught_87 : decode cX6_caught 87 = .ok (.getfield 48, 3) := by decide +kernel
theorem dX6_caught_90 : decode cX6_caught 90 = .ok (.invokevirtual 237, 3) := by decide +kernel
theorem dX6_caught_93 : decode cX6_caught 93 = .ok (.istore 8, 2) := by decide +kernel
theorem dX6_caught_95 : decode cX6_caught 95 = .ok (.iload 8, 2) := by decide +kernel
theorem dX6_caught_97 : decode cX6_caught 97 = .ok (.ifCond .le 17, 3) := by decide +kernel
theorem dX6_caught_100 : decode cX6_caught 100 = .ok (.lload 6, 2) := by decide +kernel
theorem dX6_caught_102 : decode cX6_caught 102 = .ok (.iload 5, 2) := by decide +kernel
theorem dX6_caught_104 : decode cX6_caught 104 = .ok (.i2l, 1) := by decide +kernel
theorem dX6_caught_105 : decode cX6_caught 105 = .ok (.lmul, 1) := by decide +kernel
theorem dX6_caught_106 : decode cX6_caught 106 = .ok (.lstore 6, 2) := by decide +kernel
theorem dX6_caught_108 : decode cX6_caught 108 = .ok (.iinc 8 (-1), 3) := by decide +kernel
theorem dX6_caught_111 : decode cX6_caught 111 = .ok (.goto (-16), 3) := by decide +kernel
theorem dX6_caught_114 : decode cX6_caught 114 = .ok (.lload 6, 2) := by decide +kernel
theorem dX6_caught_116 : decode cX6_caught 116 = .ok (.lreturn, 1) := by decide +kernel
theorem dX6_shown_0 : decode cX6_shown 0 = .ok (.aload_n 0, 1) := by decide +kernel
theorem dX6_shown_1 : decode cX6_shown 1 = .ok (.iload_n 1, 1) := by decide +kernel
theorem dX6_shown_2 : decode cX6_shown 2 = .ok (.invokevirtual 101, 3) := by decide +kernel
theorem dX6_shown_5 : decode cX6_shown 5 = .ok (.ifCond .eq 22, 3) := by decide +kernel
theorem dX6_shown_8 : decode cX6_shown 8 = .ok (.iload_n 2, 1) := by decide +kernel
theorem dX6_shown_9 : decode cX6_shown 9 = .ok (.ifCond .lt 18, 3) := by decide +kernel
theorem dX6_shown_12 : decode cX6_shown 12 = .ok (.iload_n 2, 1) := by decide +kernel
theorem dX6_shown_13 : decode cX6_shown 13 = .ok (.bipush 99, 2) := by decide +kernel
theorem dX6_shown_15 : decode cX6_shown 15 = .ok (.if_icmp .gt 12, 3) := by decide +kernel
theorem dX6_shown_18 : decode cX6_shown 18 = .ok (.aload_n 0, 1) := by decide +kernel
theorem dX6_shown_19 : decode cX6_shown 19 = .ok (.iload_n 1, 1) := by decide +kernel
theorem dX6_shown_20 : decode cX6_shown 20 = .ok (.iload_n 3, 1) := by decide +kernel
theorem dX6_shown_21 : decode cX6_shown 21 = .ok (.invokevirtual 190, 3) := by decide +kernel
theorem dX6_shown_24 : decode cX6_shown 24 = .ok (.ifCond .ne 5, 3) := by decide +kernel
theorem dX6_shown_27 : decode cX6_shown 27 = .ok (.iconst (-1), 1) := by decide +kernel
theorem dX6_shown_28 : decode cX6_shown 28 = .ok (.ireturn, 1) := by decide +kernel
theorem dX6_shown_29 : decode cX6_shown 29 = .ok (.aload_n 0, 1) := by decide +kernel
theorem dX6_shown_30 : decode cX6_shown 30 = .ok (.getfield 19, 3) := by decide +kernel
theorem dX6_shown_33 : decode cX6_shown 33 = .ok (.iload_n 1, 1) := by decide +kernel
theorem dX6_shown_34 : decode cX6_shown 34 = .ok (.iload_n 2, 1) := by decide +kernel
theorem dX6_shown_35 : decode cX6_shown 35 = .ok (.iload_n 3, 1) := by decide +kernel
theorem dX6_shown_36 : decode cX6_shown 36 = .ok (.invokevirtual 240, 3) := by decide +kernel
theorem dX6_shown_39 : decode cX6_shown 39 = .ok (.ifCond .eq 13, 3) := by decide +kernel
theorem dX6_shown_42 : decode cX6_shown 42 = .ok (.aload_n 0, 1) := by decide +kernel
theorem dX6_shown_43 : decode cX6_shown 43 = .ok (.getfield 19, 3) := by decide +kernel
theorem dX6_shown_46 : decode cX6_shown 46 = .ok (.getfield 95, 3) := by decide +kernel
theorem dX6_shown_49 : decode cX6_shown 49 = .ok (.goto 5, 3) := by decide +kernel
theorem dX6_shown_52 : decode cX6_shown 52 = .ok (.bipush (-3), 2) := by decide +kernel
theorem dX6_shown_54 : decode cX6_shown 54 = .ok (.ireturn, 1) := by decide +kernel
theorem dX6_forget_0 : decode cX6_forget 0 = .ok (.aload_n 0, 1) := by decide +kernel
theorem dX6_forget_1 : decode cX6_forget 1 = .ok (.getfield 19, 3) := by decide +kernel
theorem dX6_forget_4 : decode cX6_forget 4 = .ok (.getfield 95, 3) := by decide +kernel
theorem dX6_forget_7 : decode cX6_forget 7 = .ok (.istore_n 1, 1) := by decide +kernel
theorem dX6_forget_8 : decode cX6_forget 8 = .ok (.aload_n 0, 1) := by decide +kernel
theorem dX6_forget_9 : decode cX6_forget 9 = .ok (.getfield 19, 3) := by decide +kernel
theorem dX6_forget_12 : decode cX6_forget 12 = .ok (.iconst 0, 1) := by decide +kernel
theorem dX6_forget_13 : decode cX6_forget 13 = .ok (.putfield 95, 3) := by decide +kernel
theorem dX6_forget_16 : decode cX6_forget 16 = .ok (.iload_n 1, 1) := by decide +kernel
theorem dX6_forget_17 : decode cX6_forget 17 = .ok (.ireturn, 1) := by decide +kernel
theorem dX6_gears_0 : decode cX6_gears 0 = .ok (.aload_n 0, 1) := by decide +kernel
theorem dX6_gears_1 : decode cX6_gears 1 = .ok (.iload_n 1, 1) := by decide +kernel
theorem dX6_gears_2 : decode cX6_gears 2 = .ok (.invokevirtual 101, 3) := by decide +kernel
theorem dX6_gears_5 : decode cX6_gears 5 = .ok (.ifCond .eq 18, 3) := by decide +kernel
theorem dX6_gears_8 : decode cX6_gears 8 = .ok (.aload_n 0, 1) := by decide +kernel
theorem dX6_gears_9 : decode cX6_gears 9 = .ok (.getfield 19, 3) := by decide +kernel
theorem dX6_gears_12 : decode cX6_gears 12 = .ok (.aload_n 0, 1) := by decide +kernel
theorem dX6_gears_13 : decode cX6_gears 13 = .ok (.getfield 55, 3) := by decide +kernel
theorem dX6_gears_16 : decode cX6_gears 16 = .ok (.iload_n 1, 1) := by decide +kernel
theorem dX6_gears_17 : decode cX6_gears 17 = .ok (.invokevirtual 243, 3) := by decide +kernel
theorem dX6_gears_20 : decode cX6_gears 20 = .ok (.goto 4, 3) := by decide +kernel
theorem dX6_gears_23 : decode cX6_gears 23 = .ok (.iconst (-1), 1) := by decide +kernel
theorem dX6_gears_24 : decode cX6_gears 24 = .ok (.ireturn, 1) := by decide +kernel
theorem dX6_ask_0 : decode cX6_ask 0 = .ok (.aload_n 0, 1) := by decide +kernel
theorem dX6_ask_1 : decode cX6_ask 1 = .ok (.iload_n 1, 1) := by decide +kernel
theorem dX6_ask_2 : decode cX6_ask 2 = .ok (.invokevirtual 101, 3) := by decide +kernel
theorem dX6_ask_5 : decode cX6_ask 5 = .ok (.ifCond .eq 10, 3) := by decide +kernel
theorem dX6_ask_8 : decode cX6_ask 8 = .ok (.iload_n 2, 1) := by decide +kernel
theorem dX6_ask_9 : decode cX6_ask 9 = .ok (.invokestatic 206, 3) := by decide +kernel
theorem dX6_ask_12 : decode cX6_ask 12 = .ok (.ifCond .ne 5, 3) := by decide +kernel
theorem dX6_ask_15 : decode cX6_ask 15 = .ok (.iconst (-1), 1) := by decide +kernel
theorem dX6_ask_16 : decode cX6_ask 16 = .ok (.ireturn, 1) := by decide +kernel
theorem dX6_ask_17 : decode cX6_ask 17 = .ok (.aload_n 0, 1) := by decide +kernel
theorem dX6_ask_18 : decode cX6_ask 18 = .ok (.getfield 19, 3) := by decide +kernel
theorem dX6_ask_21 : decode cX6_ask 21 = .ok (.aload_n 0, 1) := by decide +kernel
theorem dX6_ask_22 : decode cX6_ask 22 = .ok (.getfield 55, 3) := by decide +kernel
theorem dX6_ask_25 : decode cX6_ask 25 = .ok (.iload_n 1, 1) := by decide +kernel
theorem dX6_ask_26 : decode cX6_ask 26 = .ok (.invokevirtual 243, 3) := by decide +kernel
theorem dX6_ask_29 : decode cX6_ask 29 = .ok (.istore_n 3, 1) := by decide +kernel
theorem dX6_ask_30 : decode cX6_ask 30 = .ok (.iload_n 3, 1) := by decide +kernel
theorem dX6_ask_31 : decode cX6_ask 31 = .ok (.ifCond .ne 6, 3) := by decide +kernel
theorem dX6_ask_34 : decode cX6_ask 34 = .ok (.bipush (-4), 2) := by decide +kernel
theorem dX6_ask_36 : decode cX6_ask 36 = .ok (.ireturn, 1) := by decide +kernel
theorem dX6_ask_37 : decode cX6_ask 37 = .ok (.iconst 1, 1) := by decide +kernel
theorem dX6_ask_38 : decode cX6_ask 38 = .ok (.istore 4, 2) := by decide +kernel
theorem dX6_ask_40 : decode cX6_ask 40 = .ok (.aload_n 0, 1) := by decide +kernel
theorem dX6_ask_41 : decode cX6_ask 41 = .ok (.getfield 19, 3) := by decide +kernel
theorem dX6_ask_44 : decode cX6_ask 44 = .ok (.aload_n 0, 1) := by decide +kernel
theorem dX6_ask_45 : decode cX6_ask 45 = .ok (.getfield 55, 3) := by decide +kernel
theorem dX6_ask_48 : decode cX6_ask 48 = .ok (.iload_n 1, 1) := by decide +kernel
theorem dX6_ask_49 : decode cX6_ask 49 = .ok (.iload_n 3, 1) := by decide +kernel
theorem dX6_ask_50 : decode cX6_ask 50 = .ok (.iconst 1, 1) := by decide +kernel
theorem dX6_ask_51 : decode cX6_ask 51 = .ok (.invokevirtual 246, 3) := by decide +kernel
theorem dX6_ask_54 : decode cX6_ask 54 = .ok (.istore 5, 2) := by decide +kernel
theorem dX6_ask_56 : decode cX6_ask 56 = .ok (.iconst 2, 1) := by decide +kernel
theorem dX6_ask_57 : decode cX6_ask 57 = .ok (.istore 6, 2) := by decide +kernel
theorem dX6_ask_59 : decode cX6_ask 59 = .ok (.iload 6, 2) := by decide +kernel
theorem dX6_ask_61 : decode cX6_ask 61 = .ok (.bipush 9, 2) := by decide +kernel
theorem dX6_ask_63 : decode cX6_ask 63 = .ok (.if_icmp .gt 41, 3) := by decide +kernel
theorem dX6_ask_66 : decode cX6_ask 66 = .ok (.aload_n 0, 1) := by decide +kernel
theorem dX6_ask_67 : decode cX6_ask 67 = .ok (.getfield 19, 3) := by decide +kernel
theorem dX6_ask_70 : decode cX6_ask 70 = .ok (.aload_n 0, 1) := by decide +kernel
theorem dX6_ask_71 : decode cX6_ask 71 = .ok (.getfield 55, 3) := by decide +kernel
theorem dX6_ask_74 : decode cX6_ask 74 = .ok (.iload_n 1, 1) := by decide +kernel
theorem dX6_ask_75 : decode cX6_ask 75 = .ok (.iload_n 3, 1) := by decide +kernel
theorem dX6_ask_76 : decode cX6_ask 76 = .ok (.iload 6, 2) := by decide +kernel
theorem dX6_ask_78 : decode cX6_ask 78 = .ok (.invokevirtual 246, 3) := by decide +kernel
theorem dX6_ask_81 : decode cX6_ask 81 = .ok (.istore 7, 2) := by decide +kernel
theorem dX6_ask_83 : decode cX6_ask 83 = .ok (.iload 7, 2) := by decide +kernel
theorem dX6_ask_85 : decode cX6_ask 85 = .ok (.iload 5, 2) := by decide +kernel
theorem dX6_ask_87 : decode cX6_ask 87 = .ok (.if_icmp .ge 11, 3) := by decide +kernel
theorem dX6_ask_90 : decode cX6_ask 90 = .ok (.iload 6, 2) := by decide +kernel
theorem dX6_ask_92 : decode cX6_ask 92 = .ok (.istore 4, 2) := by decide +kernel
theorem dX6_ask_94 : decode cX6_ask 94 = .ok (.iload 7, 2) := by decide +kernel
theorem dX6_ask_96 : decode cX6_ask 96 = .ok (.istore 5, 2) := by decide +kernel
theorem dX6_ask_98 : decode cX6_ask 98 = .ok (.iinc 6 1, 3) := by decide +kernel
theorem dX6_ask_101 : decode cX6_ask 101 = .ok (.goto (-42), 3) := by decide +kernel
theorem dX6_ask_104 : decode cX6_ask 104 = .ok (.iload_n 2, 1) := by decide +kernel
theorem dX6_ask_105 : decode cX6_ask 105 = .ok (.ifCond .ne 8, 3) := by decide +kernel
theorem dX6_ask_108 : decode cX6_ask 108 = .ok (.iload 4, 2) := by decide +kernel
theorem dX6_ask_110 : decode cX6_ask 110 = .ok (.goto 5, 3) := by decide +kernel
theorem dX6_ask_113 : decode cX6_ask 113 = .ok (.iload 5, 2) := by decide +kernel
theorem dX6_ask_115 : decode cX6_ask 115 = .ok (.ireturn, 1) := by decide +kernel
theorem dX6_sell_0 : decode cX6_sell 0 = .ok (.iload_n 1, 1) := by decide +kernel
theorem dX6_sell_1 : decode cX6_sell 1 = .ok (.invokestatic 206, 3) := by decide +kernel
theorem dX6_sell_4 : decode cX6_sell 4 = .ok (.ifCond .ne 5, 3) := by decide +kernel
theorem dX6_sell_7 : decode cX6_sell 7 = .ok (.iconst (-1), 1) := by decide +kernel
theorem dX6_sell_8 : decode cX6_sell 8 = .ok (.ireturn, 1) := by decide +kernel
theorem dX6_sell_9 : decode cX6_sell 9 = .ok (.iconst 0, 1) := by decide +kernel
theorem dX6_sell_10 : decode cX6_sell 10 = .ok (.istore_n 2, 1) := by decide +kernel
theorem dX6_sell_11 : decode cX6_sell 11 = .ok (.aload_n 0, 1) := by decide +kernel
theorem dX6_sell_12 : decode cX6_sell 12 = .ok (.iconst 0, 1) := by decide +kernel
theorem dX6_sell_13 : decode cX6_sell 13 = .ok (.invokevirtual 250, 3) := by decide +kernel
theorem dX6_sell_16 : decode cX6_sell 16 = .ok (.istore_n 3, 1) := by decide +kernel
theorem dX6_sell_17 : decode cX6_sell 17 = .ok (.iconst 0, 1) := by decide +kernel
theorem dX6_sell_18 : decode cX6_sell 18 = .ok (.istore 4, 2) := by decide +kernel
theorem dX6_sell_20 : decode cX6_sell 20 = .ok (.iconst 1, 1) := by decide +kernel
theorem dX6_sell_21 : decode cX6_sell 21 = .ok (.istore 5, 2) := by decide +kernel
theorem dX6_sell_23 : decode cX6_sell 23 = .ok (.iload 5, 2) := by decide +kernel
theorem dX6_sell_25 : decode cX6_sell 25 = .ok (.bipush 40, 2) := by decide +kernel
theorem dX6_sell_27 : decode cX6_sell 27 = .ok (.if_icmp .gt 69, 3) := by decide +kernel
theorem dX6_sell_30 : decode cX6_sell 30 = .ok (.iload 4, 2) := by decide +kernel
theorem dX6_sell_32 : decode cX6_sell 32 = .ok (.aload_n 0, 1) := by decide +kernel
theorem dX6_sell_33 : decode cX6_sell 33 = .ok (.getfield 38, 3) := by decide +kernel
theorem dX6_sell_36 : decode cX6_sell 36 = .ok (.aload_n 0, 1) := by decide +kernel
theorem dX6_sell_37 : decode cX6_sell 37 = .ok (.getfield 55, 3) := by decide +kernel
theorem dX6_sell_40 : decode cX6_sell 40 = .ok (.aload_n 0, 1) := by decide +kernel
theorem dX6_sell_41 : decode cX6_sell 41 = .ok (.getfield 38, 3) := by decide +kernel
theorem dX6_sell_44 : decode cX6_sell 44 = .ok (.aload_n 0, 1) := by decide +kernel
theorem dX6_sell_45 : decode cX6_sell 45 = .ok (.getfield 55, 3) := by decide +kernel
theorem dX6_sell_48 : decode cX6_sell 48 = .ok (.iload 5, 2) := by decide +kernel
theorem dX6_sell_50 : decode cX6_sell 50 = .ok (.invokevirtual 173, 3) := by decide +kernel
theorem dX6_sell_53 : decode cX6_sell 53 = .ok (.invokevirtual 154, 3) := by decide +kernel
theorem dX6_sell_56 : decode cX6_sell 56 = .ok (.ifCond .eq 7, 3) := by decide +kernel
theorem dX6_sell_59 : decode cX6_sell 59 = .ok (.iconst 1, 1) := by decide +kernel
theorem dX6_sell_60 : decode cX6_sell 60 = .ok (.goto 4, 3) := by decide +kernel
theorem dX6_sell_63 : decode cX6_sell 63 = .ok (.iconst 0, 1) := by decide +kernel
theorem dX6_sell_64 : decode cX6_sell 64 = .ok (.iadd, 1) := by decide +kernel
theorem dX6_sell_65 : decode cX6_sell 65 = .ok (.istore 4, 2) := by decide +kernel
theorem dX6_sell_67 : decode cX6_sell 67 = .ok (.aload_n 0, 1) := by decide +kernel
theorem dX6_sell_68 : decode cX6_sell 68 = .ok (.iload 5, 2) := by decide +kernel
theorem dX6_sell_70 : decode cX6_sell 70 = .ok (.invokevirtual 250, 3) := by decide +kernel
theorem dX6_sell_73 : decode cX6_sell 73 = .ok (.iload 4, 2) := by decide +kernel
theorem dX6_sell_75 : decode cX6_sell 75 = .ok (.iadd, 1) := by decide +kernel
theorem dX6_sell_76 : decode cX6_sell 76 = .ok (.istore 6, 2) := by decide +kernel
theorem dX6_sell_78 : decode cX6_sell 78 = .ok (.iload 6, 2) := by decide +kernel
theorem dX6_sell_80 : decode cX6_sell 80 = .ok (.iload_n 3, 1) := by decide +kernel
theorem dX6_sell_81 : decode cX6_sell 81 = .ok (.if_icmp .le 9, 3) := by decide +kernel
theorem dX6_sell_84 : decode cX6_sell 84 = .ok (.iload 5, 2) := by decide +kernel
theorem dX6_sell_86 : decode cX6_sell 86 = .ok (.istore_n 2, 1) := by decide +kernel
theorem dX6_sell_87 : decode cX6_sell 87 = .ok (.iload 6, 2) := by decide +kernel
theorem dX6_sell_89 : decode cX6_sell 89 = .ok (.istore_n 3, 1) := by decide +kernel
theorem dX6_sell_90 : decode cX6_sell 90 = .ok (.iinc 5 1, 3) := by decide +kernel
theorem dX6_sell_93 : decode cX6_sell 93 = .ok (.goto (-70), 3) := by decide +kernel
theorem dX6_sell_96 : decode cX6_sell 96 = .ok (.iload_n 1, 1) := by decide +kernel
theorem dX6_sell_97 : decode cX6_sell 97 = .ok (.ifCond .ne 7, 3) := by decide +kernel
theorem dX6_sell_100 : decode cX6_sell 100 = .ok (.iload_n 2, 1) := by decide +kernel
theorem dX6_sell_101 : decode cX6_sell 101 = .ok (.goto 4, 3) := by decide +kernel
theorem dX6_sell_104 : decode cX6_sell 104 = .ok (.iload_n 3, 1) := by decide +kernel
theorem dX6_sell_105 : decode cX6_sell 105 = .ok (.ireturn, 1) := by decide +kernel
theorem dX6_year_0 : decode cX6_year 0 = .ok (.iload_n 1, 1) := by decide +kernel
theorem dX6_year_1 : decode cX6_year 1 = .ok (.ifCond .lt 28, 3) := by decide +kernel
theorem dX6_year_4 : decode cX6_year 4 = .ok (.iload_n 1, 1) := by decide +kernel
theorem dX6_year_5 : decode cX6_year 5 = .ok (.sipush 9999, 3) := by decide +kernel
theorem dX6_year_8 : decode cX6_year 8 = .ok (.if_icmp .gt 21, 3) := by decide +kernel
theorem dX6_year_11 : decode cX6_year 11 = .ok (.iload_n 2, 1) := by decide +kernel
theorem dX6_year_12 : decode cX6_year 12 = .ok (.iconst 1, 1) := by decide +kernel
theorem dX6_year_13 : decode cX6_year 13 = .ok (.if_icmp .lt 16, 3) := by decide +kernel
theorem dX6_year_16 : decode cX6_year 16 = .ok (.iload_n 2, 1) := by decide +kernel
theorem dX6_year_17 : decode cX6_year 17 = .ok (.bipush 60, 2) := by decide +kernel
theorem dX6_year_19 : decode cX6_year 19 = .ok (.if_icmp .gt 10, 3) := by decide +kernel
theorem dX6_year_22 : decode cX6_year 22 = .ok (.iload_n 3, 1) := by decide +kernel
theorem dX6_year_23 : decode cX6_year 23 = .ok (.invokestatic 206, 3) := by decide +kernel
theorem dX6_year_26 : decode cX6_year 26 = .ok (.ifCond .ne 5, 3) := by decide +kernel
theorem dX6_year_29 : decode cX6_year 29 = .ok (.iconst (-1), 1) := by decide +kernel
theorem dX6_year_30 : decode cX6_year 30 = .ok (.ireturn, 1) := by decide +kernel
theorem dX6_year_31 : decode cX6_year 31 = .ok (.aload_n 0, 1) := by decide +kernel
theorem dX6_year_32 : decode cX6_year 32 = .ok (.getfield 55, 3) := by decide +kernel
theorem dX6_year_35 : decode cX6_year 35 = .ok (.getfield 253, 3) := by decide +kernel
theorem dX6_year_38 : decode cX6_year 38 = .ok (.istore 4, 2) := by decide +kernel
theorem dX6_year_40 : decode cX6_year 40 = .ok (.iload 4, 2) := by decide +kernel
theorem dX6_year_42 : decode cX6_year 42 = .ok (.iconst 2, 1) := by decide +kernel
theorem dX6_year_43 : decode cX6_year 43 = .ok (.if_icmp .ge 6, 3) := by decide +kernel
theorem dX6_year_46 : decode cX6_year 46 = .ok (.bipush (-2), 2) := by decide +kernel
theorem dX6_year_48 : decode cX6_year 48 = .ok (.ireturn, 1) := by decide +kernel
theorem dX6_year_49 : decode cX6_year 49 = .ok (.aload_n 0, 1) := by decide +kernel
theorem dX6_year_50 : decode cX6_year 50 = .ok (.getfield 42, 3) := by decide +kernel
theorem dX6_year_53 : decode cX6_year 53 = .ok (.aload_n 0, 1) := by decide +kernel
theorem dX6_year_54 : decode cX6_year 54 = .ok (.getfield 38, 3) := by decide +kernel
theorem dX6_year_57 : decode cX6_year 57 = .ok (.invokevirtual 256, 3) := by decide +kernel
theorem dX6_year_60 : decode cX6_year 60 = .ok (.iconst 0, 1) := by decide +kernel
theorem dX6_year_61 : decode cX6_year 61 = .ok (.istore 5, 2) := by decide +kernel
theorem dX6_year_63 : decode cX6_year 63 = .ok (.iconst 0, 1) := by decide +kernel
theorem dX6_year_64 : decode cX6_year 64 = .ok (.istore 6, 2) := by decide +kernel
theorem dX6_year_66 : decode cX6_year 66 = .ok (.iconst 0, 1) := by decide +kernel
theorem dX6_year_67 : decode cX6_year 67 = .ok (.istore 7, 2) := by decide +kernel
theorem dX6_year_69 : decode cX6_year 69 = .ok (.iload 7, 2) := by decide +kernel
theorem dX6_year_71 : decode cX6_year 71 = .ok (.iload_n 2, 1) := by decide +kernel
theorem dX6_year_72 : decode cX6_year 72 = .ok (.if_icmp .ge 112, 3) := by decide +kernel
theorem dX6_year_75 : decode cX6_year 75 = .ok (.iload_n 1, 1) := by decide +kernel
theorem dX6_year_76 : decode cX6_year 76 = .ok (.iload 7, 2) := by decide +kernel
theorem dX6_year_78 : decode cX6_year 78 = .ok (.invokestatic 259, 3) := by decide +kernel
theorem dX6_year_81 : decode cX6_year 81 = .ok (.istore 8, 2) := by decide +kernel
theorem dX6_year_83 : decode cX6_year 83 = .ok (.iload 8, 2) := by decide +kernel
theorem dX6_year_85 : decode cX6_year 85 = .ok (.iload 4, 2) := by decide +kernel
theorem dX6_year_87 : decode cX6_year 87 = .ok (.irem, 1) := by decide +kernel
theorem dX6_year_88 : decode cX6_year 88 = .ok (.istore 9, 2) := by decide +kernel
theorem dX6_year_90 : decode cX6_year 90 = .ok (.iload 9, 2) := by decide +kernel
theorem dX6_year_92 : decode cX6_year 92 = .ok (.iconst 1, 1) := by decide +kernel
theorem dX6_year_93 : decode cX6_year 93 = .ok (.iadd, 1) := by decide +kernel
theorem dX6_year_94 : decode cX6_year 94 = .ok (.iload 4, 2) := by decide +kernel
theorem dX6_year_96 : decode cX6_year 96 = .ok (.irem, 1) := by decide +kernel
theorem dX6_year_97 : decode cX6_year 97 = .ok (.istore 10, 2) := by decide +kernel
theorem dX6_year_99 : decode cX6_year 99 = .ok (.aload_n 0, 1) := by decide +kernel
theorem dX6_year_100 : decode cX6_year 100 = .ok (.getfield 42, 3) := by decide +kernel
theorem dX6_year_103 : decode cX6_year 103 = .ok (.aload_n 0, 1) := by decide +kernel
theorem dX6_year_104 : decode cX6_year 104 = .ok (.getfield 55, 3) := by decide +kernel
theorem dX6_year_107 : decode cX6_year 107 = .ok (.iload 10, 2) := by decide +kernel
theorem dX6_year_109 : decode cX6_year 109 = .ok (.invokevirtual 180, 3) := by decide +kernel
theorem dX6_year_112 : decode cX6_year 112 = .ok (.istore 11, 2) := by decide +kernel
theorem dX6_year_114 : decode cX6_year 114 = .ok (.iload 11, 2) := by decide +kernel
theorem dX6_year_116 : decode cX6_year 116 = .ok (.ifCond .le 39, 3) := by decide +kernel
theorem dX6_year_119 : decode cX6_year 119 = .ok (.aload_n 0, 1) := by decide +kernel
theorem dX6_year_120 : decode cX6_year 120 = .ok (.getfield 42, 3) := by decide +kernel
theorem dX6_year_123 : decode cX6_year 123 = .ok (.aload_n 0, 1) := by decide +kernel
theorem dX6_year_124 : decode cX6_year 124 = .ok (.getfield 55, 3) := by decide +kernel
theorem dX6_year_127 : decode cX6_year 127 = .ok (.iload 11, 2) := by decide +kernel
theorem dX6_year_129 : decode cX6_year 129 = .ok (.invokevirtual 169, 3) := by decide +kernel
theorem dX6_year_132 : decode cX6_year 132 = .ok (.iload 6, 2) := by decide +kernel
theorem dX6_year_134 : decode cX6_year 134 = .ok (.aload_n 0, 1) := by decide +kernel
theorem dX6_year_135 : decode cX6_year 135 = .ok (.getfield 42, 3) := by decide +kernel
theorem dX6_year_138 : decode cX6_year 138 = .ok (.aload_n 0, 1) := by decide +kernel
theorem dX6_year_139 : decode cX6_year 139 = .ok (.getfield 55, 3) := by decide +kernel
theorem dX6_year_142 : decode cX6_year 142 = .ok (.iload 9, 2) := by decide +kernel
theorem dX6_year_144 : decode cX6_year 144 = .ok (.iload 10, 2) := by decide +kernel
theorem dX6_year_146 : decode cX6_year 146 = .ok (.invokevirtual 183, 3) := by decide +kernel
theorem dX6_year_149 : decode cX6_year 149 = .ok (.iadd, 1) := by decide +kernel
theorem dX6_year_150 : decode cX6_year 150 = .ok (.istore 6, 2) := by decide +kernel
theorem dX6_year_152 : decode cX6_year 152 = .ok (.iinc 5 1, 3) := by decide +kernel
theorem dX6_year_155 : decode cX6_year 155 = .ok (.iload 8, 2) := by decide +kernel
theorem dX6_year_157 : decode cX6_year 157 = .ok (.bipush 16, 2) := by decide +kernel
theorem dX6_year_159 : decode cX6_year 159 = .ok (.idiv, 1) := by decide +kernel
theorem dX6_year_160 : decode cX6_year 160 = .ok (.iconst 3, 1) := by decide +kernel
theorem dX6_year_161 : decode cX6_year 161 = .ok (.irem, 1) := by decide +kernel
theorem dX6_year_162 : decode cX6_year 162 = .ok (.ifCond .ne 16, 3) := by decide +kernel
theorem dX6_year_165 : decode cX6_year 165 = .ok (.aload_n 0, 1) := by decide +kernel
theorem dX6_year_166 : decode cX6_year 166 = .ok (.getfield 42, 3) := by decide +kernel
theorem dX6_year_169 : decode cX6_year 169 = .ok (.dup, 1) := by decide +kernel
theorem dX6_year_170 : decode cX6_year 170 = .ok (.getfield 187, 3) := by decide +kernel
theorem dX6_year_173 : decode cX6_year 173 = .ok (.iconst 1, 1) := by decide +kernel
theorem dX6_year_174 : decode cX6_year 174 = .ok (.iadd, 1) := by decide +kernel
theorem dX6_year_175 : decode cX6_year 175 = .ok (.putfield 187, 3) := by decide +kernel
theorem dX6_year_178 : decode cX6_year 178 = .ok (.iinc 7 1, 3) := by decide +kernel
theorem dX6_year_181 : decode cX6_year 181 = .ok (.goto (-112), 3) := by decide +kernel
theorem dX6_year_184 : decode cX6_year 184 = .ok (.iload_n 3, 1) := by decide +kernel
theorem dX6_year_185 : decode cX6_year 185 = .ok (.ifCond .ne 8, 3) := by decide +kernel
theorem dX6_year_188 : decode cX6_year 188 = .ok (.iload 5, 2) := by decide +kernel
theorem dX6_year_190 : decode cX6_year 190 = .ok (.goto 5, 3) := by decide +kernel
theorem dX6_year_193 : decode cX6_year 193 = .ok (.iload 6, 2) := by decide +kernel
theorem dX6_year_195 : decode cX6_year 195 = .ok (.ireturn, 1) := by decide +kernel
theorem dX6_keep_0 : decode cX6_keep 0 = .ok (.aload_n 0, 1) := by decide +kernel
theorem dX6_keep_1 : decode cX6_keep 1 = .ok (.getfield 32, 3) := by decide +kernel
theorem dX6_keep_4 : decode cX6_keep 4 = .ok (.getfield 98, 3) := by decide +kernel
theorem dX6_keep_7 : decode cX6_keep 7 = .ok (.iconst 2, 1) := by decide +kernel
theorem dX6_keep_8 : decode cX6_keep 8 = .ok (.if_icmp .lt 6, 3) := by decide +kernel
theorem dX6_keep_11 : decode cX6_keep 11 = .ok (.bipush (-3), 2) := by decide +kernel
theorem dX6_keep_13 : decode cX6_keep 13 = .ok (.ireturn, 1) := by decide +kernel
theorem dX6_keep_14 : decode cX6_keep 14 = .ok (.aload_n 0, 1) := by decide +kernel
theorem dX6_keep_15 : decode cX6_keep 15 = .ok (.getfield 32, 3) := by decide +kernel
theorem dX6_keep_18 : decode cX6_keep 18 = .ok (.aload_n 0, 1) := by decide +kernel
theorem dX6_keep_19 : decode cX6_keep 19 = .ok (.getfield 38, 3) := by decide +kernel
theorem dX6_keep_22 : decode cX6_keep 22 = .ok (.invokevirtual 165, 3) := by decide +kernel
theorem dX6_keep_25 : decode cX6_keep 25 = .ok (.aload_n 0, 1) := by decide +kernel
theorem dX6_keep_26 : decode cX6_keep 26 = .ok (.getfield 32, 3) := by decide +kernel
theorem dX6_keep_29 : decode cX6_keep 29 = .ok (.getfield 98, 3) := by decide +kernel
theorem dX6_keep_32 : decode cX6_keep 32 = .ok (.ireturn, 1) := by decide +kernel
theorem dX6_back_0 : decode cX6_back 0 = .ok (.aload_n 0, 1) := by decide +kernel
theorem dX6_back_1 : decode cX6_back 1 = .ok (.getfield 32, 3) := by decide +kernel
theorem dX6_back_4 : decode cX6_back 4 = .ok (.aload_n 0, 1) := by decide +kernel
theorem dX6_back_5 : decode cX6_back 5 = .ok (.getfield 38, 3) := by decide +kernel
theorem dX6_back_8 : decode cX6_back 8 = .ok (.invokevirtual 202, 3) := by decide +kernel
theorem dX6_back_11 : decode cX6_back 11 = .ok (.ifCond .ne 6, 3) := by decide +kernel
theorem dX6_back_14 : decode cX6_back 14 = .ok (.bipush (-2), 2) := by decide +kernel
theorem dX6_back_16 : decode cX6_back 16 = .ok (.ireturn, 1) := by decide +kernel
theorem dX6_back_17 : decode cX6_back 17 = .ok (.aload_n 0, 1) := by decide +kernel
theorem dX6_back_18 : decode cX6_back 18 = .ok (.getfield 28, 3) := by decide +kernel
theorem dX6_back_21 : decode cX6_back 21 = .ok (.iconst 0, 1) := by decide +kernel
theorem dX6_back_22 : decode cX6_back 22 = .ok (.putfield 98, 3) := by decide +kernel
theorem dX6_back_25 : decode cX6_back 25 = .ok (.aload_n 0, 1) := by decide +kernel
theorem dX6_back_26 : decode cX6_back 26 = .ok (.getfield 32, 3) := by decide +kernel
theorem dX6_back_29 : decode cX6_back 29 = .ok (.getfield 98, 3) := by decide +kernel
theorem dX6_back_32 : decode cX6_back 32 = .ok (.ireturn, 1) := by decide +kernel
theorem dX6_count_0 : decode cX6_count 0 = .ok (.iload_n 1, 1) := by decide +kernel
theorem dX6_count_1 : decode cX6_count 1 = .ok (.tableswitch 147 0 10 #[59, 67, 75, 83, 91, 99, 107, 115, 123, 131, 139], 59) := by decide +kernel
theorem dX6_count_60 : decode cX6_count 60 = .ok (.aload_n 0, 1) := by decide +kernel
theorem dX6_count_61 : decode cX6_count 61 = .ok (.getfield 55, 3) := by decide +kernel
theorem dX6_count_64 : decode cX6_count 64 = .ok (.getfield 92, 3) := by decide +kernel
theorem dX6_count_67 : decode cX6_count 67 = .ok (.ireturn, 1) := by decide +kernel
theorem dX6_count_68 : decode cX6_count 68 = .ok (.aload_n 0, 1) := by decide +kernel
theorem dX6_count_69 : decode cX6_count 69 = .ok (.getfield 55, 3) := by decide +kernel
theorem dX6_count_72 : decode cX6_count 72 = .ok (.getfield 253, 3) := by decide +kernel
theorem dX6_count_75 : decode cX6_count 75 = .ok (.ireturn, 1) := by decide +kernel
theorem dX6_count_76 : decode cX6_count 76 = .ok (.aload_n 0, 1) := by decide +kernel
theorem dX6_count_77 : decode cX6_count 77 = .ok (.getfield 55, 3) := by decide +kernel
theorem dX6_count_80 : decode cX6_count 80 = .ok (.getfield 212, 3) := by decide +kernel
theorem dX6_count_83 : decode cX6_count 83 = .ok (.ireturn, 1) := by decide +kernel
theorem dX6_count_84 : decode cX6_count 84 = .ok (.aload_n 0, 1) := by decide +kernel
theorem dX6_count_85 : decode cX6_count 85 = .ok (.getfield 38, 3) := by decide +kernel
theorem dX6_count_88 : decode cX6_count 88 = .ok (.getfield 187, 3) := by decide +kernel
theorem dX6_count_91 : decode cX6_count 91 = .ok (.ireturn, 1) := by decide +kernel
theorem dX6_count_92 : decode cX6_count 92 = .ok (.aload_n 0, 1) := by decide +kernel
theorem dX6_count_93 : decode cX6_count 93 = .ok (.getfield 38, 3) := by decide +kernel
theorem dX6_count_96 : decode cX6_count 96 = .ok (.getfield 262, 3) := by decide +kernel
theorem dX6_count_99 : decode cX6_count 99 = .ok (.ireturn, 1) := by decide +kernel
theorem dX6_count_100 : decode cX6_count 100 = .ok (.aload_n 0, 1) := by decide +kernel
theorem dX6_count_101 : decode cX6_count 101 = .ok (.getfield 38, 3) := by decide +kernel
theorem dX6_count_104 : decode cX6_count 104 = .ok (.getfield 177, 3) := by decide +kernel
theorem dX6_count_107 : decode cX6_count 107 = .ok (.ireturn, 1) := by decide +kernel
theorem dX6_count_108 : decode cX6_count 108 = .ok (.aload_n 0, 1) := by decide +kernel
theorem dX6_count_109 : decode cX6_count 109 = .ok (.getfield 38, 3) := by decide +kernel
theorem dX6_count_112 : decode cX6_count 112 = .ok (.invokevirtual 265, 3) := by decide +kernel
theorem dX6_count_115 : decode cX6_count 115 = .ok (.ireturn, 1) := by decide +kernel
theorem dX6_count_116 : decode cX6_count 116 = .ok (.aload_n 0, 1) := by decide +kernel
theorem dX6_count_117 : decode cX6_count 117 = .ok (.getfield 19, 3) := by decide +kernel
theorem dX6_count_120 : decode cX6_count 120 = .ok (.getfield 95, 3) := by decide +kernel
theorem dX6_count_123 : decode cX6_count 123 = .ok (.ireturn, 1) := by decide +kernel
theorem dX6_count_124 : decode cX6_count 124 = .ok (.aload_n 0, 1) := by decide +kernel
theorem dX6_count_125 : decode cX6_count 125 = .ok (.getfield 28, 3) := by decide +kernel
theorem dX6_count_128 : decode cX6_count 128 = .ok (.getfield 98, 3) := by decide +kernel
theorem dX6_count_131 : decode cX6_count 131 = .ok (.ireturn, 1) := by decide +kernel
theorem dX6_count_132 : decode cX6_count 132 = .ok (.aload_n 0, 1) := by decide +kernel
theorem dX6_count_133 : decode cX6_count 133 = .ok (.getfield 32, 3) := by decide +kernel
theorem dX6_count_136 : decode cX6_count 136 = .ok (.getfield 98, 3) := by decide +kernel
theorem dX6_count_139 : decode cX6_count 139 = .ok (.ireturn, 1) := by decide +kernel
theorem dX6_count_140 : decode cX6_count 140 = .ok (.aload_n 0, 1) := by decide +kernel
theorem dX6_count_141 : decode cX6_count 141 = .ok (.getfield 12, 3) := by decide +kernel
theorem dX6_count_144 : decode cX6_count 144 = .ok (.getfield 89, 3) := by decide +kernel
theorem dX6_count_147 : decode cX6_count 147 = .ok (.ireturn, 1) := by decide +kernel
theorem dX6_count_148 : decode cX6_count 148 = .ok (.iconst (-1), 1) := by decide +kernel
theorem dX6_count_149 : decode cX6_count 149 = .ok (.ireturn, 1) := by decide +kernel
theorem dX6_isWheel_0 : decode cX6_isWheel 0 = .ok (.iload_n 1, 1) := by decide +kernel
theorem dX6_isWheel_1 : decode cX6_isWheel 1 = .ok (.ifCond .lt 18, 3) := by decide +kernel
theorem dX6_isWheel_4 : decode cX6_isWheel 4 = .ok (.iload_n 1, 1) := by decide +kernel
theorem dX6_isWheel_5 : decode cX6_isWheel 5 = .ok (.aload_n 0, 1) := by decide +kernel
theorem dX6_isWheel_6 : decode cX6_isWheel 6 = .ok (.getfield 55, 3) := by decide +kernel
theorem dX6_isWheel_9 : decode cX6_isWheel 9 = .ok (.getfield 92, 3) := by decide +kernel
theorem dX6_isWheel_12 : decode cX6_isWheel 12 = .ok (.if_icmp .ge 7, 3) := by decide +kernel
theorem dX6_isWheel_15 : decode cX6_isWheel 15 = .ok (.iconst 1, 1) := by decide +kernel
theorem dX6_isWheel_16 : decode cX6_isWheel 16 = .ok (.goto 4, 3) := by decide +kernel
theorem dX6_isWheel_19 : decode cX6_isWheel 19 = .ok (.iconst 0, 1) := by decide +kernel
theorem dX6_isWheel_20 : decode cX6_isWheel 20 = .ok (.ireturn, 1) := by decide +kernel
theorem dX6_isTooth_0 : decode cX6_isTooth 0 = .ok (.iload_n 2, 1) := by decide +kernel
theorem dX6_isTooth_1 : decode cX6_isTooth 1 = .ok (.ifCond .lt 22, 3) := by decide +kernel
theorem dX6_isTooth_4 : decode cX6_isTooth 4 = .ok (.iload_n 2, 1) := by decide +kernel
theorem dX6_isTooth_5 : decode cX6_isTooth 5 = .ok (.aload_n 0, 1) := by decide +kernel
theorem dX6_isTooth_6 : decode cX6_isTooth 6 = .ok (.getfield 55, 3) := by decide +kernel
theorem dX6_isTooth_9 : decode cX6_isTooth 9 = .ok (.getfield 105, 3) := by decide +kernel
theorem dX6_isTooth_12 : decode cX6_isTooth 12 = .ok (.iload_n 1, 1) := by decide +kernel
theorem dX6_isTooth_13 : decode cX6_isTooth 13 = .ok (.invokestatic 109, 3) := by decide +kernel
theorem dX6_isTooth_16 : decode cX6_isTooth 16 = .ok (.if_icmp .ge 7, 3) := by decide +kernel
theorem dX6_isTooth_19 : decode cX6_isTooth 19 = .ok (.iconst 1, 1) := by decide +kernel
theorem dX6_isTooth_20 : decode cX6_isTooth 20 = .ok (.goto 4, 3) := by decide +kernel
theorem dX6_isTooth_23 : decode cX6_isTooth 23 = .ok (.iconst 0, 1) := by decide +kernel
theorem dX6_isTooth_24 : decode cX6_isTooth 24 = .ok (.ireturn, 1) := by decide +kernel
theorem dX6_isPerson_0 : decode cX6_isPerson 0 = .ok (.iload_n 1, 1) := by decide +kernel
theorem dX6_isPerson_1 : decode cX6_isPerson 1 = .ok (.ifCond .lt 18, 3) := by decide +kernel
theorem dX6_isPerson_4 : decode cX6_isPerson 4 = .ok (.iload_n 1, 1) := by decide +kernel
theorem dX6_isPerson_5 : decode cX6_isPerson 5 = .ok (.aload_n 0, 1) := by decide +kernel
theorem dX6_isPerson_6 : decode cX6_isPerson 6 = .ok (.getfield 55, 3) := by decide +kernel
theorem dX6_isPerson_9 : decode cX6_isPerson 9 = .ok (.getfield 253, 3) := by decide +kernel
theorem dX6_isPerson_12 : decode cX6_isPerson 12 = .ok (.if_icmp .ge 7, 3) := by decide +kernel
theorem dX6_isPerson_15 : decode cX6_isPerson 15 = .ok (.iconst 1, 1) := by decide +kernel
theorem dX6_isPerson_16 : decode cX6_isPerson 16 = .ok (.goto 4, 3) := by decide +kernel
theorem dX6_isPerson_19 : decode cX6_isPerson 19 = .ok (.iconst 0, 1) := by decide +kernel
theorem dX6_isPerson_20 : decode cX6_isPerson 20 = .ok (.ireturn, 1) := by decide +kernel
theorem dX6_isExcuse_0 : decode cX6_isExcuse 0 = .ok (.iload_n 1, 1) := by decide +kernel
theorem dX6_isExcuse_1 : decode cX6_isExcuse 1 = .ok (.ifCond .lt 18, 3) := by decide +kernel
theorem dX6_isExcuse_4 : decode cX6_isExcuse 4 = .ok (.iload_n 1, 1) := by decide +kernel
theorem dX6_isExcuse_5 : decode cX6_isExcuse 5 = .ok (.aload_n 0, 1) := by decide +kernel
theorem dX6_isExcuse_6 : decode cX6_isExcuse 6 = .ok (.getfield 55, 3) := by decide +kernel
theorem dX6_isExcuse_9 : decode cX6_isExcuse 9 = .ok (.getfield 212, 3) := by decide +kernel
theorem dX6_isExcuse_12 : decode cX6_isExcuse 12 = .ok (.if_icmp .ge 7, 3) := by decide +kernel
theorem dX6_isExcuse_15 : decode cX6_isExcuse 15 = .ok (.iconst 1, 1) := by decide +kernel
theorem dX6_isExcuse_16 : decode cX6_isExcuse 16 = .ok (.goto 4, 3) := by decide +kernel
theorem dX6_isExcuse_19 : decode cX6_isExcuse 19 = .ok (.iconst 0, 1) := by decide +kernel
theorem dX6_isExcuse_20 : decode cX6_isExcuse 20 = .ok (.ireturn, 1) := by decide +kernel
theorem dX6_isHeard_0 : decode cX6_isHeard 0 = .ok (.iload_n 1, 1) := by decide +kernel
theorem dX6_isHeard_1 : decode cX6_isHeard 1 = .ok (.ifCond .lt 18, 3) := by decide +kernel
theorem dX6_isHeard_4 : decode cX6_isHeard 4 = .ok (.iload_n 1, 1) := by decide +kernel
theorem dX6_isHeard_5 : decode cX6_isHeard 5 = .ok (.aload_n 0, 1) := by decide +kernel
theorem dX6_isHeard_6 : decode cX6_isHeard 6 = .ok (.getfield 38, 3) := by decide +kernel
theorem dX6_isHeard_9 : decode cX6_isHeard 9 = .ok (.getfield 177, 3) := by decide +kernel
theorem dX6_isHeard_12 : decode cX6_isHeard 12 = .ok (.if_icmp .ge 7, 3) := by decide +kernel
theorem dX6_isHeard_15 : decode cX6_isHeard 15 = .ok (.iconst 1, 1) := by decide +kernel
theorem dX6_isHeard_16 : decode cX6_isHeard 16 = .ok (.goto 4, 3) := by decide +kernel
theorem dX6_isHeard_19 : decode cX6_isHeard 19 = .ok (.iconst 0, 1) := by decide +kernel
theorem dX6_isHeard_20 : decode cX6_isHeard 20 = .ok (.ireturn, 1) := by decide +kernel
theorem dX6_isPart_0 : decode cX6_isPart 0 = .ok (.iload_n 0, 1) := by decide +kernel
theorem dX6_isPart_1 : decode cX6_isPart 1 = .ok (.ifCond .eq 8, 3) := by decide +kernel
theorem dX6_isPart_4 : decode cX6_isPart 4 = .ok (.iload_n 0, 1) := by decide +kernel
theorem dX6_isPart_5 : decode cX6_isPart 5 = .ok (.iconst 1, 1) := by decide +kernel
theorem dX6_isPart_6 : decode cX6_isPart 6 = .ok (.if_icmp .ne 7, 3) := by decide +kernel
theorem dX6_isPart_9 : decode cX6_isPart 9 = .ok (.iconst 1, 1) := by decide +kernel
theorem dX6_isPart_10 : decode cX6_isPart 10 = .ok (.goto 4, 3) := by decide +kernel
theorem dX6_isPart_13 : decode cX6_isPart 13 = .ok (.iconst 0, 1) := by decide +kernel
theorem dX6_isPart_14 : decode cX6_isPart 14 = .ok (.ireturn, 1) := by decide +kernel
theorem dX6_worthBehind_0 : decode cX6_worthBehind 0 = .ok (.aload_n 0, 1) := by decide +kernel
theorem dX6_worthBehind_1 : decode cX6_worthBehind 1 = .ok (.getfield 55, 3) := by decide +kernel
theorem dX6_worthBehind_4 : decode cX6_worthBehind 4 = .ok (.getfield 268, 3) := by decide +kernel
theorem dX6_worthBehind_7 : decode cX6_worthBehind 7 = .ok (.aload_n 0, 1) := by decide +kernel
theorem dX6_worthBehind_8 : decode cX6_worthBehind 8 = .ok (.getfield 55, 3) := by decide +kernel
theorem dX6_worthBehind_11 : decode cX6_worthBehind 11 = .ok (.getfield 271, 3) := by decide +kernel
theorem dX6_worthBehind_14 : decode cX6_worthBehind 14 = .ok (.aload_n 0, 1) := by decide +kernel
theorem dX6_worthBehind_15 : decode cX6_worthBehind 15 = .ok (.getfield 38, 3) := by decide +kernel
theorem dX6_worthBehind_18 : decode cX6_worthBehind 18 = .ok (.getfield 262, 3) := by decide +kernel
theorem dX6_worthBehind_21 : decode cX6_worthBehind 21 = .ok (.iload_n 1, 1) := by decide +kernel
theorem dX6_worthBehind_22 : decode cX6_worthBehind 22 = .ok (.iadd, 1) := by decide +kernel
theorem dX6_worthBehind_23 : decode cX6_worthBehind 23 = .ok (.imul, 1) := by decide +kernel
theorem dX6_worthBehind_24 : decode cX6_worthBehind 24 = .ok (.isub, 1) := by decide +kernel
theorem dX6_worthBehind_25 : decode cX6_worthBehind 25 = .ok (.istore_n 2, 1) := by decide +kernel
theorem dX6_worthBehind_26 : decode cX6_worthBehind 26 = .ok (.iload_n 2, 1) := by decide +kernel
theorem dX6_worthBehind_27 : decode cX6_worthBehind 27 = .ok (.ifCond .le 7, 3) := by decide +kernel
theorem dX6_worthBehind_30 : decode cX6_worthBehind 30 = .ok (.iload_n 2, 1) := by decide +kernel
theorem dX6_worthBehind_31 : decode cX6_worthBehind 31 = .ok (.goto 4, 3) := by decide +kernel
theorem dX6_worthBehind_34 : decode cX6_worthBehind 34 = .ok (.iconst 0, 1) := by decide +kernel
theorem dX6_worthBehind_35 : decode cX6_worthBehind 35 = .ok (.ireturn, 1) := by decide +kernel
theorem dX6_drawOf_0 : decode cX6_drawOf 0 = .ok (.ldc2_w 274, 3) := by decide +kernel
theorem dX6_drawOf_3 : decode cX6_drawOf 3 = .ok (.iload_n 0, 1) := by decide +kernel
theorem dX6_drawOf_4 : decode cX6_drawOf 4 = .ok (.i2l, 1) := by decide +kernel
theorem dX6_drawOf_5 : decode cX6_drawOf 5 = .ok (.lmul, 1) := by decide +kernel
theorem dX6_drawOf_6 : decode cX6_drawOf 6 = .ok (.ldc2_w 276, 3) := by decide +kernel
theorem dX6_drawOf_9 : decode cX6_drawOf 9 = .ok (.iload_n 1, 1) := by decide +kernel
theorem dX6_drawOf_10 : decode cX6_drawOf 10 = .ok (.i2l, 1) := by decide +kernel
theorem dX6_drawOf_11 : decode cX6_drawOf 11 = .ok (.lmul, 1) := by decide +kernel
theorem dX6_drawOf_12 : decode cX6_drawOf 12 = .ok (.ladd, 1) := by decide +kernel
theorem dX6_drawOf_13 : decode cX6_drawOf 13 = .ok (.lconst 1, 1) := by decide +kernel
theorem dX6_drawOf_14 : decode cX6_drawOf 14 = .ok (.ladd, 1) := by decide +kernel
theorem dX6_drawOf_15 : decode cX6_drawOf 15 = .ok (.lstore_n 2, 1) := by decide +kernel
theorem dX6_drawOf_16 : decode cX6_drawOf 16 = .ok (.lload_n 2, 1) := by decide +kernel
theorem dX6_drawOf_17 : decode cX6_drawOf 17 = .ok (.lload_n 2, 1) := by decide +kernel
theorem dX6_drawOf_18 : decode cX6_drawOf 18 = .ok (.lmul, 1) := by decide +kernel
theorem dX6_drawOf_19 : decode cX6_drawOf 19 = .ok (.ldc2_w 278, 3) := by decide +kernel
theorem dX6_drawOf_22 : decode cX6_drawOf 22 = .ok (.lrem, 1) := by decide +kernel
theorem dX6_drawOf_23 : decode cX6_drawOf 23 = .ok (.ldc2_w 280, 3) := by decide +kernel
theorem dX6_drawOf_26 : decode cX6_drawOf 26 = .ok (.ldiv, 1) := by decide +kernel
theorem dX6_drawOf_27 : decode cX6_drawOf 27 = .ok (.l2i, 1) := by decide +kernel
theorem dX6_drawOf_28 : decode cX6_drawOf 28 = .ok (.ireturn, 1) := by decide +kernel
theorem dX6_at_0 : decode cX6_at 0 = .ok (.aload_n 0, 1) := by decide +kernel
theorem dX6_at_1 : decode cX6_at 1 = .ok (.ifnull 19, 3) := by decide +kernel
theorem dX6_at_4 : decode cX6_at 4 = .ok (.iload_n 1, 1) := by decide +kernel
theorem dX6_at_5 : decode cX6_at 5 = .ok (.ifCond .lt 15, 3) := by decide +kernel
theorem dX6_at_8 : decode cX6_at 8 = .ok (.iload_n 1, 1) := by decide +kernel
theorem dX6_at_9 : decode cX6_at 9 = .ok (.aload_n 0, 1) := by decide +kernel
theorem dX6_at_10 : decode cX6_at 10 = .ok (.arraylength, 1) := by decide +kernel
theorem dX6_at_11 : decode cX6_at 11 = .ok (.if_icmp .ge 9, 3) := by decide +kernel
theorem dX6_at_14 : decode cX6_at 14 = .ok (.aload_n 0, 1) := by decide +kernel
theorem dX6_at_15 : decode cX6_at 15 = .ok (.iload_n 1, 1) := by decide +kernel
theorem dX6_at_16 : decode cX6_at 16 = .ok (.iaload, 1) := by decide +kernel
theorem dX6_at_17 : decode cX6_at 17 = .ok (.goto 4, 3) := by decide +kernel
theorem dX6_at_20 : decode cX6_at 20 = .ok (.iconst 0, 1) := by decide +kernel
theorem dX6_at_21 : decode cX6_at 21 = .ok (.ireturn, 1) := by decide +kernel
theorem dX6_put_0 : decode cX6_put 0 = .ok (.aload_n 0, 1) := by decide +kernel
theorem dX6_put_1 : decode cX6_put 1 = .ok (.ifnull 17, 3) := by decide +kernel
theorem dX6_put_4 : decode cX6_put 4 = .ok (.iload_n 1, 1) := by decide +kernel
theorem dX6_put_5 : decode cX6_put 5 = .ok (.ifCond .lt 13, 3) := by decide +kernel
theorem dX6_put_8 : decode cX6_put 8 = .ok (.iload_n 1, 1) := by decide +kernel
theorem dX6_put_9 : decode cX6_put 9 = .ok (.aload_n 0, 1) := by decide +kernel
theorem dX6_put_10 : decode cX6_put 10 = .ok (.arraylength, 1) := by decide +kernel
theorem dX6_put_11 : decode cX6_put 11 = .ok (.if_icmp .ge 7, 3) := by decide +kernel
theorem dX6_put_14 : decode cX6_put 14 = .ok (.aload_n 0, 1) := by decide +kernel
theorem dX6_put_15 : decode cX6_put 15 = .ok (.iload_n 1, 1) := by decide +kernel
theorem dX6_put_16 : decode cX6_put 16 = .ok (.iload_n 2, 1) := by decide +kernel
theorem dX6_put_17 : decode cX6_put 17 = .ok (.iastore, 1) := by decide +kernel
theorem dX6_put_18 : decode cX6_put 18 = .ok (.return_, 1) := by decide +kernel
theorem dX6_copyRow_0 : decode cX6_copyRow 0 = .ok (.aload_n 0, 1) := by decide +kernel
theorem dX6_copyRow_1 : decode cX6_copyRow 1 = .ok (.ifnull 21, 3) := by decide +kernel
theorem dX6_copyRow_4 : decode cX6_copyRow 4 = .ok (.aload_n 1, 1) := by decide +kernel
theorem dX6_copyRow_5 : decode cX6_copyRow 5 = .ok (.ifnull 17, 3) := by decide +kernel
theorem dX6_copyRow_8 : decode cX6_copyRow 8 = .ok (.aload_n 0, 1) := by decide +kernel
theorem dX6_copyRow_9 : decode cX6_copyRow 9 = .ok (.iconst 0, 1) := by decide +kernel
theorem dX6_copyRow_10 : decode cX6_copyRow 10 = .ok (.aload_n 1, 1) := by decide +kernel
theorem dX6_copyRow_11 : decode cX6_copyRow 11 = .ok (.iconst 0, 1) := by decide +kernel
theorem dX6_copyRow_12 : decode cX6_copyRow 12 = .ok (.aload_n 0, 1) := by decide +kernel
theorem dX6_copyRow_13 : decode cX6_copyRow 13 = .ok (.arraylength, 1) := by decide +kernel
theorem dX6_copyRow_14 : decode cX6_copyRow 14 = .ok (.aload_n 1, 1) := by decide +kernel
theorem dX6_copyRow_15 : decode cX6_copyRow 15 = .ok (.arraylength, 1) := by decide +kernel
theorem dX6_copyRow_16 : decode cX6_copyRow 16 = .ok (.invokestatic 282, 3) := by decide +kernel
theorem dX6_copyRow_19 : decode cX6_copyRow 19 = .ok (.invokestatic 287, 3) := by decide +kernel
theorem dX6_copyRow_22 : decode cX6_copyRow 22 = .ok (.return_, 1) := by decide +kernel
theorem dX6_slotOf_0 : decode cX6_slotOf 0 = .ok (.iload_n 0, 1) := by decide +kernel
theorem dX6_slotOf_1 : decode cX6_slotOf 1 = .ok (.bipush 6, 2) := by decide +kernel
theorem dX6_slotOf_3 : decode cX6_slotOf 3 = .ok (.imul, 1) := by decide +kernel
theorem dX6_slotOf_4 : decode cX6_slotOf 4 = .ok (.iload_n 1, 1) := by decide +kernel
theorem dX6_slotOf_5 : decode cX6_slotOf 5 = .ok (.iadd, 1) := by decide +kernel
theorem dX6_slotOf_6 : decode cX6_slotOf 6 = .ok (.ireturn, 1) := by decide +kernel
theorem dX6_lowestOf_0 : decode cX6_lowestOf 0 = .ok (.iload_n 0, 1) := by decide +kernel
theorem dX6_lowestOf_1 : decode cX6_lowestOf 1 = .ok (.iload_n 0, 1) := by decide +kernel
theorem dX6_lowestOf_2 : decode cX6_lowestOf 2 = .ok (.ineg, 1) := by decide +kernel
theorem dX6_lowestOf_3 : decode cX6_lowestOf 3 = .ok (.iand, 1) := by decide +kernel
theorem dX6_lowestOf_4 : decode cX6_lowestOf 4 = .ok (.iconst 1, 1) := by decide +kernel
theorem dX6_lowestOf_5 : decode cX6_lowestOf 5 = .ok (.isub, 1) := by decide +kernel
theorem dX6_lowestOf_6 : decode cX6_lowestOf 6 = .ok (.invokestatic 193, 3) := by decide +kernel
theorem dX6_lowestOf_9 : decode cX6_lowestOf 9 = .ok (.ireturn, 1) := by decide +kernel
theorem dX6_commonDivisor_0 : decode cX6_commonDivisor 0 = .ok (.iconst 0, 1) := by decide +kernel
theorem dX6_commonDivisor_1 : decode cX6_commonDivisor 1 = .ok (.istore_n 2, 1) := by decide +kernel
theorem dX6_commonDivisor_2 : decode cX6_commonDivisor 2 = .ok (.iload_n 2, 1) := by decide +kernel
theorem dX6_commonDivisor_3 : decode cX6_commonDivisor 3 = .ok (.bipush 64, 2) := by decide +kernel
theorem dX6_commonDivisor_5 : decode cX6_commonDivisor 5 = .ok (.if_icmp .ge 21, 3) := by decide +kernel
theorem dX6_commonDivisor_8 : decode cX6_commonDivisor 8 = .ok (.iload_n 1, 1) := by decide +kernel
theorem dX6_commonDivisor_9 : decode cX6_commonDivisor 9 = .ok (.ifCond .eq 17, 3) := by decide +kernel
theorem dX6_commonDivisor_12 : decode cX6_commonDivisor 12 = .ok (.iload_n 0, 1) := by decide +kernel
theorem dX6_commonDivisor_13 : decode cX6_commonDivisor 13 = .ok (.iload_n 1, 1) := by decide +kernel
theorem dX6_commonDivisor_14 : decode cX6_commonDivisor 14 = .ok (.irem, 1) := by decide +kernel
theorem dX6_commonDivisor_15 : decode cX6_commonDivisor 15 = .ok (.istore_n 3, 1) := by decide +kernel
theorem dX6_commonDivisor_16 : decode cX6_commonDivisor 16 = .ok (.iload_n 1, 1) := by decide +kernel
theorem dX6_commonDivisor_17 : decode cX6_commonDivisor 17 = .ok (.istore_n 0, 1) := by decide +kernel
theorem dX6_commonDivisor_18 : decode cX6_commonDivisor 18 = .ok (.iload_n 3, 1) := by decide +kernel
theorem dX6_commonDivisor_19 : decode cX6_commonDivisor 19 = .ok (.istore_n 1, 1) := by decide +kernel
theorem dX6_commonDivisor_20 : decode cX6_commonDivisor 20 = .ok (.iinc 2 1, 3) := by decide +kernel
theorem dX6_commonDivisor_23 : decode cX6_commonDivisor 23 = .ok (.goto (-21), 3) := by decide +kernel
theorem dX6_commonDivisor_26 : decode cX6_commonDivisor 26 = .ok (.iload_n 0, 1) := by decide +kernel
theorem dX6_commonDivisor_27 : decode cX6_commonDivisor 27 = .ok (.ireturn, 1) := by decide +kernel
