theorem dX0_init_0 : decode cX0_init 0 = .ok (.aload_n 0, 1) := by decide +kernel
theorem dX0_init_1 : decode cX0_init 1 = .ok (.invokespecial 3, 3) := by decide +kernel
theorem dX0_init_4 : decode cX0_init 4 = .ok (.aload_n 0, 1) := by decide +kernel
theorem dX0_init_5 : decode cX0_init 5 = .ok (.bipush 16, 2) := by decide +kernel
theorem dX0_init_7 : decode cX0_init 7 = .ok (.newarray .int, 2) := by decide +kernel
theorem dX0_init_9 : decode cX0_init 9 = .ok (.putfield 9, 3) := by decide +kernel
theorem dX0_init_12 : decode cX0_init 12 = .ok (.aload_n 0, 1) := by decide +kernel
theorem dX0_init_13 : decode cX0_init 13 = .ok (.iload_n 1, 1) := by decide +kernel
theorem dX0_init_14 : decode cX0_init 14 = .ok (.putfield 15, 3) := by decide +kernel
theorem dX0_init_17 : decode cX0_init 17 = .ok (.aload_n 0, 1) := by decide +kernel
theorem dX0_init_18 : decode cX0_init 18 = .ok (.iload_n 2, 1) := by decide +kernel
theorem dX0_init_19 : decode cX0_init 19 = .ok (.putfield 19, 3) := by decide +kernel
theorem dX0_init_22 : decode cX0_init 22 = .ok (.aload_n 0, 1) := by decide +kernel
theorem dX0_init_23 : decode cX0_init 23 = .ok (.iload_n 3, 1) := by decide +kernel
theorem dX0_init_24 : decode cX0_init 24 = .ok (.putfield 22, 3) := by decide +kernel
theorem dX0_init_27 : decode cX0_init 27 = .ok (.aload_n 0, 1) := by decide +kernel
theorem dX0_init_28 : decode cX0_init 28 = .ok (.iload 4, 2) := by decide +kernel
theorem dX0_init_30 : decode cX0_init 30 = .ok (.putfield 25, 3) := by decide +kernel
theorem dX0_init_33 : decode cX0_init 33 = .ok (.aload_n 0, 1) := by decide +kernel
theorem dX0_init_34 : decode cX0_init 34 = .ok (.iconst (-1), 1) := by decide +kernel
theorem dX0_init_35 : decode cX0_init 35 = .ok (.putfield 29, 3) := by decide +kernel
theorem dX0_init_38 : decode cX0_init 38 = .ok (.return_, 1) := by decide +kernel
theorem dX0_isReadyAt_0 : decode cX0_isReadyAt 0 = .ok (.aload_n 0, 1) := by decide +kernel
theorem dX0_isReadyAt_1 : decode cX0_isReadyAt 1 = .ok (.getfield 32, 3) := by decide +kernel
theorem dX0_isReadyAt_4 : decode cX0_isReadyAt 4 = .ok (.ifCond .ne 15, 3) := by decide +kernel
theorem dX0_isReadyAt_7 : decode cX0_isReadyAt 7 = .ok (.aload_n 0, 1) := by decide +kernel
theorem dX0_isReadyAt_8 : decode cX0_isReadyAt 8 = .ok (.getfield 35, 3) := by decide +kernel
theorem dX0_isReadyAt_11 : decode cX0_isReadyAt 11 = .ok (.iload_n 1, 1) := by decide +kernel
theorem dX0_isReadyAt_12 : decode cX0_isReadyAt 12 = .ok (.if_icmp .gt 7, 3) := by decide +kernel
theorem dX0_isReadyAt_15 : decode cX0_isReadyAt 15 = .ok (.iconst 1, 1) := by decide +kernel
theorem dX0_isReadyAt_16 : decode cX0_isReadyAt 16 = .ok (.goto 4, 3) := by decide +kernel
theorem dX0_isReadyAt_19 : decode cX0_isReadyAt 19 = .ok (.iconst 0, 1) := by decide +kernel
theorem dX0_isReadyAt_20 : decode cX0_isReadyAt 20 = .ok (.ireturn, 1) := by decide +kernel
theorem dX0_start_0 : decode cX0_start 0 = .ok (.iconst 0, 1) := by decide +kernel
theorem dX0_start_1 : decode cX0_start 1 = .ok (.istore_n 3, 1) := by decide +kernel
theorem dX0_start_2 : decode cX0_start 2 = .ok (.iconst 0, 1) := by decide +kernel
theorem dX0_start_3 : decode cX0_start 3 = .ok (.istore 4, 2) := by decide +kernel
theorem dX0_start_5 : decode cX0_start 5 = .ok (.iload 4, 2) := by decide +kernel
theorem dX0_start_7 : decode cX0_start 7 = .ok (.aload_n 2, 1) := by decide +kernel
theorem dX0_start_8 : decode cX0_start 8 = .ok (.getfield 38, 3) := by decide +kernel
theorem dX0_start_11 : decode cX0_start 11 = .ok (.if_icmp .ge 32, 3) := by decide +kernel
theorem dX0_start_14 : decode cX0_start 14 = .ok (.iload_n 3, 1) := by decide +kernel
theorem dX0_start_15 : decode cX0_start 15 = .ok (.aload_n 2, 1) := by decide +kernel
theorem dX0_start_16 : decode cX0_start 16 = .ok (.getfield 43, 3) := by decide +kernel
theorem dX0_start_19 : decode cX0_start 19 = .ok (.aload_n 2, 1) := by decide +kernel
theorem dX0_start_20 : decode cX0_start 20 = .ok (.getfield 46, 3) := by decide +kernel
theorem dX0_start_23 : decode cX0_start 23 = .ok (.iload 4, 2) := by decide +kernel
theorem dX0_start_25 : decode cX0_start 25 = .ok (.iaload, 1) := by decide +kernel
theorem dX0_start_26 : decode cX0_start 26 = .ok (.iaload, 1) := by decide +kernel
theorem dX0_start_27 : decode cX0_start 27 = .ok (.iadd, 1) := by decide +kernel
theorem dX0_start_28 : decode cX0_start 28 = .ok (.istore_n 3, 1) := by decide +kernel
theorem dX0_start_29 : decode cX0_start 29 = .ok (.aload_n 0, 1) := by decide +kernel
theorem dX0_start_30 : decode cX0_start 30 = .ok (.getfield 9, 3) := by decide +kernel
theorem dX0_start_33 : decode cX0_start 33 = .ok (.iload 4, 2) := by decide +kernel
theorem dX0_start_35 : decode cX0_start 35 = .ok (.iload_n 3, 1) := by decide +kernel
theorem dX0_start_36 : decode cX0_start 36 = .ok (.iastore, 1) := by decide +kernel
theorem dX0_start_37 : decode cX0_start 37 = .ok (.iinc 4 1, 3) := by decide +kernel
theorem dX0_start_40 : decode cX0_start 40 = .ok (.goto (-35), 3) := by decide +kernel
theorem dX0_start_43 : decode cX0_start 43 = .ok (.aload_n 0, 1) := by decide +kernel
theorem dX0_start_44 : decode cX0_start 44 = .ok (.aload_n 2, 1) := by decide +kernel
theorem dX0_start_45 : decode cX0_start 45 = .ok (.getfield 38, 3) := by decide +kernel
theorem dX0_start_48 : decode cX0_start 48 = .ok (.putfield 49, 3) := by decide +kernel
theorem dX0_start_51 : decode cX0_start 51 = .ok (.aload_n 0, 1) := by decide +kernel
theorem dX0_start_52 : decode cX0_start 52 = .ok (.iconst 1, 1) := by decide +kernel
theorem dX0_start_53 : decode cX0_start 53 = .ok (.putfield 32, 3) := by decide +kernel
theorem dX0_start_56 : decode cX0_start 56 = .ok (.aload_n 0, 1) := by decide +kernel
theorem dX0_start_57 : decode cX0_start 57 = .ok (.iload_n 1, 1) := by decide +kernel
theorem dX0_start_58 : decode cX0_start 58 = .ok (.putfield 29, 3) := by decide +kernel
theorem dX0_start_61 : decode cX0_start 61 = .ok (.return_, 1) := by decide +kernel
theorem dX0_saySound_0 : decode cX0_saySound 0 = .ok (.aload_n 0, 1) := by decide +kernel
theorem dX0_saySound_1 : decode cX0_saySound 1 = .ok (.dup, 1) := by decide +kernel
theorem dX0_saySound_2 : decode cX0_saySound 2 = .ok (.getfield 52, 3) := by decide +kernel
theorem dX0_saySound_5 : decode cX0_saySound 5 = .ok (.iconst 1, 1) := by decide +kernel
theorem dX0_saySound_6 : decode cX0_saySound 6 = .ok (.iadd, 1) := by decide +kernel
theorem dX0_saySound_7 : decode cX0_saySound 7 = .ok (.putfield 52, 3) := by decide +kernel
theorem dX0_saySound_10 : decode cX0_saySound 10 = .ok (.aload_n 0, 1) := by decide +kernel
theorem dX0_saySound_11 : decode cX0_saySound 11 = .ok (.getfield 55, 3) := by decide +kernel
theorem dX0_saySound_14 : decode cX0_saySound 14 = .ok (.aload_n 0, 1) := by decide +kernel
theorem dX0_saySound_15 : decode cX0_saySound 15 = .ok (.getfield 49, 3) := by decide +kernel
theorem dX0_saySound_18 : decode cX0_saySound 18 = .ok (.if_icmp .ge 20, 3) := by decide +kernel
theorem dX0_saySound_21 : decode cX0_saySound 21 = .ok (.aload_n 0, 1) := by decide +kernel
theorem dX0_saySound_22 : decode cX0_saySound 22 = .ok (.getfield 52, 3) := by decide +kernel
theorem dX0_saySound_25 : decode cX0_saySound 25 = .ok (.aload_n 0, 1) := by decide +kernel
theorem dX0_saySound_26 : decode cX0_saySound 26 = .ok (.getfield 9, 3) := by decide +kernel
theorem dX0_saySound_29 : decode cX0_saySound 29 = .ok (.aload_n 0, 1) := by decide +kernel
theorem dX0_saySound_30 : decode cX0_saySound 30 = .ok (.getfield 55, 3) := by decide +kernel
theorem dX0_saySound_33 : decode cX0_saySound 33 = .ok (.iaload, 1) := by decide +kernel
theorem dX0_saySound_34 : decode cX0_saySound 34 = .ok (.if_icmp .ge 4, 3) := by decide +kernel
theorem dX0_saySound_37 : decode cX0_saySound 37 = .ok (.return_, 1) := by decide +kernel
theorem dX0_saySound_38 : decode cX0_saySound 38 = .ok (.aload_n 0, 1) := by decide +kernel
theorem dX0_saySound_39 : decode cX0_saySound 39 = .ok (.dup, 1) := by decide +kernel
theorem dX0_saySound_40 : decode cX0_saySound 40 = .ok (.getfield 55, 3) := by decide +kernel
theorem dX0_saySound_43 : decode cX0_saySound 43 = .ok (.iconst 1, 1) := by decide +kernel
theorem dX0_saySound_44 : decode cX0_saySound 44 = .ok (.iadd, 1) := by decide +kernel
theorem dX0_saySound_45 : decode cX0_saySound 45 = .ok (.putfield 55, 3) := by decide +kernel
theorem dX0_saySound_48 : decode cX0_saySound 48 = .ok (.aload_n 0, 1) := by decide +kernel
theorem dX0_saySound_49 : decode cX0_saySound 49 = .ok (.getfield 55, 3) := by decide +kernel
theorem dX0_saySound_52 : decode cX0_saySound 52 = .ok (.aload_n 0, 1) := by decide +kernel
theorem dX0_saySound_53 : decode cX0_saySound 53 = .ok (.getfield 49, 3) := by decide +kernel
theorem dX0_saySound_56 : decode cX0_saySound 56 = .ok (.if_icmp .lt 11, 3) := by decide +kernel
theorem dX0_saySound_59 : decode cX0_saySound 59 = .ok (.aload_n 0, 1) := by decide +kernel
theorem dX0_saySound_60 : decode cX0_saySound 60 = .ok (.iconst 2, 1) := by decide +kernel
theorem dX0_saySound_61 : decode cX0_saySound 61 = .ok (.putfield 32, 3) := by decide +kernel
theorem dX0_saySound_64 : decode cX0_saySound 64 = .ok (.goto 15, 3) := by decide +kernel
theorem dX0_saySound_67 : decode cX0_saySound 67 = .ok (.aload_n 0, 1) := by decide +kernel
theorem dX0_saySound_68 : decode cX0_saySound 68 = .ok (.getfield 58, 3) := by decide +kernel
theorem dX0_saySound_71 : decode cX0_saySound 71 = .ok (.ifCond .eq 8, 3) := by decide +kernel
theorem dX0_saySound_74 : decode cX0_saySound 74 = .ok (.aload_n 0, 1) := by decide +kernel
theorem dX0_saySound_75 : decode cX0_saySound 75 = .ok (.iconst 3, 1) := by decide +kernel
theorem dX0_saySound_76 : decode cX0_saySound 76 = .ok (.putfield 32, 3) := by decide +kernel
theorem dX0_saySound_79 : decode cX0_saySound 79 = .ok (.return_, 1) := by decide +kernel
theorem dX1_init_0 : decode cX1_init 0 = .ok (.aload_n 0, 1) := by decide +kernel
theorem dX1_init_1 : decode cX1_init 1 = .ok (.invokespecial 3, 3) := by decide +kernel
theorem dX1_init_4 : decode cX1_init 4 = .ok (.aload_n 0, 1) := by decide +kernel
theorem dX1_init_5 : decode cX1_init 5 = .ok (.bipush 32, 2) := by decide +kernel
theorem dX1_init_7 : decode cX1_init 7 = .ok (.newarray .int, 2) := by decide +kernel
theorem dX1_init_9 : decode cX1_init 9 = .ok (.putfield 9, 3) := by decide +kernel
theorem dX1_init_12 : decode cX1_init 12 = .ok (.aload_n 0, 1) := by decide +kernel
theorem dX1_init_13 : decode cX1_init 13 = .ok (.bipush 32, 2) := by decide +kernel
theorem dX1_init_15 : decode cX1_init 15 = .ok (.newarray .int, 2) := by decide +kernel
theorem dX1_init_17 : decode cX1_init 17 = .ok (.putfield 15, 3) := by decide +kernel
theorem dX1_init_20 : decode cX1_init 20 = .ok (.aload_n 0, 1) := by decide +kernel
theorem dX1_init_21 : decode cX1_init 21 = .ok (.bipush 64, 2) := by decide +kernel
theorem dX1_init_23 : decode cX1_init 23 = .ok (.newarray .int, 2) := by decide +kernel
theorem dX1_init_25 : decode cX1_init 25 = .ok (.putfield 18, 3) := by decide +kernel
theorem dX1_init_28 : decode cX1_init 28 = .ok (.aload_n 0, 1) := by decide +kernel
theorem dX1_init_29 : decode cX1_init 29 = .ok (.bipush 8, 2) := by decide +kernel
theorem dX1_init_31 : decode cX1_init 31 = .ok (.newarray .int, 2) := by decide +kernel
theorem dX1_init_33 : decode cX1_init 33 = .ok (.putfield 21, 3) := by decide +kernel
theorem dX1_init_36 : decode cX1_init 36 = .ok (.aload_n 0, 1) := by decide +kernel
theorem dX1_init_37 : decode cX1_init 37 = .ok (.bipush 16, 2) := by decide +kernel
theorem dX1_init_39 : decode cX1_init 39 = .ok (.newarray .int, 2) := by decide +kernel
theorem dX1_init_41 : decode cX1_init 41 = .ok (.putfield 24, 3) := by decide +kernel
theorem dX1_init_44 : decode cX1_init 44 = .ok (.return_, 1) := by decide +kernel
theorem dX1_tellWord_0 : decode cX1_tellWord 0 = .ok (.iconst 0, 1) := by decide +kernel
theorem dX1_tellWord_1 : decode cX1_tellWord 1 = .ok (.istore_n 2, 1) := by decide +kernel
theorem dX1_tellWord_2 : decode cX1_tellWord 2 = .ok (.iconst 0, 1) := by decide +kernel
theorem dX1_tellWord_3 : decode cX1_tellWord 3 = .ok (.istore_n 3, 1) := by decide +kernel
theorem dX1_tellWord_4 : decode cX1_tellWord 4 = .ok (.iload_n 3, 1) := by decide +kernel
theorem dX1_tellWord_5 : decode cX1_tellWord 5 = .ok (.aload_n 1, 1) := by decide +kernel
theorem dX1_tellWord_6 : decode cX1_tellWord 6 = .ok (.getfield 27, 3) := by decide +kernel
theorem dX1_tellWord_9 : decode cX1_tellWord 9 = .ok (.if_icmp .ge 22, 3) := by decide +kernel
theorem dX1_tellWord_12 : decode cX1_tellWord 12 = .ok (.iload_n 2, 1) := by decide +kernel
theorem dX1_tellWord_13 : decode cX1_tellWord 13 = .ok (.aload_n 1, 1) := by decide +kernel
theorem dX1_tellWord_14 : decode cX1_tellWord 14 = .ok (.getfield 33, 3) := by decide +kernel
theorem dX1_tellWord_17 : decode cX1_tellWord 17 = .ok (.iload_n 3, 1) := by decide +kernel
theorem dX1_tellWord_18 : decode cX1_tellWord 18 = .ok (.iaload, 1) := by decide +kernel
theorem dX1_tellWord_19 : decode cX1_tellWord 19 = .ok (.iconst 4, 1) := by decide +kernel
theorem dX1_tellWord_20 : decode cX1_tellWord 20 = .ok (.iload_n 3, 1) := by decide +kernel
theorem dX1_tellWord_21 : decode cX1_tellWord 21 = .ok (.imul, 1) := by decide +kernel
theorem dX1_tellWord_22 : decode cX1_tellWord 22 = .ok (.ishl, 1) := by decide +kernel
theorem dX1_tellWord_23 : decode cX1_tellWord 23 = .ok (.ior, 1) := by decide +kernel
theorem dX1_tellWord_24 : decode cX1_tellWord 24 = .ok (.istore_n 2, 1) := by decide +kernel
theorem dX1_tellWord_25 : decode cX1_tellWord 25 = .ok (.iinc 3 1, 3) := by decide +kernel
theorem dX1_tellWord_28 : decode cX1_tellWord 28 = .ok (.goto (-24), 3) := by decide +kernel
theorem dX1_tellWord_31 : decode cX1_tellWord 31 = .ok (.aload_n 0, 1) := by decide +kernel
theorem dX1_tellWord_32 : decode cX1_tellWord 32 = .ok (.getfield 9, 3) := by decide +kernel
theorem dX1_tellWord_35 : decode cX1_tellWord 35 = .ok (.aload_n 1, 1) := by decide +kernel
theorem dX1_tellWord_36 : decode cX1_tellWord 36 = .ok (.getfield 36, 3) := by decide +kernel
theorem dX1_tellWord_39 : decode cX1_tellWord 39 = .ok (.iload_n 2, 1) := by decide +kernel
theorem dX1_tellWord_40 : decode cX1_tellWord 40 = .ok (.iastore, 1) := by decide +kernel
theorem dX1_tellWord_41 : decode cX1_tellWord 41 = .ok (.aload_n 0, 1) := by decide +kernel
theorem dX1_tellWord_42 : decode cX1_tellWord 42 = .ok (.getfield 15, 3) := by decide +kernel
theorem dX1_tellWord_45 : decode cX1_tellWord 45 = .ok (.aload_n 1, 1) := by decide +kernel
theorem dX1_tellWord_46 : decode cX1_tellWord 46 = .ok (.getfield 36, 3) := by decide +kernel
theorem dX1_tellWord_49 : decode cX1_tellWord 49 = .ok (.aload_n 1, 1) := by decide +kernel
theorem dX1_tellWord_50 : decode cX1_tellWord 50 = .ok (.getfield 27, 3) := by decide +kernel
theorem dX1_tellWord_53 : decode cX1_tellWord 53 = .ok (.iastore, 1) := by decide +kernel
theorem dX1_tellWord_54 : decode cX1_tellWord 54 = .ok (.return_, 1) := by decide +kernel
theorem dX1_tellLine_0 : decode cX1_tellLine 0 = .ok (.iconst 0, 1) := by decide +kernel
theorem dX1_tellLine_1 : decode cX1_tellLine 1 = .ok (.istore_n 2, 1) := by decide +kernel
theorem dX1_tellLine_2 : decode cX1_tellLine 2 = .ok (.iload_n 2, 1) := by decide +kernel
theorem dX1_tellLine_3 : decode cX1_tellLine 3 = .ok (.aload_n 1, 1) := by decide +kernel
theorem dX1_tellLine_4 : decode cX1_tellLine 4 = .ok (.getfield 27, 3) := by decide +kernel
theorem dX1_tellLine_7 : decode cX1_tellLine 7 = .ok (.if_icmp .ge 29, 3) := by decide +kernel
theorem dX1_tellLine_10 : decode cX1_tellLine 10 = .ok (.aload_n 0, 1) := by decide +kernel
theorem dX1_tellLine_11 : decode cX1_tellLine 11 = .ok (.getfield 18, 3) := by decide +kernel
theorem dX1_tellLine_14 : decode cX1_tellLine 14 = .ok (.aload_n 1, 1) := by decide +kernel
theorem dX1_tellLine_15 : decode cX1_tellLine 15 = .ok (.getfield 36, 3) := by decide +kernel
theorem dX1_tellLine_18 : decode cX1_tellLine 18 = .ok (.bipush 8, 2) := by decide +kernel
theorem dX1_tellLine_20 : decode cX1_tellLine 20 = .ok (.imul, 1) := by decide +kernel
theorem dX1_tellLine_21 : decode cX1_tellLine 21 = .ok (.iload_n 2, 1) := by decide +kernel
theorem dX1_tellLine_22 : decode cX1_tellLine 22 = .ok (.iadd, 1) := by decide +kernel
theorem dX1_tellLine_23 : decode cX1_tellLine 23 = .ok (.aload_n 1, 1) := by decide +kernel
theorem dX1_tellLine_24 : decode cX1_tellLine 24 = .ok (.getfield 33, 3) := by decide +kernel
theorem dX1_tellLine_27 : decode cX1_tellLine 27 = .ok (.iload_n 2, 1) := by decide +kernel
theorem dX1_tellLine_28 : decode cX1_tellLine 28 = .ok (.iaload, 1) := by decide +kernel
theorem dX1_tellLine_29 : decode cX1_tellLine 29 = .ok (.iastore, 1) := by decide +kernel
theorem dX1_tellLine_30 : decode cX1_tellLine 30 = .ok (.iinc 2 1, 3) := by decide +kernel
theorem dX1_tellLine_33 : decode cX1_tellLine 33 = .ok (.goto (-31), 3) := by decide +kernel
theorem dX1_tellLine_36 : decode cX1_tellLine 36 = .ok (.aload_n 0, 1) := by decide +kernel
theorem dX1_tellLine_37 : decode cX1_tellLine 37 = .ok (.getfield 21, 3) := by decide +kernel
theorem dX1_tellLine_40 : decode cX1_tellLine 40 = .ok (.aload_n 1, 1) := by decide +kernel
theorem dX1_tellLine_41 : decode cX1_tellLine 41 = .ok (.getfield 36, 3) := by decide +kernel
theorem dX1_tellLine_44 : decode cX1_tellLine 44 = .ok (.aload_n 1, 1) := by decide +kernel
theorem dX1_tellLine_45 : decode cX1_tellLine 45 = .ok (.getfield 27, 3) := by decide +kernel
theorem dX1_tellLine_48 : decode cX1_tellLine 48 = .ok (.iastore, 1) := by decide +kernel
theorem dX1_tellLine_49 : decode cX1_tellLine 49 = .ok (.return_, 1) := by decide +kernel
theorem dX1_knows_0 : decode cX1_knows 0 = .ok (.iload_n 1, 1) := by decide +kernel
theorem dX1_knows_1 : decode cX1_knows 1 = .ok (.bipush 8, 2) := by decide +kernel
theorem dX1_knows_3 : decode cX1_knows 3 = .ok (.invokestatic 39, 3) := by decide +kernel
theorem dX1_knows_6 : decode cX1_knows 6 = .ok (.ifCond .eq 16, 3) := by decide +kernel
theorem dX1_knows_9 : decode cX1_knows 9 = .ok (.aload_n 0, 1) := by decide +kernel
theorem dX1_knows_10 : decode cX1_knows 10 = .ok (.getfield 21, 3) := by decide +kernel
theorem dX1_knows_13 : decode cX1_knows 13 = .ok (.iload_n 1, 1) := by decide +kernel
theorem dX1_knows_14 : decode cX1_knows 14 = .ok (.iaload, 1) := by decide +kernel
theorem dX1_knows_15 : decode cX1_knows 15 = .ok (.ifCond .le 7, 3) := by decide +kernel
theorem dX1_knows_18 : decode cX1_knows 18 = .ok (.iconst 1, 1) := by decide +kernel
theorem dX1_knows_19 : decode cX1_knows 19 = .ok (.goto 4, 3) := by decide +kernel
theorem dX1_knows_22 : decode cX1_knows 22 = .ok (.iconst 0, 1) := by decide +kernel
theorem dX1_knows_23 : decode cX1_knows 23 = .ok (.ireturn, 1) := by decide +kernel
theorem dX1_soundOf_0 : decode cX1_soundOf 0 = .ok (.aload_n 0, 1) := by decide +kernel
theorem dX1_soundOf_1 : decode cX1_soundOf 1 = .ok (.getfield 9, 3) := by decide +kernel
theorem dX1_soundOf_4 : decode cX1_soundOf 4 = .ok (.iload_n 1, 1) := by decide +kernel
theorem dX1_soundOf_5 : decode cX1_soundOf 5 = .ok (.iaload, 1) := by decide +kernel
theorem dX1_soundOf_6 : decode cX1_soundOf 6 = .ok (.iconst 4, 1) := by decide +kernel
theorem dX1_soundOf_7 : decode cX1_soundOf 7 = .ok (.iload_n 2, 1) := by decide +kernel
theorem dX1_soundOf_8 : decode cX1_soundOf 8 = .ok (.imul, 1) := by decide +kernel
theorem dX1_soundOf_9 : decode cX1_soundOf 9 = .ok (.iushr, 1) := by decide +kernel
theorem dX1_soundOf_10 : decode cX1_soundOf 10 = .ok (.bipush 15, 2) := by decide +kernel
theorem dX1_soundOf_12 : decode cX1_soundOf 12 = .ok (.iand, 1) := by decide +kernel
theorem dX1_soundOf_13 : decode cX1_soundOf 13 = .ok (.ireturn, 1) := by decide +kernel
theorem dX1_hasNumber_0 : decode cX1_hasNumber 0 = .ok (.iconst 0, 1) := by decide +kernel
theorem dX1_hasNumber_1 : decode cX1_hasNumber 1 = .ok (.istore_n 2, 1) := by decide +kernel
theorem dX1_hasNumber_2 : decode cX1_hasNumber 2 = .ok (.iload_n 2, 1) := by decide +kernel
theorem dX1_hasNumber_3 : decode cX1_hasNumber 3 = .ok (.aload_n 0, 1) := by decide +kernel
theorem dX1_hasNumber_4 : decode cX1_hasNumber 4 = .ok (.getfield 21, 3) := by decide +kernel
theorem dX1_hasNumber_7 : decode cX1_hasNumber 7 = .ok (.iload_n 1, 1) := by decide +kernel
theorem dX1_hasNumber_8 : decode cX1_hasNumber 8 = .ok (.iaload, 1) := by decide +kernel
theorem dX1_hasNumber_9 : decode cX1_hasNumber 9 = .ok (.if_icmp .ge 27, 3) := by decide +kernel
theorem dX1_hasNumber_12 : decode cX1_hasNumber 12 = .ok (.aload_n 0, 1) := by decide +kernel
theorem dX1_hasNumber_13 : decode cX1_hasNumber 13 = .ok (.getfield 18, 3) := by decide +kernel
theorem dX1_hasNumber_16 : decode cX1_hasNumber 16 = .ok (.iload_n 1, 1) := by decide +kernel
theorem dX1_hasNumber_17 : decode cX1_hasNumber 17 = .ok (.bipush 8, 2) := by decide +kernel
theorem dX1_hasNumber_19 : decode cX1_hasNumber 19 = .ok (.imul, 1) := by decide +kernel
theorem dX1_hasNumber_20 : decode cX1_hasNumber 20 = .ok (.iload_n 2, 1) := by decide +kernel
theorem dX1_hasNumber_21 : decode cX1_hasNumber 21 = .ok (.iadd, 1) := by decide +kernel
theorem dX1_hasNumber_22 : decode cX1_hasNumber 22 = .ok (.iaload, 1) := by decide +kernel
theorem dX1_hasNumber_23 : decode cX1_hasNumber 23 = .ok (.bipush 100, 2) := by decide +kernel
theorem dX1_hasNumber_25 : decode cX1_hasNumber 25 = .ok (.if_icmp .ne 5, 3) := by decide +kernel
theorem dX1_hasNumber_28 : decode cX1_hasNumber 28 = .ok (.iconst 1, 1) := by decide +kernel
theorem dX1_hasNumber_29 : decode cX1_hasNumber 29 = .ok (.ireturn, 1) := by decide +kernel
theorem dX1_hasNumber_30 : decode cX1_hasNumber 30 = .ok (.iinc 2 1, 3) := by decide +kernel
theorem dX1_hasNumber_33 : decode cX1_hasNumber 33 = .ok (.goto (-31), 3) := by decide +kernel
theorem dX1_hasNumber_36 : decode cX1_hasNumber 36 = .ok (.iconst 0, 1) := by decide +kernel
theorem dX1_hasNumber_37 : decode cX1_hasNumber 37 = .ok (.ireturn, 1) := by decide +kernel
theorem dX1_spell_0 : decode cX1_spell 0 = .ok (.aload_n 0, 1) := by decide +kernel
theorem dX1_spell_1 : decode cX1_spell 1 = .ok (.iconst 0, 1) := by decide +kernel
theorem dX1_spell_2 : decode cX1_spell 2 = .ok (.putfield 43, 3) := by decide +kernel
theorem dX1_spell_5 : decode cX1_spell 5 = .ok (.iconst 0, 1) := by decide +kernel
theorem dX1_spell_6 : decode cX1_spell 6 = .ok (.istore_n 3, 1) := by decide +kernel
theorem dX1_spell_7 : decode cX1_spell 7 = .ok (.iload_n 3, 1) := by decide +kernel
theorem dX1_spell_8 : decode cX1_spell 8 = .ok (.aload_n 0, 1) := by decide +kernel
theorem dX1_spell_9 : decode cX1_spell 9 = .ok (.getfield 21, 3) := by decide +kernel
theorem dX1_spell_12 : decode cX1_spell 12 = .ok (.iload_n 1, 1) := by decide +kernel
theorem dX1_spell_13 : decode cX1_spell 13 = .ok (.iaload, 1) := by decide +kernel
theorem dX1_spell_14 : decode cX1_spell 14 = .ok (.if_icmp .ge 43, 3) := by decide +kernel
theorem dX1_spell_17 : decode cX1_spell 17 = .ok (.aload_n 0, 1) := by decide +kernel
theorem dX1_spell_18 : decode cX1_spell 18 = .ok (.getfield 18, 3) := by decide +kernel
theorem dX1_spell_21 : decode cX1_spell 21 = .ok (.iload_n 1, 1) := by decide +kernel
theorem dX1_spell_22 : decode cX1_spell 22 = .ok (.bipush 8, 2) := by decide +kernel
theorem dX1_spell_24 : decode cX1_spell 24 = .ok (.imul, 1) := by decide +kernel
theorem dX1_spell_25 : decode cX1_spell 25 = .ok (.iload_n 3, 1) := by decide +kernel
theorem dX1_spell_26 : decode cX1_spell 26 = .ok (.iadd, 1) := by decide +kernel
theorem dX1_spell_27 : decode cX1_spell 27 = .ok (.iaload, 1) := by decide +kernel
theorem dX1_spell_28 : decode cX1_spell 28 = .ok (.istore 4, 2) := by decide +kernel
theorem dX1_spell_30 : decode cX1_spell 30 = .ok (.iload 4, 2) := by decide +kernel
theorem dX1_spell_32 : decode cX1_spell 32 = .ok (.bipush 100, 2) := by decide +kernel
theorem dX1_spell_34 : decode cX1_spell 34 = .ok (.if_icmp .ne 11, 3) := by decide +kernel
theorem dX1_spell_37 : decode cX1_spell 37 = .ok (.aload_n 0, 1) := by decide +kernel
theorem dX1_spell_38 : decode cX1_spell 38 = .ok (.iload_n 2, 1) := by decide +kernel
theorem dX1_spell_39 : decode cX1_spell 39 = .ok (.invokevirtual 46, 3) := by decide +kernel
theorem dX1_spell_42 : decode cX1_spell 42 = .ok (.goto 9, 3) := by decide +kernel
theorem dX1_spell_45 : decode cX1_spell 45 = .ok (.aload_n 0, 1) := by decide +kernel
theorem dX1_spell_46 : decode cX1_spell 46 = .ok (.iload 4, 2) := by decide +kernel
theorem dX1_spell_48 : decode cX1_spell 48 = .ok (.invokevirtual 50, 3) := by decide +kernel
theorem dX1_spell_51 : decode cX1_spell 51 = .ok (.iinc 3 1, 3) := by decide +kernel
theorem dX1_spell_54 : decode cX1_spell 54 = .ok (.goto (-47), 3) := by decide +kernel
theorem dX1_spell_57 : decode cX1_spell 57 = .ok (.iconst 0, 1) := by decide +kernel
theorem dX1_spell_58 : decode cX1_spell 58 = .ok (.istore_n 3, 1) := by decide +kernel
theorem dX1_spell_59 : decode cX1_spell 59 = .ok (.iload_n 3, 1) := by decide +kernel
theorem dX1_spell_60 : decode cX1_spell 60 = .ok (.aload_n 0, 1) := by decide +kernel
theorem dX1_spell_61 : decode cX1_spell 61 = .ok (.getfield 43, 3) := by decide +kernel
theorem dX1_spell_64 : decode cX1_spell 64 = .ok (.if_icmp .ge 25, 3) := by decide +kernel
theorem dX1_spell_67 : decode cX1_spell 67 = .ok (.aload_n 0, 1) := by decide +kernel
theorem dX1_spell_68 : decode cX1_spell 68 = .ok (.getfield 15, 3) := by decide +kernel
theorem dX1_spell_71 : decode cX1_spell 71 = .ok (.aload_n 0, 1) := by decide +kernel
theorem dX1_spell_72 : decode cX1_spell 72 = .ok (.getfield 24, 3) := by decide +kernel
theorem dX1_spell_75 : decode cX1_spell 75 = .ok (.iload_n 3, 1) := by decide +kernel
theorem dX1_spell_76 : decode cX1_spell 76 = .ok (.iaload, 1) := by decide +kernel
theorem dX1_spell_77 : decode cX1_spell 77 = .ok (.iaload, 1) := by decide +kernel
theorem dX1_spell_78 : decode cX1_spell 78 = .ok (.ifCond .ne 5, 3) := by decide +kernel
theorem dX1_spell_81 : decode cX1_spell 81 = .ok (.iconst 0, 1) := by decide +kernel
theorem dX1_spell_82 : decode cX1_spell 82 = .ok (.ireturn, 1) := by decide +kernel
theorem dX1_spell_83 : decode cX1_spell 83 = .ok (.iinc 3 1, 3) := by decide +kernel
theorem dX1_spell_86 : decode cX1_spell 86 = .ok (.goto (-27), 3) := by decide +kernel
theorem dX1_spell_89 : decode cX1_spell 89 = .ok (.iconst 1, 1) := by decide +kernel
theorem dX1_spell_90 : decode cX1_spell 90 = .ok (.ireturn, 1) := by decide +kernel
theorem dX1_spellNumber_0 : decode cX1_spellNumber 0 = .ok (.iload_n 1, 1) := by decide +kernel
theorem dX1_spellNumber_1 : decode cX1_spellNumber 1 = .ok (.bipush 20, 2) := by decide +kernel
theorem dX1_spellNumber_3 : decode cX1_spellNumber 3 = .ok (.if_icmp .ge 9, 3) := by decide +kernel
theorem dX1_spellNumber_6 : decode cX1_spellNumber 6 = .ok (.aload_n 0, 1) := by decide +kernel
theorem dX1_spellNumber_7 : decode cX1_spellNumber 7 = .ok (.iload_n 1, 1) := by decide +kernel
theorem dX1_spellNumber_8 : decode cX1_spellNumber 8 = .ok (.invokevirtual 50, 3) := by decide +kernel
theorem dX1_spellNumber_11 : decode cX1_spellNumber 11 = .ok (.return_, 1) := by decide +kernel
theorem dX1_spellNumber_12 : decode cX1_spellNumber 12 = .ok (.aload_n 0, 1) := by decide +kernel
theorem dX1_spellNumber_13 : decode cX1_spellNumber 13 = .ok (.bipush 18, 2) := by decide +kernel
theorem dX1_spellNumber_15 : decode cX1_spellNumber 15 = .ok (.iload_n 1, 1) := by decide +kernel
theorem dX1_spellNumber_16 : decode cX1_spellNumber 16 = .ok (.bipush 10, 2) := by decide +kernel
theorem dX1_spellNumber_18 : decode cX1_spellNumber 18 = .ok (.idiv, 1) := by decide +kernel
theorem dX1_spellNumber_19 : decode cX1_spellNumber 19 = .ok (.iadd, 1) := by decide +kernel
theorem dX1_spellNumber_20 : decode cX1_spellNumber 20 = .ok (.invokevirtual 50, 3) := by decide +kernel
theorem dX1_spellNumber_23 : decode cX1_spellNumber 23 = .ok (.iload_n 1, 1) := by decide +kernel
theorem dX1_spellNumber_24 : decode cX1_spellNumber 24 = .ok (.bipush 10, 2) := by decide +kernel
theorem dX1_spellNumber_26 : decode cX1_spellNumber 26 = .ok (.irem, 1) := by decide +kernel
theorem dX1_spellNumber_27 : decode cX1_spellNumber 27 = .ok (.ifCond .eq 11, 3) := by decide +kernel
theorem dX1_spellNumber_30 : decode cX1_spellNumber 30 = .ok (.aload_n 0, 1) := by decide +kernel
theorem dX1_spellNumber_31 : decode cX1_spellNumber 31 = .ok (.iload_n 1, 1) := by decide +kernel
theorem dX1_spellNumber_32 : decode cX1_spellNumber 32 = .ok (.bipush 10, 2) := by decide +kernel
theorem dX1_spellNumber_34 : decode cX1_spellNumber 34 = .ok (.irem, 1) := by decide +kernel
theorem dX1_spellNumber_35 : decode cX1_spellNumber 35 = .ok (.invokevirtual 50, 3) := by decide +kernel
theorem dX1_spellNumber_38 : decode cX1_spellNumber 38 = .ok (.return_, 1) := by decide +kernel
theorem dX1_speak_0 : decode cX1_speak 0 = .ok (.aload_n 0, 1) := by decide +kernel
theorem dX1_speak_1 : decode cX1_speak 1 = .ok (.getfield 43, 3) := by decide +kernel
theorem dX1_speak_4 : decode cX1_speak 4 = .ok (.bipush 16, 2) := by decide +kernel
theorem dX1_speak_6 : decode cX1_speak 6 = .ok (.if_icmp .ge 23, 3) := by decide +kernel
theorem dX1_speak_9 : decode cX1_speak 9 = .ok (.aload_n 0, 1) := by decide +kernel
theorem dX1_speak_10 : decode cX1_speak 10 = .ok (.getfield 24, 3) := by decide +kernel
theorem dX1_speak_13 : decode cX1_speak 13 = .ok (.aload_n 0, 1) := by decide +kernel
theorem dX1_speak_14 : decode cX1_speak 14 = .ok (.getfield 43, 3) := by decide +kernel
theorem dX1_speak_17 : decode cX1_speak 17 = .ok (.iload_n 1, 1) := by decide +kernel
theorem dX1_speak_18 : decode cX1_speak 18 = .ok (.iastore, 1) := by decide +kernel
theorem dX1_speak_19 : decode cX1_speak 19 = .ok (.aload_n 0, 1) := by decide +kernel
theorem dX1_speak_20 : decode cX1_speak 20 = .ok (.dup, 1) := by decide +kernel
theorem dX1_speak_21 : decode cX1_speak 21 = .ok (.getfield 43, 3) := by decide +kernel
theorem dX1_speak_24 : decode cX1_speak 24 = .ok (.iconst 1, 1) := by decide +kernel
theorem dX1_speak_25 : decode cX1_speak 25 = .ok (.iadd, 1) := by decide +kernel
theorem dX1_speak_26 : decode cX1_speak 26 = .ok (.putfield 43, 3) := by decide +kernel
theorem dX1_speak_29 : decode cX1_speak 29 = .ok (.return_, 1) := by decide +kernel
theorem dX1_spokenLength_0 : decode cX1_spokenLength 0 = .ok (.iconst 0, 1) := by decide +kernel
theorem dX1_spokenLength_1 : decode cX1_spokenLength 1 = .ok (.istore_n 1, 1) := by decide +kernel
theorem dX1_spokenLength_2 : decode cX1_spokenLength 2 = .ok (.iconst 0, 1) := by decide +kernel
theorem dX1_spokenLength_3 : decode cX1_spokenLength 3 = .ok (.istore_n 2, 1) := by decide +kernel
theorem dX1_spokenLength_4 : decode cX1_spokenLength 4 = .ok (.iload_n 2, 1) := by decide +kernel
theorem dX1_spokenLength_5 : decode cX1_spokenLength 5 = .ok (.aload_n 0, 1) := by decide +kernel
theorem dX1_spokenLength_6 : decode cX1_spokenLength 6 = .ok (.getfield 43, 3) := by decide +kernel
theorem dX1_spokenLength_9 : decode cX1_spokenLength 9 = .ok (.if_icmp .ge 23, 3) := by decide +kernel
theorem dX1_spokenLength_12 : decode cX1_spokenLength 12 = .ok (.iload_n 1, 1) := by decide +kernel
theorem dX1_spokenLength_13 : decode cX1_spokenLength 13 = .ok (.aload_n 0, 1) := by decide +kernel
theorem dX1_spokenLength_14 : decode cX1_spokenLength 14 = .ok (.getfield 15, 3) := by decide +kernel
theorem dX1_spokenLength_17 : decode cX1_spokenLength 17 = .ok (.aload_n 0, 1) := by decide +kernel
theorem dX1_spokenLength_18 : decode cX1_spokenLength 18 = .ok (.getfield 24, 3) := by decide +kernel
theorem dX1_spokenLength_21 : decode cX1_spokenLength 21 = .ok (.iload_n 2, 1) := by decide +kernel
theorem dX1_spokenLength_22 : decode cX1_spokenLength 22 = .ok (.iaload, 1) := by decide +kernel
theorem dX1_spokenLength_23 : decode cX1_spokenLength 23 = .ok (.iaload, 1) := by decide +kernel
theorem dX1_spokenLength_24 : decode cX1_spokenLength 24 = .ok (.iadd, 1) := by decide +kernel
theorem dX1_spokenLength_25 : decode cX1_spokenLength 25 = .ok (.istore_n 1, 1) := by decide +kernel
theorem dX1_spokenLength_26 : decode cX1_spokenLength 26 = .ok (.iinc 2 1, 3) := by decide +kernel
theorem dX1_spokenLength_29 : decode cX1_spokenLength 29 = .ok (.goto (-25), 3) := by decide +kernel
theorem dX1_spokenLength_32 : decode cX1_spokenLength 32 = .ok (.iload_n 1, 1) := by decide +kernel
theorem dX1_spokenLength_33 : decode cX1_spokenLength 33 = .ok (.ireturn, 1) := by decide +kernel
theorem dX1_spokenSound_0 : decode cX1_spokenSound 0 = .ok (.iload_n 1, 1) := by decide +kernel
theorem dX1_spokenSound_1 : decode cX1_spokenSound 1 = .ok (.istore_n 2, 1) := by decide +kernel
theorem dX1_spokenSound_2 : decode cX1_spokenSound 2 = .ok (.iconst 0, 1) := by decide +kernel
theorem dX1_spokenSound_3 : decode cX1_spokenSound 3 = .ok (.istore_n 3, 1) := by decide +kernel
theorem dX1_spokenSound_4 : decode cX1_spokenSound 4 = .ok (.iload_n 3, 1) := by decide +kernel
theorem dX1_spokenSound_5 : decode cX1_spokenSound 5 = .ok (.aload_n 0, 1) := by decide +kernel
theorem dX1_spokenSound_6 : decode cX1_spokenSound 6 = .ok (.getfield 43, 3) := by decide +kernel
theorem dX1_spokenSound_9 : decode cX1_spokenSound 9 = .ok (.if_icmp .ge 50, 3) := by decide +kernel
theorem dX1_spokenSound_12 : decode cX1_spokenSound 12 = .ok (.iload_n 2, 1) := by decide +kernel
theorem dX1_spokenSound_13 : decode cX1_spokenSound 13 = .ok (.aload_n 0, 1) := by decide +kernel
theorem dX1_spokenSound_14 : decode cX1_spokenSound 14 = .ok (.getfield 15, 3) := by decide +kernel
theorem dX1_spokenSound_17 : decode cX1_spokenSound 17 = .ok (.aload_n 0, 1) := by decide +kernel
theorem dX1_spokenSound_18 : decode cX1_spokenSound 18 = .ok (.getfield 24, 3) := by decide +kernel
theorem dX1_spokenSound_21 : decode cX1_spokenSound 21 = .ok (.iload_n 3, 1) := by decide +kernel
theorem dX1_spokenSound_22 : decode cX1_spokenSound 22 = .ok (.iaload, 1) := by decide +kernel
theorem dX1_spokenSound_23 : decode cX1_spokenSound 23 = .ok (.iaload, 1) := by decide +kernel
theorem dX1_spokenSound_24 : decode cX1_spokenSound 24 = .ok (.if_icmp .ge 15, 3) := by decide +kernel
theorem dX1_spokenSound_27 : decode cX1_spokenSound 27 = .ok (.aload_n 0, 1) := by decide +kernel
theorem dX1_spokenSound_28 : decode cX1_spokenSound 28 = .ok (.aload_n 0, 1) := by decide +kernel
theorem dX1_spokenSound_29 : decode cX1_spokenSound 29 = .ok (.getfield 24, 3) := by decide +kernel
theorem dX1_spokenSound_32 : decode cX1_spokenSound 32 = .ok (.iload_n 3, 1) := by decide +kernel
theorem dX1_spokenSound_33 : decode cX1_spokenSound 33 = .ok (.iaload, 1) := by decide +kernel
theorem dX1_spokenSound_34 : decode cX1_spokenSound 34 = .ok (.iload_n 2, 1) := by decide +kernel
theorem dX1_spokenSound_35 : decode cX1_spokenSound 35 = .ok (.invokevirtual 53, 3) := by decide +kernel
theorem dX1_spokenSound_38 : decode cX1_spokenSound 38 = .ok (.ireturn, 1) := by decide +kernel
theorem dX1_spokenSound_39 : decode cX1_spokenSound 39 = .ok (.iload_n 2, 1) := by decide +kernel
theorem dX1_spokenSound_40 : decode cX1_spokenSound 40 = .ok (.aload_n 0, 1) := by decide +kernel
theorem dX1_spokenSound_41 : decode cX1_spokenSound 41 = .ok (.getfield 15, 3) := by decide +kernel
theorem dX1_spokenSound_44 : decode cX1_spokenSound 44 = .ok (.aload_n 0, 1) := by decide +kernel
theorem dX1_spokenSound_45 : decode cX1_spokenSound 45 = .ok (.getfield 24, 3) := by decide +kernel
theorem dX1_spokenSound_48 : decode cX1_spokenSound 48 = .ok (.iload_n 3, 1) := by decide +kernel
theorem dX1_spokenSound_49 : decode cX1_spokenSound 49 = .ok (.iaload, 1) := by decide +kernel
theorem dX1_spokenSound_50 : decode cX1_spokenSound 50 = .ok (.iaload, 1) := by decide +kernel
theorem dX1_spokenSound_51 : decode cX1_spokenSound 51 = .ok (.isub, 1) := by decide +kernel
theorem dX1_spokenSound_52 : decode cX1_spokenSound 52 = .ok (.istore_n 2, 1) := by decide +kernel
theorem dX1_spokenSound_53 : decode cX1_spokenSound 53 = .ok (.iinc 3 1, 3) := by decide +kernel
theorem dX1_spokenSound_56 : decode cX1_spokenSound 56 = .ok (.goto (-52), 3) := by decide +kernel
theorem dX1_spokenSound_59 : decode cX1_spokenSound 59 = .ok (.iconst (-1), 1) := by decide +kernel
theorem dX1_spokenSound_60 : decode cX1_spokenSound 60 = .ok (.ireturn, 1) := by decide +kernel
theorem dX2_init_0 : decode cX2_init 0 = .ok (.aload_n 0, 1) := by decide +kernel
theorem dX2_init_1 : decode cX2_init 1 = .ok (.invokespecial 3, 3) := by decide +kernel
theorem dX2_init_4 : decode cX2_init 4 = .ok (.aload_n 0, 1) := by decide +kernel
theorem dX2_init_5 : decode cX2_init 5 = .ok (.bipush 16, 2) := by decide +kernel
theorem dX2_init_7 : decode cX2_init 7 = .ok (.newarray .int, 2) := by decide +kernel
theorem dX2_init_9 : decode cX2_init 9 = .ok (.putfield 9, 3) := by decide +kernel
theorem dX2_init_12 : decode cX2_init 12 = .ok (.return_, 1) := by decide +kernel
theorem dX2_reached_0 : decode cX2_reached 0 = .ok (.iconst 0, 1) := by decide +kernel
theorem dX2_reached_1 : decode cX2_reached 1 = .ok (.istore_n 3, 1) := by decide +kernel
theorem dX2_reached_2 : decode cX2_reached 2 = .ok (.iconst 0, 1) := by decide +kernel
theorem dX2_reached_3 : decode cX2_reached 3 = .ok (.istore 4, 2) := by decide +kernel
theorem dX2_reached_5 : decode cX2_reached 5 = .ok (.iload 4, 2) := by decide +kernel
theorem dX2_reached_7 : decode cX2_reached 7 = .ok (.bipush 16, 2) := by decide +kernel
theorem dX2_reached_9 : decode cX2_reached 9 = .ok (.if_icmp .ge 27, 3) := by decide +kernel
theorem dX2_reached_12 : decode cX2_reached 12 = .ok (.iload_n 2, 1) := by decide +kernel
theorem dX2_reached_13 : decode cX2_reached 13 = .ok (.aload_n 0, 1) := by decide +kernel
theorem dX2_reached_14 : decode cX2_reached 14 = .ok (.iload_n 1, 1) := by decide +kernel
theorem dX2_reached_15 : decode cX2_reached 15 = .ok (.iload 4, 2) := by decide +kernel
theorem dX2_reached_17 : decode cX2_reached 17 = .ok (.invokevirtual 15, 3) := by decide +kernel
theorem dX2_reached_20 : decode cX2_reached 20 = .ok (.if_icmp .lt 10, 3) := by decide +kernel
theorem dX2_reached_23 : decode cX2_reached 23 = .ok (.iload_n 3, 1) := by decide +kernel
theorem dX2_reached_24 : decode cX2_reached 24 = .ok (.iconst 1, 1) := by decide +kernel
theorem dX2_reached_25 : decode cX2_reached 25 = .ok (.iload 4, 2) := by decide +kernel
theorem dX2_reached_27 : decode cX2_reached 27 = .ok (.ishl, 1) := by decide +kernel
theorem dX2_reached_28 : decode cX2_reached 28 = .ok (.ior, 1) := by decide +kernel
theorem dX2_reached_29 : decode cX2_reached 29 = .ok (.istore_n 3, 1) := by decide +kernel
theorem dX2_reached_30 : decode cX2_reached 30 = .ok (.iinc 4 1, 3) := by decide +kernel
theorem dX2_reached_33 : decode cX2_reached 33 = .ok (.goto (-28), 3) := by decide +kernel
theorem dX2_reached_36 : decode cX2_reached 36 = .ok (.iload_n 3, 1) := by decide +kernel
theorem dX2_reached_37 : decode cX2_reached 37 = .ok (.ireturn, 1) := by decide +kernel
theorem dX2_leastPower_0 : decode cX2_leastPower 0 = .ok (.iconst 0, 1) := by decide +kernel
theorem dX2_leastPower_1 : decode cX2_leastPower 1 = .ok (.istore_n 3, 1) := by decide +kernel
theorem dX2_leastPower_2 : decode cX2_leastPower 2 = .ok (.iconst 0, 1) := by decide +kernel
theorem dX2_leastPower_3 : decode cX2_leastPower 3 = .ok (.istore 4, 2) := by decide +kernel
theorem dX2_leastPower_5 : decode cX2_leastPower 5 = .ok (.iload 4, 2) := by decide +kernel
theorem dX2_leastPower_7 : decode cX2_leastPower 7 = .ok (.bipush 16, 2) := by decide +kernel
theorem dX2_leastPower_9 : decode cX2_leastPower 9 = .ok (.if_icmp .ge 31, 3) := by decide +kernel
theorem dX2_leastPower_12 : decode cX2_leastPower 12 = .ok (.iload_n 2, 1) := by decide +kernel
theorem dX2_leastPower_13 : decode cX2_leastPower 13 = .ok (.iload 4, 2) := by decide +kernel
theorem dX2_leastPower_15 : decode cX2_leastPower 15 = .ok (.iushr, 1) := by decide +kernel
theorem dX2_leastPower_16 : decode cX2_leastPower 16 = .ok (.iconst 1, 1) := by decide +kernel
theorem dX2_leastPower_17 : decode cX2_leastPower 17 = .ok (.iand, 1) := by decide +kernel
theorem dX2_leastPower_18 : decode cX2_leastPower 18 = .ok (.iconst 1, 1) := by decide +kernel
theorem dX2_leastPower_19 : decode cX2_leastPower 19 = .ok (.if_icmp .ne 15, 3) := by decide +kernel
theorem dX2_leastPower_22 : decode cX2_leastPower 22 = .ok (.iload_n 3, 1) := by decide +kernel
theorem dX2_leastPower_23 : decode cX2_leastPower 23 = .ok (.aload_n 0, 1) := by decide +kernel
theorem dX2_leastPower_24 : decode cX2_leastPower 24 = .ok (.iload_n 1, 1) := by decide +kernel
theorem dX2_leastPower_25 : decode cX2_leastPower 25 = .ok (.iload 4, 2) := by decide +kernel
theorem dX2_leastPower_27 : decode cX2_leastPower 27 = .ok (.invokevirtual 15, 3) := by decide +kernel
theorem dX2_leastPower_30 : decode cX2_leastPower 30 = .ok (.invokestatic 19, 3) := by decide +kernel
theorem dX2_leastPower_33 : decode cX2_leastPower 33 = .ok (.istore_n 3, 1) := by decide +kernel
theorem dX2_leastPower_34 : decode cX2_leastPower 34 = .ok (.iinc 4 1, 3) := by decide +kernel
theorem dX2_leastPower_37 : decode cX2_leastPower 37 = .ok (.goto (-32), 3) := by decide +kernel
theorem dX2_leastPower_40 : decode cX2_leastPower 40 = .ok (.iload_n 3, 1) := by decide +kernel
theorem dX2_leastPower_41 : decode cX2_leastPower 41 = .ok (.ireturn, 1) := by decide +kernel
theorem dX2_bestSpot_0 : decode cX2_bestSpot 0 = .ok (.bipush 16, 2) := by decide +kernel
theorem dX2_bestSpot_2 : decode cX2_bestSpot 2 = .ok (.aload_n 0, 1) := by decide +kernel
theorem dX2_bestSpot_3 : decode cX2_bestSpot 3 = .ok (.iconst 0, 1) := by decide +kernel
theorem dX2_bestSpot_4 : decode cX2_bestSpot 4 = .ok (.iload_n 1, 1) := by decide +kernel
theorem dX2_bestSpot_5 : decode cX2_bestSpot 5 = .ok (.invokevirtual 24, 3) := by decide +kernel
theorem dX2_bestSpot_8 : decode cX2_bestSpot 8 = .ok (.imul, 1) := by decide +kernel
theorem dX2_bestSpot_9 : decode cX2_bestSpot 9 = .ok (.istore_n 2, 1) := by decide +kernel
theorem dX2_bestSpot_10 : decode cX2_bestSpot 10 = .ok (.iconst 1, 1) := by decide +kernel
theorem dX2_bestSpot_11 : decode cX2_bestSpot 11 = .ok (.istore_n 3, 1) := by decide +kernel
theorem dX2_bestSpot_12 : decode cX2_bestSpot 12 = .ok (.iload_n 3, 1) := by decide +kernel
theorem dX2_bestSpot_13 : decode cX2_bestSpot 13 = .ok (.bipush 16, 2) := by decide +kernel
theorem dX2_bestSpot_15 : decode cX2_bestSpot 15 = .ok (.if_icmp .ge 25, 3) := by decide +kernel
theorem dX2_bestSpot_18 : decode cX2_bestSpot 18 = .ok (.iload_n 2, 1) := by decide +kernel
theorem dX2_bestSpot_19 : decode cX2_bestSpot 19 = .ok (.bipush 16, 2) := by decide +kernel
theorem dX2_bestSpot_21 : decode cX2_bestSpot 21 = .ok (.aload_n 0, 1) := by decide +kernel
theorem dX2_bestSpot_22 : decode cX2_bestSpot 22 = .ok (.iload_n 3, 1) := by decide +kernel
theorem dX2_bestSpot_23 : decode cX2_bestSpot 23 = .ok (.iload_n 1, 1) := by decide +kernel
theorem dX2_bestSpot_24 : decode cX2_bestSpot 24 = .ok (.invokevirtual 24, 3) := by decide +kernel
theorem dX2_bestSpot_27 : decode cX2_bestSpot 27 = .ok (.imul, 1) := by decide +kernel
theorem dX2_bestSpot_28 : decode cX2_bestSpot 28 = .ok (.iload_n 3, 1) := by decide +kernel
theorem dX2_bestSpot_29 : decode cX2_bestSpot 29 = .ok (.iadd, 1) := by decide +kernel
theorem dX2_bestSpot_30 : decode cX2_bestSpot 30 = .ok (.invokestatic 27, 3) := by decide +kernel
theorem dX2_bestSpot_33 : decode cX2_bestSpot 33 = .ok (.istore_n 2, 1) := by decide +kernel
theorem dX2_bestSpot_34 : decode cX2_bestSpot 34 = .ok (.iinc 3 1, 3) := by decide +kernel
theorem dX2_bestSpot_37 : decode cX2_bestSpot 37 = .ok (.goto (-25), 3) := by decide +kernel
theorem dX2_bestSpot_40 : decode cX2_bestSpot 40 = .ok (.iload_n 2, 1) := by decide +kernel
theorem dX2_bestSpot_41 : decode cX2_bestSpot 41 = .ok (.ireturn, 1) := by decide +kernel
theorem dX2_needed_0 : decode cX2_needed 0 = .ok (.bipush 11, 2) := by decide +kernel
theorem dX2_needed_2 : decode cX2_needed 2 = .ok (.iconst 3, 1) := by decide +kernel
theorem dX2_needed_3 : decode cX2_needed 3 = .ok (.iload_n 1, 1) := by decide +kernel
theorem dX2_needed_4 : decode cX2_needed 4 = .ok (.iload_n 2, 1) := by decide +kernel
theorem dX2_needed_5 : decode cX2_needed 5 = .ok (.isub, 1) := by decide +kernel
theorem dX2_needed_6 : decode cX2_needed 6 = .ok (.invokestatic 30, 3) := by decide +kernel
theorem dX2_needed_9 : decode cX2_needed 9 = .ok (.imul, 1) := by decide +kernel
theorem dX2_needed_10 : decode cX2_needed 10 = .ok (.iadd, 1) := by decide +kernel
theorem dX2_needed_11 : decode cX2_needed 11 = .ok (.aload_n 0, 1) := by decide +kernel
theorem dX2_needed_12 : decode cX2_needed 12 = .ok (.getfield 9, 3) := by decide +kernel
theorem dX2_needed_15 : decode cX2_needed 15 = .ok (.iload_n 2, 1) := by decide +kernel
theorem dX2_needed_16 : decode cX2_needed 16 = .ok (.iaload, 1) := by decide +kernel
theorem dX2_needed_17 : decode cX2_needed 17 = .ok (.iadd, 1) := by decide +kernel
theorem dX2_needed_18 : decode cX2_needed 18 = .ok (.ireturn, 1) := by decide +kernel
theorem dX3_init_0 : decode cX3_init 0 = .ok (.aload_n 0, 1) := by decide +kernel
theorem dX3_init_1 : decode cX3_init 1 = .ok (.invokespecial 3, 3) := by decide +kernel
theorem dX3_init_4 : decode cX3_init 4 = .ok (.aload_n 0, 1) := by decide +kernel
theorem dX3_init_5 : decode cX3_init 5 = .ok (.iload_n 2, 1) := by decide +kernel
theorem dX3_init_6 : decode cX3_init 6 = .ok (.bipush 8, 2) := by decide +kernel
theorem dX3_init_8 : decode cX3_init 8 = .ok (.if_icmp .ge 15, 3) := by decide +kernel
theorem dX3_init_11 : decode cX3_init 11 = .ok (.iload_n 1, 1) := by decide +kernel
theorem dX3_init_12 : decode cX3_init 12 = .ok (.iconst 1, 1) := by decide +kernel
theorem dX3_init_13 : decode cX3_init 13 = .ok (.iconst 4, 1) := by decide +kernel
theorem dX3_init_14 : decode cX3_init 14 = .ok (.iload_n 2, 1) := by decide +kernel
theorem dX3_init_15 : decode cX3_init 15 = .ok (.imul, 1) := by decide +kernel
theorem dX3_init_16 : decode cX3_init 16 = .ok (.ishl, 1) := by decide +kernel
theorem dX3_init_17 : decode cX3_init 17 = .ok (.iconst 1, 1) := by decide +kernel
theorem dX3_init_18 : decode cX3_init 18 = .ok (.isub, 1) := by decide +kernel
theorem dX3_init_19 : decode cX3_init 19 = .ok (.iand, 1) := by decide +kernel
theorem dX3_init_20 : decode cX3_init 20 = .ok (.goto 4, 3) := by decide +kernel
theorem dX3_init_23 : decode cX3_init 23 = .ok (.iload_n 1, 1) := by decide +kernel
theorem dX3_init_24 : decode cX3_init 24 = .ok (.putfield 9, 3) := by decide +kernel
theorem dX3_init_27 : decode cX3_init 27 = .ok (.aload_n 0, 1) := by decide +kernel
theorem dX3_init_28 : decode cX3_init 28 = .ok (.iload_n 2, 1) := by decide +kernel
theorem dX3_init_29 : decode cX3_init 29 = .ok (.putfield 15, 3) := by decide +kernel
theorem dX3_init_32 : decode cX3_init 32 = .ok (.aload_n 0, 1) := by decide +kernel
theorem dX3_init_33 : decode cX3_init 33 = .ok (.iload 5, 2) := by decide +kernel
theorem dX3_init_35 : decode cX3_init 35 = .ok (.putfield 18, 3) := by decide +kernel
theorem dX3_init_38 : decode cX3_init 38 = .ok (.aload_n 0, 1) := by decide +kernel
theorem dX3_init_39 : decode cX3_init 39 = .ok (.bipush 8, 2) := by decide +kernel
theorem dX3_init_41 : decode cX3_init 41 = .ok (.newarray .int, 2) := by decide +kernel
theorem dX3_init_43 : decode cX3_init 43 = .ok (.putfield 21, 3) := by decide +kernel
theorem dX3_init_46 : decode cX3_init 46 = .ok (.aload_n 0, 1) := by decide +kernel
theorem dX3_init_47 : decode cX3_init 47 = .ok (.getfield 21, 3) := by decide +kernel
theorem dX3_init_50 : decode cX3_init 50 = .ok (.iconst 0, 1) := by decide +kernel
theorem dX3_init_51 : decode cX3_init 51 = .ok (.iload_n 3, 1) := by decide +kernel
theorem dX3_init_52 : decode cX3_init 52 = .ok (.iastore, 1) := by decide +kernel
theorem dX3_init_53 : decode cX3_init 53 = .ok (.iconst 1, 1) := by decide +kernel
theorem dX3_init_54 : decode cX3_init 54 = .ok (.istore 6, 2) := by decide +kernel
theorem dX3_init_56 : decode cX3_init 56 = .ok (.iload 6, 2) := by decide +kernel
theorem dX3_init_58 : decode cX3_init 58 = .ok (.iload_n 2, 1) := by decide +kernel
theorem dX3_init_59 : decode cX3_init 59 = .ok (.if_icmp .ge 36, 3) := by decide +kernel
theorem dX3_init_62 : decode cX3_init 62 = .ok (.iload 6, 2) := by decide +kernel
theorem dX3_init_64 : decode cX3_init 64 = .ok (.bipush 8, 2) := by decide +kernel
theorem dX3_init_66 : decode cX3_init 66 = .ok (.if_icmp .ge 29, 3) := by decide +kernel
theorem dX3_init_69 : decode cX3_init 69 = .ok (.aload_n 0, 1) := by decide +kernel
theorem dX3_init_70 : decode cX3_init 70 = .ok (.getfield 21, 3) := by decide +kernel
theorem dX3_init_73 : decode cX3_init 73 = .ok (.iload 6, 2) := by decide +kernel
theorem dX3_init_75 : decode cX3_init 75 = .ok (.iload_n 3, 1) := by decide +kernel
theorem dX3_init_76 : decode cX3_init 76 = .ok (.iload 6, 2) := by decide +kernel
theorem dX3_init_78 : decode cX3_init 78 = .ok (.iload 4, 2) := by decide +kernel
theorem dX3_init_80 : decode cX3_init 80 = .ok (.iload_n 3, 1) := by decide +kernel
theorem dX3_init_81 : decode cX3_init 81 = .ok (.isub, 1) := by decide +kernel
theorem dX3_init_82 : decode cX3_init 82 = .ok (.imul, 1) := by decide +kernel
theorem dX3_init_83 : decode cX3_init 83 = .ok (.iload_n 2, 1) := by decide +kernel
theorem dX3_init_84 : decode cX3_init 84 = .ok (.iconst 1, 1) := by decide +kernel
theorem dX3_init_85 : decode cX3_init 85 = .ok (.isub, 1) := by decide +kernel
theorem dX3_init_86 : decode cX3_init 86 = .ok (.idiv, 1) := by decide +kernel
theorem dX3_init_87 : decode cX3_init 87 = .ok (.iadd, 1) := by decide +kernel
theorem dX3_init_88 : decode cX3_init 88 = .ok (.iastore, 1) := by decide +kernel
theorem dX3_init_89 : decode cX3_init 89 = .ok (.iinc 6 1, 3) := by decide +kernel
theorem dX3_init_92 : decode cX3_init 92 = .ok (.goto (-36), 3) := by decide +kernel
theorem dX3_init_95 : decode cX3_init 95 = .ok (.return_, 1) := by decide +kernel
theorem dX3_soundAt_0 : decode cX3_soundAt 0 = .ok (.aload_n 0, 1) := by decide +kernel
theorem dX3_soundAt_1 : decode cX3_soundAt 1 = .ok (.getfield 9, 3) := by decide +kernel
theorem dX3_soundAt_4 : decode cX3_soundAt 4 = .ok (.iconst 4, 1) := by decide +kernel
theorem dX3_soundAt_5 : decode cX3_soundAt 5 = .ok (.iload_n 1, 1) := by decide +kernel
theorem dX3_soundAt_6 : decode cX3_soundAt 6 = .ok (.imul, 1) := by decide +kernel
theorem dX3_soundAt_7 : decode cX3_soundAt 7 = .ok (.iushr, 1) := by decide +kernel
theorem dX3_soundAt_8 : decode cX3_soundAt 8 = .ok (.bipush 15, 2) := by decide +kernel
theorem dX3_soundAt_10 : decode cX3_soundAt 10 = .ok (.iand, 1) := by decide +kernel
theorem dX3_soundAt_11 : decode cX3_soundAt 11 = .ok (.ireturn, 1) := by decide +kernel
theorem dX3_wearAt_0 : decode cX3_wearAt 0 = .ok (.aload_n 0, 1) := by decide +kernel
theorem dX3_wearAt_1 : decode cX3_wearAt 1 = .ok (.getfield 25, 3) := by decide +kernel
theorem dX3_wearAt_4 : decode cX3_wearAt 4 = .ok (.iload_n 1, 1) := by decide +kernel
theorem dX3_wearAt_5 : decode cX3_wearAt 5 = .ok (.iushr, 1) := by decide +kernel
theorem dX3_wearAt_6 : decode cX3_wearAt 6 = .ok (.iconst 1, 1) := by decide +kernel
theorem dX3_wearAt_7 : decode cX3_wearAt 7 = .ok (.iand, 1) := by decide +kernel
theorem dX3_wearAt_8 : decode cX3_wearAt 8 = .ok (.aload_n 0, 1) := by decide +kernel
theorem dX3_wearAt_9 : decode cX3_wearAt 9 = .ok (.getfield 28, 3) := by decide +kernel
theorem dX3_wearAt_12 : decode cX3_wearAt 12 = .ok (.iload_n 1, 1) := by decide +kernel
theorem dX3_wearAt_13 : decode cX3_wearAt 13 = .ok (.iushr, 1) := by decide +kernel
theorem dX3_wearAt_14 : decode cX3_wearAt 14 = .ok (.iconst 1, 1) := by decide +kernel
theorem dX3_wearAt_15 : decode cX3_wearAt 15 = .ok (.iand, 1) := by decide +kernel
theorem dX3_wearAt_16 : decode cX3_wearAt 16 = .ok (.iadd, 1) := by decide +kernel
theorem dX3_wearAt_17 : decode cX3_wearAt 17 = .ok (.ireturn, 1) := by decide +kernel
theorem dX3_isDoubleOf_0 : decode cX3_isDoubleOf 0 = .ok (.aload_n 0, 1) := by decide +kernel
theorem dX3_isDoubleOf_1 : decode cX3_isDoubleOf 1 = .ok (.getfield 18, 3) := by decide +kernel
theorem dX3_isDoubleOf_4 : decode cX3_isDoubleOf 4 = .ok (.aload_n 1, 1) := by decide +kernel
theorem dX3_isDoubleOf_5 : decode cX3_isDoubleOf 5 = .ok (.getfield 18, 3) := by decide +kernel
theorem dX3_isDoubleOf_8 : decode cX3_isDoubleOf 8 = .ok (.if_icmp .ne 29, 3) := by decide +kernel
theorem dX3_isDoubleOf_11 : decode cX3_isDoubleOf 11 = .ok (.aload_n 0, 1) := by decide +kernel
theorem dX3_isDoubleOf_12 : decode cX3_isDoubleOf 12 = .ok (.getfield 15, 3) := by decide +kernel
theorem dX3_isDoubleOf_15 : decode cX3_isDoubleOf 15 = .ok (.aload_n 1, 1) := by decide +kernel
theorem dX3_isDoubleOf_16 : decode cX3_isDoubleOf 16 = .ok (.getfield 15, 3) := by decide +kernel
theorem dX3_isDoubleOf_19 : decode cX3_isDoubleOf 19 = .ok (.if_icmp .ne 18, 3) := by decide +kernel
theorem dX3_isDoubleOf_22 : decode cX3_isDoubleOf 22 = .ok (.aload_n 0, 1) := by decide +kernel
theorem dX3_isDoubleOf_23 : decode cX3_isDoubleOf 23 = .ok (.getfield 9, 3) := by decide +kernel
theorem dX3_isDoubleOf_26 : decode cX3_isDoubleOf 26 = .ok (.aload_n 1, 1) := by decide +kernel
theorem dX3_isDoubleOf_27 : decode cX3_isDoubleOf 27 = .ok (.getfield 9, 3) := by decide +kernel
theorem dX3_isDoubleOf_30 : decode cX3_isDoubleOf 30 = .ok (.if_icmp .ne 7, 3) := by decide +kernel
theorem dX3_isDoubleOf_33 : decode cX3_isDoubleOf 33 = .ok (.iconst 1, 1) := by decide +kernel
theorem dX3_isDoubleOf_34 : decode cX3_isDoubleOf 34 = .ok (.goto 4, 3) := by decide +kernel
theorem dX3_isDoubleOf_37 : decode cX3_isDoubleOf 37 = .ok (.iconst 0, 1) := by decide +kernel
theorem dX3_isDoubleOf_38 : decode cX3_isDoubleOf 38 = .ok (.ireturn, 1) := by decide +kernel
theorem dX3_says_0 : decode cX3_says 0 = .ok (.aload_n 0, 1) := by decide +kernel
theorem dX3_says_1 : decode cX3_says 1 = .ok (.getfield 9, 3) := by decide +kernel
theorem dX3_says_4 : decode cX3_says 4 = .ok (.iconst 4, 1) := by decide +kernel
theorem dX3_says_5 : decode cX3_says 5 = .ok (.iload_n 1, 1) := by decide +kernel
theorem dX3_says_6 : decode cX3_says 6 = .ok (.imul, 1) := by decide +kernel
theorem dX3_says_7 : decode cX3_says 7 = .ok (.iushr, 1) := by decide +kernel
theorem dX3_says_8 : decode cX3_says 8 = .ok (.bipush 15, 2) := by decide +kernel
theorem dX3_says_10 : decode cX3_says 10 = .ok (.iand, 1) := by decide +kernel
theorem dX3_says_11 : decode cX3_says 11 = .ok (.iload_n 2, 1) := by decide +kernel
theorem dX3_says_12 : decode cX3_says 12 = .ok (.if_icmp .ne 18, 3) := by decide +kernel
theorem dX3_says_15 : decode cX3_says 15 = .ok (.aload_n 0, 1) := by decide +kernel
theorem dX3_says_16 : decode cX3_says 16 = .ok (.getfield 28, 3) := by decide +kernel
theorem dX3_says_19 : decode cX3_says 19 = .ok (.iload_n 1, 1) := by decide +kernel
theorem dX3_says_20 : decode cX3_says 20 = .ok (.iushr, 1) := by decide +kernel
theorem dX3_says_21 : decode cX3_says 21 = .ok (.iconst 1, 1) := by decide +kernel
theorem dX3_says_22 : decode cX3_says 22 = .ok (.iand, 1) := by decide +kernel
theorem dX3_says_23 : decode cX3_says 23 = .ok (.ifCond .ne 7, 3) := by decide +kernel
theorem dX3_says_26 : decode cX3_says 26 = .ok (.iconst 1, 1) := by decide +kernel
theorem dX3_says_27 : decode cX3_says 27 = .ok (.goto 4, 3) := by decide +kernel
theorem dX3_says_30 : decode cX3_says 30 = .ok (.iconst 0, 1) := by decide +kernel
theorem dX3_says_31 : decode cX3_says 31 = .ok (.ireturn, 1) := by decide +kernel
theorem dX3_cutsAtBegin_0 : decode cX3_cutsAtBegin 0 = .ok (.iload_n 1, 1) := by decide +kernel
theorem dX3_cutsAtBegin_1 : decode cX3_cutsAtBegin 1 = .ok (.ifCond .ne 7, 3) := by decide +kernel
theorem dX3_cutsAtBegin_4 : decode cX3_cutsAtBegin 4 = .ok (.iconst 0, 1) := by decide +kernel
theorem dX3_cutsAtBegin_5 : decode cX3_cutsAtBegin 5 = .ok (.goto 4, 3) := by decide +kernel
theorem dX3_cutsAtBegin_8 : decode cX3_cutsAtBegin 8 = .ok (.iconst 1, 1) := by decide +kernel
theorem dX3_cutsAtBegin_9 : decode cX3_cutsAtBegin 9 = .ok (.ireturn, 1) := by decide +kernel
theorem dX3_cutsAtEnd_0 : decode cX3_cutsAtEnd 0 = .ok (.iload_n 1, 1) := by decide +kernel
theorem dX3_cutsAtEnd_1 : decode cX3_cutsAtEnd 1 = .ok (.aload_n 0, 1) := by decide +kernel
theorem dX3_cutsAtEnd_2 : decode cX3_cutsAtEnd 2 = .ok (.getfield 15, 3) := by decide +kernel
theorem dX3_cutsAtEnd_5 : decode cX3_cutsAtEnd 5 = .ok (.iconst 1, 1) := by decide +kernel
theorem dX3_cutsAtEnd_6 : decode cX3_cutsAtEnd 6 = .ok (.isub, 1) := by decide +kernel
theorem dX3_cutsAtEnd_7 : decode cX3_cutsAtEnd 7 = .ok (.if_icmp .ne 7, 3) := by decide +kernel
theorem dX3_cutsAtEnd_10 : decode cX3_cutsAtEnd 10 = .ok (.iconst 0, 1) := by decide +kernel
theorem dX3_cutsAtEnd_11 : decode cX3_cutsAtEnd 11 = .ok (.goto 4, 3) := by decide +kernel
theorem dX3_cutsAtEnd_14 : decode cX3_cutsAtEnd 14 = .ok (.iconst 1, 1) := by decide +kernel
theorem dX3_cutsAtEnd_15 : decode cX3_cutsAtEnd 15 = .ok (.ireturn, 1) := by decide +kernel
theorem dX4_init_0 : decode cX4_init 0 = .ok (.aload_n 0, 1) := by decide +kernel
theorem dX4_init_1 : decode cX4_init 1 = .ok (.invokespecial 3, 3) := by decide +kernel
theorem dX4_init_4 : decode cX4_init 4 = .ok (.aload_n 0, 1) := by decide +kernel
theorem dX4_init_5 : decode cX4_init 5 = .ok (.bipush 36, 2) := by decide +kernel
theorem dX4_init_7 : decode cX4_init 7 = .ok (.newarray .int, 2) := by decide +kernel
theorem dX4_init_9 : decode cX4_init 9 = .ok (.putfield 11, 3) := by decide +kernel
theorem dX4_init_12 : decode cX4_init 12 = .ok (.aload_n 0, 1) := by decide +kernel
theorem dX4_init_13 : decode cX4_init 13 = .ok (.bipush 8, 2) := by decide +kernel
theorem dX4_init_15 : decode cX4_init 15 = .ok (.newarray .long, 2) := by decide +kernel
theorem dX4_init_17 : decode cX4_init 17 = .ok (.putfield 15, 3) := by decide +kernel
theorem dX4_init_20 : decode cX4_init 20 = .ok (.aload_n 0, 1) := by decide +kernel
theorem dX4_init_21 : decode cX4_init 21 = .ok (.aload_n 1, 1) := by decide +kernel
theorem dX4_init_22 : decode cX4_init 22 = .ok (.putfield 19, 3) := by decide +kernel
theorem dX4_init_25 : decode cX4_init 25 = .ok (.return_, 1) := by decide +kernel
theorem dX4_fewestLines_0 : decode cX4_fewestLines 0 = .ok (.aload_n 0, 1) := by decide +kernel
theorem dX4_fewestLines_1 : decode cX4_fewestLines 1 = .ok (.invokevirtual 23, 3) := by decide +kernel
theorem dX4_fewestLines_4 : decode cX4_fewestLines 4 = .ok (.iconst 0, 1) := by decide +kernel
theorem dX4_fewestLines_5 : decode cX4_fewestLines 5 = .ok (.istore_n 1, 1) := by decide +kernel
theorem dX4_fewestLines_6 : decode cX4_fewestLines 6 = .ok (.iload_n 1, 1) := by decide +kernel
theorem dX4_fewestLines_7 : decode cX4_fewestLines 7 = .ok (.bipush 8, 2) := by decide +kernel
theorem dX4_fewestLines_9 : decode cX4_fewestLines 9 = .ok (.if_icmp .ge 60, 3) := by decide +kernel
theorem dX4_fewestLines_12 : decode cX4_fewestLines 12 = .ok (.aload_n 0, 1) := by decide +kernel
theorem dX4_fewestLines_13 : decode cX4_fewestLines 13 = .ok (.getfield 15, 3) := by decide +kernel
theorem dX4_fewestLines_16 : decode cX4_fewestLines 16 = .ok (.iload_n 1, 1) := by decide +kernel
theorem dX4_fewestLines_17 : decode cX4_fewestLines 17 = .ok (.lconst 0, 1) := by decide +kernel
theorem dX4_fewestLines_18 : decode cX4_fewestLines 18 = .ok (.lastore, 1) := by decide +kernel
theorem dX4_fewestLines_19 : decode cX4_fewestLines 19 = .ok (.aload_n 0, 1) := by decide +kernel
theorem dX4_fewestLines_20 : decode cX4_fewestLines 20 = .ok (.getfield 19, 3) := by decide +kernel
theorem dX4_fewestLines_23 : decode cX4_fewestLines 23 = .ok (.iload_n 1, 1) := by decide +kernel
theorem dX4_fewestLines_24 : decode cX4_fewestLines 24 = .ok (.invokevirtual 26, 3) := by decide +kernel
theorem dX4_fewestLines_27 : decode cX4_fewestLines 27 = .ok (.ifCond .eq 36, 3) := by decide +kernel
theorem dX4_fewestLines_30 : decode cX4_fewestLines 30 = .ok (.aload_n 0, 1) := by decide +kernel
theorem dX4_fewestLines_31 : decode cX4_fewestLines 31 = .ok (.getfield 19, 3) := by decide +kernel
theorem dX4_fewestLines_34 : decode cX4_fewestLines 34 = .ok (.iload_n 1, 1) := by decide +kernel
theorem dX4_fewestLines_35 : decode cX4_fewestLines 35 = .ok (.invokevirtual 32, 3) := by decide +kernel
theorem dX4_fewestLines_38 : decode cX4_fewestLines 38 = .ok (.ifCond .ne 25, 3) := by decide +kernel
theorem dX4_fewestLines_41 : decode cX4_fewestLines 41 = .ok (.aload_n 0, 1) := by decide +kernel
theorem dX4_fewestLines_42 : decode cX4_fewestLines 42 = .ok (.getfield 19, 3) := by decide +kernel
theorem dX4_fewestLines_45 : decode cX4_fewestLines 45 = .ok (.iload_n 1, 1) := by decide +kernel
theorem dX4_fewestLines_46 : decode cX4_fewestLines 46 = .ok (.iconst 0, 1) := by decide +kernel
theorem dX4_fewestLines_47 : decode cX4_fewestLines 47 = .ok (.invokevirtual 35, 3) := by decide +kernel
theorem dX4_fewestLines_50 : decode cX4_fewestLines 50 = .ok (.ifCond .eq 13, 3) := by decide +kernel
theorem dX4_fewestLines_53 : decode cX4_fewestLines 53 = .ok (.aload_n 0, 1) := by decide +kernel
theorem dX4_fewestLines_54 : decode cX4_fewestLines 54 = .ok (.getfield 15, 3) := by decide +kernel
theorem dX4_fewestLines_57 : decode cX4_fewestLines 57 = .ok (.iload_n 1, 1) := by decide +kernel
theorem dX4_fewestLines_58 : decode cX4_fewestLines 58 = .ok (.aload_n 0, 1) := by decide +kernel
theorem dX4_fewestLines_59 : decode cX4_fewestLines 59 = .ok (.invokevirtual 39, 3) := by decide +kernel
theorem dX4_fewestLines_62 : decode cX4_fewestLines 62 = .ok (.lastore, 1) := by decide +kernel
theorem dX4_fewestLines_63 : decode cX4_fewestLines 63 = .ok (.iinc 1 1, 3) := by decide +kernel
theorem dX4_fewestLines_66 : decode cX4_fewestLines 66 = .ok (.goto (-60), 3) := by decide +kernel
theorem dX4_fewestLines_69 : decode cX4_fewestLines 69 = .ok (.lconst 1, 1) := by decide +kernel
theorem dX4_fewestLines_70 : decode cX4_fewestLines 70 = .ok (.aload_n 0, 1) := by decide +kernel
theorem dX4_fewestLines_71 : decode cX4_fewestLines 71 = .ok (.getfield 43, 3) := by decide +kernel
theorem dX4_fewestLines_74 : decode cX4_fewestLines 74 = .ok (.lshl, 1) := by decide +kernel
theorem dX4_fewestLines_75 : decode cX4_fewestLines 75 = .ok (.lconst 1, 1) := by decide +kernel
theorem dX4_fewestLines_76 : decode cX4_fewestLines 76 = .ok (.lsub, 1) := by decide +kernel
theorem dX4_fewestLines_77 : decode cX4_fewestLines 77 = .ok (.lstore_n 1, 1) := by decide +kernel
theorem dX4_fewestLines_78 : decode cX4_fewestLines 78 = .ok (.iconst (-1), 1) := by decide +kernel
theorem dX4_fewestLines_79 : decode cX4_fewestLines 79 = .ok (.istore_n 3, 1) := by decide +kernel
theorem dX4_fewestLines_80 : decode cX4_fewestLines 80 = .ok (.iconst 0, 1) := by decide +kernel
theorem dX4_fewestLines_81 : decode cX4_fewestLines 81 = .ok (.istore 4, 2) := by decide +kernel
theorem dX4_fewestLines_83 : decode cX4_fewestLines 83 = .ok (.iload 4, 2) := by decide +kernel
theorem dX4_fewestLines_85 : decode cX4_fewestLines 85 = .ok (.sipush 256, 3) := by decide +kernel
theorem dX4_fewestLines_88 : decode cX4_fewestLines 88 = .ok (.if_icmp .ge 52, 3) := by decide +kernel
theorem dX4_fewestLines_91 : decode cX4_fewestLines 91 = .ok (.iload_n 3, 1) := by decide +kernel
theorem dX4_fewestLines_92 : decode cX4_fewestLines 92 = .ok (.iconst (-1), 1) := by decide +kernel
theorem dX4_fewestLines_93 : decode cX4_fewestLines 93 = .ok (.if_icmp .eq 15, 3) := by decide +kernel
theorem dX4_fewestLines_96 : decode cX4_fewestLines 96 = .ok (.iload 4, 2) := by decide +kernel
theorem dX4_fewestLines_98 : decode cX4_fewestLines 98 = .ok (.invokestatic 47, 3) := by decide +kernel
theorem dX4_fewestLines_101 : decode cX4_fewestLines 101 = .ok (.iload_n 3, 1) := by decide +kernel
theorem dX4_fewestLines_102 : decode cX4_fewestLines 102 = .ok (.invokestatic 47, 3) := by decide +kernel
theorem dX4_fewestLines_105 : decode cX4_fewestLines 105 = .ok (.if_icmp .ge 7, 3) := by decide +kernel
theorem dX4_fewestLines_108 : decode cX4_fewestLines 108 = .ok (.iconst 1, 1) := by decide +kernel
theorem dX4_fewestLines_109 : decode cX4_fewestLines 109 = .ok (.goto 4, 3) := by decide +kernel
theorem dX4_fewestLines_112 : decode cX4_fewestLines 112 = .ok (.iconst 0, 1) := by decide +kernel
theorem dX4_fewestLines_113 : decode cX4_fewestLines 113 = .ok (.istore 5, 2) := by decide +kernel
theorem dX4_fewestLines_115 : decode cX4_fewestLines 115 = .ok (.iload 5, 2) := by decide +kernel
theorem dX4_fewestLines_117 : decode cX4_fewestLines 117 = .ok (.ifCond .eq 17, 3) := by decide +kernel
theorem dX4_fewestLines_120 : decode cX4_fewestLines 120 = .ok (.aload_n 0, 1) := by decide +kernel
theorem dX4_fewestLines_121 : decode cX4_fewestLines 121 = .ok (.iload 4, 2) := by decide +kernel
theorem dX4_fewestLines_123 : decode cX4_fewestLines 123 = .ok (.invokevirtual 53, 3) := by decide +kernel
theorem dX4_fewestLines_126 : decode cX4_fewestLines 126 = .ok (.lload_n 1, 1) := by decide +kernel
theorem dX4_fewestLines_127 : decode cX4_fewestLines 127 = .ok (.lcmp, 1) := by decide +kernel
theorem dX4_fewestLines_128 : decode cX4_fewestLines 128 = .ok (.ifCond .ne 6, 3) := by decide +kernel
theorem dX4_fewestLines_131 : decode cX4_fewestLines 131 = .ok (.iload 4, 2) := by decide +kernel
theorem dX4_fewestLines_133 : decode cX4_fewestLines 133 = .ok (.istore_n 3, 1) := by decide +kernel
theorem dX4_fewestLines_134 : decode cX4_fewestLines 134 = .ok (.iinc 4 1, 3) := by decide +kernel
theorem dX4_fewestLines_137 : decode cX4_fewestLines 137 = .ok (.goto (-54), 3) := by decide +kernel
theorem dX4_fewestLines_140 : decode cX4_fewestLines 140 = .ok (.iload_n 3, 1) := by decide +kernel
theorem dX4_fewestLines_141 : decode cX4_fewestLines 141 = .ok (.ireturn, 1) := by decide +kernel
theorem dX4_gatherNames_0 : decode cX4_gatherNames 0 = .ok (.aload_n 0, 1) := by decide +kernel
theorem dX4_gatherNames_1 : decode cX4_gatherNames 1 = .ok (.iconst 0, 1) := by decide +kernel
theorem dX4_gatherNames_2 : decode cX4_gatherNames 2 = .ok (.putfield 43, 3) := by decide +kernel
theorem dX4_gatherNames_5 : decode cX4_gatherNames 5 = .ok (.bipush 28, 2) := by decide +kernel
theorem dX4_gatherNames_7 : decode cX4_gatherNames 7 = .ok (.istore_n 1, 1) := by decide +kernel
theorem dX4_gatherNames_8 : decode cX4_gatherNames 8 = .ok (.iload_n 1, 1) := by decide +kernel
theorem dX4_gatherNames_9 : decode cX4_gatherNames 9 = .ok (.bipush 32, 2) := by decide +kernel
theorem dX4_gatherNames_11 : decode cX4_gatherNames 11 = .ok (.if_icmp .ge 73, 3) := by decide +kernel
theorem dX4_gatherNames_14 : decode cX4_gatherNames 14 = .ok (.bipush 16, 2) := by decide +kernel
theorem dX4_gatherNames_16 : decode cX4_gatherNames 16 = .ok (.istore_n 2, 1) := by decide +kernel
theorem dX4_gatherNames_17 : decode cX4_gatherNames 17 = .ok (.iconst 0, 1) := by decide +kernel
theorem dX4_gatherNames_18 : decode cX4_gatherNames 18 = .ok (.istore_n 3, 1) := by decide +kernel
theorem dX4_gatherNames_19 : decode cX4_gatherNames 19 = .ok (.iload_n 3, 1) := by decide +kernel
theorem dX4_gatherNames_20 : decode cX4_gatherNames 20 = .ok (.aload_n 0, 1) := by decide +kernel
theorem dX4_gatherNames_21 : decode cX4_gatherNames 21 = .ok (.getfield 19, 3) := by decide +kernel
theorem dX4_gatherNames_24 : decode cX4_gatherNames 24 = .ok (.getfield 57, 3) := by decide +kernel
theorem dX4_gatherNames_27 : decode cX4_gatherNames 27 = .ok (.iload_n 1, 1) := by decide +kernel
theorem dX4_gatherNames_28 : decode cX4_gatherNames 28 = .ok (.iaload, 1) := by decide +kernel
theorem dX4_gatherNames_29 : decode cX4_gatherNames 29 = .ok (.if_icmp .ge 33, 3) := by decide +kernel
theorem dX4_gatherNames_32 : decode cX4_gatherNames 32 = .ok (.aload_n 0, 1) := by decide +kernel
theorem dX4_gatherNames_33 : decode cX4_gatherNames 33 = .ok (.getfield 19, 3) := by decide +kernel
theorem dX4_gatherNames_36 : decode cX4_gatherNames 36 = .ok (.iload_n 1, 1) := by decide +kernel
theorem dX4_gatherNames_37 : decode cX4_gatherNames 37 = .ok (.iload_n 3, 1) := by decide +kernel
theorem dX4_gatherNames_38 : decode cX4_gatherNames 38 = .ok (.invokevirtual 60, 3) := by decide +kernel
theorem dX4_gatherNames_41 : decode cX4_gatherNames 41 = .ok (.istore 4, 2) := by decide +kernel
theorem dX4_gatherNames_43 : decode cX4_gatherNames 43 = .ok (.aload_n 0, 1) := by decide +kernel
theorem dX4_gatherNames_44 : decode cX4_gatherNames 44 = .ok (.iload_n 2, 1) := by decide +kernel
theorem dX4_gatherNames_45 : decode cX4_gatherNames 45 = .ok (.iload 4, 2) := by decide +kernel
theorem dX4_gatherNames_47 : decode cX4_gatherNames 47 = .ok (.invokestatic 64, 3) := by decide +kernel
theorem dX4_gatherNames_50 : decode cX4_gatherNames 50 = .ok (.invokevirtual 67, 3) := by decide +kernel
theorem dX4_gatherNames_53 : decode cX4_gatherNames 53 = .ok (.iload 4, 2) := by decide +kernel
theorem dX4_gatherNames_55 : decode cX4_gatherNames 55 = .ok (.istore_n 2, 1) := by decide +kernel
theorem dX4_gatherNames_56 : decode cX4_gatherNames 56 = .ok (.iinc 3 1, 3) := by decide +kernel
theorem dX4_gatherNames_59 : decode cX4_gatherNames 59 = .ok (.goto (-40), 3) := by decide +kernel
theorem dX4_gatherNames_62 : decode cX4_gatherNames 62 = .ok (.iload_n 2, 1) := by decide +kernel
theorem dX4_gatherNames_63 : decode cX4_gatherNames 63 = .ok (.bipush 16, 2) := by decide +kernel
theorem dX4_gatherNames_65 : decode cX4_gatherNames 65 = .ok (.if_icmp .eq 13, 3) := by decide +kernel
theorem dX4_gatherNames_68 : decode cX4_gatherNames 68 = .ok (.aload_n 0, 1) := by decide +kernel
theorem dX4_gatherNames_69 : decode cX4_gatherNames 69 = .ok (.iload_n 2, 1) := by decide +kernel
theorem dX4_gatherNames_70 : decode cX4_gatherNames 70 = .ok (.bipush 16, 2) := by decide +kernel
theorem dX4_gatherNames_72 : decode cX4_gatherNames 72 = .ok (.invokestatic 64, 3) := by decide +kernel
theorem dX4_gatherNames_75 : decode cX4_gatherNames 75 = .ok (.invokevirtual 67, 3) := by decide +kernel
theorem dX4_gatherNames_78 : decode cX4_gatherNames 78 = .ok (.iinc 1 1, 3) := by decide +kernel
theorem dX4_gatherNames_81 : decode cX4_gatherNames 81 = .ok (.goto (-73), 3) := by decide +kernel
theorem dX4_gatherNames_84 : decode cX4_gatherNames 84 = .ok (.return_, 1) := by decide +kernel
theorem dX4_stepOf_0 : decode cX4_stepOf 0 = .ok (.iload_n 0, 1) := by decide +kernel
theorem dX4_stepOf_1 : decode cX4_stepOf 1 = .ok (.bipush 17, 2) := by decide +kernel
theorem dX4_stepOf_3 : decode cX4_stepOf 3 = .ok (.imul, 1) := by decide +kernel
theorem dX4_stepOf_4 : decode cX4_stepOf 4 = .ok (.iload_n 1, 1) := by decide +kernel
theorem dX4_stepOf_5 : decode cX4_stepOf 5 = .ok (.iadd, 1) := by decide +kernel
theorem dX4_stepOf_6 : decode cX4_stepOf 6 = .ok (.ireturn, 1) := by decide +kernel
theorem dX4_need_0 : decode cX4_need 0 = .ok (.aload_n 0, 1) := by decide +kernel
theorem dX4_need_1 : decode cX4_need 1 = .ok (.iload_n 1, 1) := by decide +kernel
theorem dX4_need_2 : decode cX4_need 2 = .ok (.invokevirtual 71, 3) := by decide +kernel
theorem dX4_need_5 : decode cX4_need 5 = .ok (.lconst 0, 1) := by decide +kernel
theorem dX4_need_6 : decode cX4_need 6 = .ok (.lcmp, 1) := by decide +kernel
theorem dX4_need_7 : decode cX4_need 7 = .ok (.ifCond .ne 32, 3) := by decide +kernel
theorem dX4_need_10 : decode cX4_need 10 = .ok (.aload_n 0, 1) := by decide +kernel
theorem dX4_need_11 : decode cX4_need 11 = .ok (.getfield 43, 3) := by decide +kernel
theorem dX4_need_14 : decode cX4_need 14 = .ok (.bipush 36, 2) := by decide +kernel
theorem dX4_need_16 : decode cX4_need 16 = .ok (.if_icmp .ge 23, 3) := by decide +kernel
theorem dX4_need_19 : decode cX4_need 19 = .ok (.aload_n 0, 1) := by decide +kernel
theorem dX4_need_20 : decode cX4_need 20 = .ok (.getfield 11, 3) := by decide +kernel
theorem dX4_need_23 : decode cX4_need 23 = .ok (.aload_n 0, 1) := by decide +kernel
theorem dX4_need_24 : decode cX4_need 24 = .ok (.getfield 43, 3) := by decide +kernel
theorem dX4_need_27 : decode cX4_need 27 = .ok (.iload_n 1, 1) := by decide +kernel
theorem dX4_need_28 : decode cX4_need 28 = .ok (.iastore, 1) := by decide +kernel
theorem dX4_need_29 : decode cX4_need 29 = .ok (.aload_n 0, 1) := by decide +kernel
theorem dX4_need_30 : decode cX4_need 30 = .ok (.dup, 1) := by decide +kernel
theorem dX4_need_31 : decode cX4_need 31 = .ok (.getfield 43, 3) := by decide +kernel
theorem dX4_need_34 : decode cX4_need 34 = .ok (.iconst 1, 1) := by decide +kernel
theorem dX4_need_35 : decode cX4_need 35 = .ok (.iadd, 1) := by decide +kernel
theorem dX4_need_36 : decode cX4_need 36 = .ok (.putfield 43, 3) := by decide +kernel
theorem dX4_need_39 : decode cX4_need 39 = .ok (.return_, 1) := by decide +kernel
theorem dX4_bitOf_0 : decode cX4_bitOf 0 = .ok (.iconst 0, 1) := by decide +kernel
theorem dX4_bitOf_1 : decode cX4_bitOf 1 = .ok (.istore_n 2, 1) := by decide +kernel
theorem dX4_bitOf_2 : decode cX4_bitOf 2 = .ok (.iload_n 2, 1) := by decide +kernel
theorem dX4_bitOf_3 : decode cX4_bitOf 3 = .ok (.aload_n 0, 1) := by decide +kernel
theorem dX4_bitOf_4 : decode cX4_bitOf 4 = .ok (.getfield 43, 3) := by decide +kernel
theorem dX4_bitOf_7 : decode cX4_bitOf 7 = .ok (.if_icmp .ge 23, 3) := by decide +kernel
theorem dX4_bitOf_10 : decode cX4_bitOf 10 = .ok (.aload_n 0, 1) := by decide +kernel
theorem dX4_bitOf_11 : decode cX4_bitOf 11 = .ok (.getfield 11, 3) := by decide +kernel
theorem dX4_bitOf_14 : decode cX4_bitOf 14 = .ok (.iload_n 2, 1) := by decide +kernel
theorem dX4_bitOf_15 : decode cX4_bitOf 15 = .ok (.iaload, 1) := by decide +kernel
theorem dX4_bitOf_16 : decode cX4_bitOf 16 = .ok (.iload_n 1, 1) := by decide +kernel
theorem dX4_bitOf_17 : decode cX4_bitOf 17 = .ok (.if_icmp .ne 7, 3) := by decide +kernel
theorem dX4_bitOf_20 : decode cX4_bitOf 20 = .ok (.lconst 1, 1) := by decide +kernel
theorem dX4_bitOf_21 : decode cX4_bitOf 21 = .ok (.iload_n 2, 1) := by decide +kernel
theorem dX4_bitOf_22 : decode cX4_bitOf 22 = .ok (.lshl, 1) := by decide +kernel
theorem dX4_bitOf_23 : decode cX4_bitOf 23 = .ok (.lreturn, 1) := by decide +kernel
theorem dX4_bitOf_24 : decode cX4_bitOf 24 = .ok (.iinc 2 1, 3) := by decide +kernel
theorem dX4_bitOf_27 : decode cX4_bitOf 27 = .ok (.goto (-25), 3) := by decide +kernel
theorem dX4_bitOf_30 : decode cX4_bitOf 30 = .ok (.lconst 0, 1) := by decide +kernel
theorem dX4_bitOf_31 : decode cX4_bitOf 31 = .ok (.lreturn, 1) := by decide +kernel
theorem dX4_coverOfSpoken_0 : decode cX4_coverOfSpoken 0 = .ok (.lconst 0, 1) := by decide +kernel
theorem dX4_coverOfSpoken_1 : decode cX4_coverOfSpoken 1 = .ok (.lstore_n 1, 1) := by decide +kernel
theorem dX4_coverOfSpoken_2 : decode cX4_coverOfSpoken 2 = .ok (.bipush 16, 2) := by decide +kernel
theorem dX4_coverOfSpoken_4 : decode cX4_coverOfSpoken 4 = .ok (.istore_n 3, 1) := by decide +kernel
theorem dX4_coverOfSpoken_5 : decode cX4_coverOfSpoken 5 = .ok (.iconst 0, 1) := by decide +kernel
theorem dX4_coverOfSpoken_6 : decode cX4_coverOfSpoken 6 = .ok (.istore 4, 2) := by decide +kernel
theorem dX4_coverOfSpoken_8 : decode cX4_coverOfSpoken 8 = .ok (.iload 4, 2) := by decide +kernel
theorem dX4_coverOfSpoken_10 : decode cX4_coverOfSpoken 10 = .ok (.aload_n 0, 1) := by decide +kernel
theorem dX4_coverOfSpoken_11 : decode cX4_coverOfSpoken 11 = .ok (.getfield 19, 3) := by decide +kernel
theorem dX4_coverOfSpoken_14 : decode cX4_coverOfSpoken 14 = .ok (.getfield 74, 3) := by decide +kernel
theorem dX4_coverOfSpoken_17 : decode cX4_coverOfSpoken 17 = .ok (.if_icmp .ge 74, 3) := by decide +kernel
theorem dX4_coverOfSpoken_20 : decode cX4_coverOfSpoken 20 = .ok (.aload_n 0, 1) := by decide +kernel
theorem dX4_coverOfSpoken_21 : decode cX4_coverOfSpoken 21 = .ok (.getfield 19, 3) := by decide +kernel
theorem dX4_coverOfSpoken_24 : decode cX4_coverOfSpoken 24 = .ok (.getfield 77, 3) := by decide +kernel
theorem dX4_coverOfSpoken_27 : decode cX4_coverOfSpoken 27 = .ok (.iload 4, 2) := by decide +kernel
theorem dX4_coverOfSpoken_29 : decode cX4_coverOfSpoken 29 = .ok (.iaload, 1) := by decide +kernel
theorem dX4_coverOfSpoken_30 : decode cX4_coverOfSpoken 30 = .ok (.istore 5, 2) := by decide +kernel
theorem dX4_coverOfSpoken_32 : decode cX4_coverOfSpoken 32 = .ok (.iconst 0, 1) := by decide +kernel
theorem dX4_coverOfSpoken_33 : decode cX4_coverOfSpoken 33 = .ok (.istore 6, 2) := by decide +kernel
theorem dX4_coverOfSpoken_35 : decode cX4_coverOfSpoken 35 = .ok (.iload 6, 2) := by decide +kernel
theorem dX4_coverOfSpoken_37 : decode cX4_coverOfSpoken 37 = .ok (.aload_n 0, 1) := by decide +kernel
theorem dX4_coverOfSpoken_38 : decode cX4_coverOfSpoken 38 = .ok (.getfield 19, 3) := by decide +kernel
theorem dX4_coverOfSpoken_41 : decode cX4_coverOfSpoken 41 = .ok (.getfield 57, 3) := by decide +kernel
theorem dX4_coverOfSpoken_44 : decode cX4_coverOfSpoken 44 = .ok (.iload 5, 2) := by decide +kernel
theorem dX4_coverOfSpoken_46 : decode cX4_coverOfSpoken 46 = .ok (.iaload, 1) := by decide +kernel
theorem dX4_coverOfSpoken_47 : decode cX4_coverOfSpoken 47 = .ok (.if_icmp .ge 38, 3) := by decide +kernel
theorem dX4_coverOfSpoken_50 : decode cX4_coverOfSpoken 50 = .ok (.aload_n 0, 1) := by decide +kernel
theorem dX4_coverOfSpoken_51 : decode cX4_coverOfSpoken 51 = .ok (.getfield 19, 3) := by decide +kernel
theorem dX4_coverOfSpoken_54 : decode cX4_coverOfSpoken 54 = .ok (.iload 5, 2) := by decide +kernel
theorem dX4_coverOfSpoken_56 : decode cX4_coverOfSpoken 56 = .ok (.iload 6, 2) := by decide +kernel
theorem dX4_coverOfSpoken_58 : decode cX4_coverOfSpoken 58 = .ok (.invokevirtual 60, 3) := by decide +kernel
theorem dX4_coverOfSpoken_61 : decode cX4_coverOfSpoken 61 = .ok (.istore 7, 2) := by decide +kernel
theorem dX4_coverOfSpoken_63 : decode cX4_coverOfSpoken 63 = .ok (.lload_n 1, 1) := by decide +kernel
theorem dX4_coverOfSpoken_64 : decode cX4_coverOfSpoken 64 = .ok (.aload_n 0, 1) := by decide +kernel
theorem dX4_coverOfSpoken_65 : decode cX4_coverOfSpoken 65 = .ok (.iload_n 3, 1) := by decide +kernel
theorem dX4_coverOfSpoken_66 : decode cX4_coverOfSpoken 66 = .ok (.iload 7, 2) := by decide +kernel
theorem dX4_coverOfSpoken_68 : decode cX4_coverOfSpoken 68 = .ok (.invokestatic 64, 3) := by decide +kernel
theorem dX4_coverOfSpoken_71 : decode cX4_coverOfSpoken 71 = .ok (.invokevirtual 71, 3) := by decide +kernel
theorem dX4_coverOfSpoken_74 : decode cX4_coverOfSpoken 74 = .ok (.lor, 1) := by decide +kernel
theorem dX4_coverOfSpoken_75 : decode cX4_coverOfSpoken 75 = .ok (.lstore_n 1, 1) := by decide +kernel
theorem dX4_coverOfSpoken_76 : decode cX4_coverOfSpoken 76 = .ok (.iload 7, 2) := by decide +kernel
theorem dX4_coverOfSpoken_78 : decode cX4_coverOfSpoken 78 = .ok (.istore_n 3, 1) := by decide +kernel
theorem dX4_coverOfSpoken_79 : decode cX4_coverOfSpoken 79 = .ok (.iinc 6 1, 3) := by decide +kernel
theorem dX4_coverOfSpoken_82 : decode cX4_coverOfSpoken 82 = .ok (.goto (-47), 3) := by decide +kernel
theorem dX4_coverOfSpoken_85 : decode cX4_coverOfSpoken 85 = .ok (.iinc 4 1, 3) := by decide +kernel
theorem dX4_coverOfSpoken_88 : decode cX4_coverOfSpoken 88 = .ok (.goto (-80), 3) := by decide +kernel
theorem dX4_coverOfSpoken_91 : decode cX4_coverOfSpoken 91 = .ok (.lload_n 1, 1) := by decide +kernel
theorem dX4_coverOfSpoken_92 : decode cX4_coverOfSpoken 92 = .ok (.aload_n 0, 1) := by decide +kernel
theorem dX4_coverOfSpoken_93 : decode cX4_coverOfSpoken 93 = .ok (.iload_n 3, 1) := by decide +kernel
theorem dX4_coverOfSpoken_94 : decode cX4_coverOfSpoken 94 = .ok (.bipush 16, 2) := by decide +kernel
theorem dX4_coverOfSpoken_96 : decode cX4_coverOfSpoken 96 = .ok (.invokestatic 64, 3) := by decide +kernel
theorem dX4_coverOfSpoken_99 : decode cX4_coverOfSpoken 99 = .ok (.invokevirtual 71, 3) := by decide +kernel
theorem dX4_coverOfSpoken_102 : decode cX4_coverOfSpoken 102 = .ok (.lor, 1) := by decide +kernel
theorem dX4_coverOfSpoken_103 : decode cX4_coverOfSpoken 103 = .ok (.lreturn, 1) := by decide +kernel
theorem dX4_coverOfSet_0 : decode cX4_coverOfSet 0 = .ok (.lconst 0, 1) := by decide +kernel
theorem dX4_coverOfSet_1 : decode cX4_coverOfSet 1 = .ok (.lstore_n 2, 1) := by decide +kernel
theorem dX4_coverOfSet_2 : decode cX4_coverOfSet 2 = .ok (.iconst 0, 1) := by decide +kernel
theorem dX4_coverOfSet_3 : decode cX4_coverOfSet 3 = .ok (.istore 4, 2) := by decide +kernel
theorem dX4_coverOfSet_5 : decode cX4_coverOfSet 5 = .ok (.iload 4, 2) := by decide +kernel
theorem dX4_coverOfSet_7 : decode cX4_coverOfSet 7 = .ok (.bipush 8, 2) := by decide +kernel
theorem dX4_coverOfSet_9 : decode cX4_coverOfSet 9 = .ok (.if_icmp .ge 29, 3) := by decide +kernel
theorem dX4_coverOfSet_12 : decode cX4_coverOfSet 12 = .ok (.iload_n 1, 1) := by decide +kernel
theorem dX4_coverOfSet_13 : decode cX4_coverOfSet 13 = .ok (.iload 4, 2) := by decide +kernel
theorem dX4_coverOfSet_15 : decode cX4_coverOfSet 15 = .ok (.iushr, 1) := by decide +kernel
theorem dX4_coverOfSet_16 : decode cX4_coverOfSet 16 = .ok (.iconst 1, 1) := by decide +kernel
theorem dX4_coverOfSet_17 : decode cX4_coverOfSet 17 = .ok (.iand, 1) := by decide +kernel
theorem dX4_coverOfSet_18 : decode cX4_coverOfSet 18 = .ok (.iconst 1, 1) := by decide +kernel
theorem dX4_coverOfSet_19 : decode cX4_coverOfSet 19 = .ok (.if_icmp .ne 13, 3) := by decide +kernel
theorem dX4_coverOfSet_22 : decode cX4_coverOfSet 22 = .ok (.lload_n 2, 1) := by decide +kernel
theorem dX4_coverOfSet_23 : decode cX4_coverOfSet 23 = .ok (.aload_n 0, 1) := by decide +kernel
theorem dX4_coverOfSet_24 : decode cX4_coverOfSet 24 = .ok (.getfield 15, 3) := by decide +kernel
theorem dX4_coverOfSet_27 : decode cX4_coverOfSet 27 = .ok (.iload 4, 2) := by decide +kernel
theorem dX4_coverOfSet_29 : decode cX4_coverOfSet 29 = .ok (.laload, 1) := by decide +kernel
theorem dX4_coverOfSet_30 : decode cX4_coverOfSet 30 = .ok (.lor, 1) := by decide +kernel
theorem dX4_coverOfSet_31 : decode cX4_coverOfSet 31 = .ok (.lstore_n 2, 1) := by decide +kernel
theorem dX4_coverOfSet_32 : decode cX4_coverOfSet 32 = .ok (.iinc 4 1, 3) := by decide +kernel
theorem dX4_coverOfSet_35 : decode cX4_coverOfSet 35 = .ok (.goto (-30), 3) := by decide +kernel
theorem dX4_coverOfSet_38 : decode cX4_coverOfSet 38 = .ok (.lload_n 2, 1) := by decide +kernel
theorem dX4_coverOfSet_39 : decode cX4_coverOfSet 39 = .ok (.lreturn, 1) := by decide +kernel
theorem dX5_init_0 : decode cX5_init 0 = .ok (.aload_n 0, 1) := by decide +kernel
theorem dX5_init_1 : decode cX5_init 1 = .ok (.invokespecial 3, 3) := by decide +kernel
theorem dX5_init_4 : decode cX5_init 4 = .ok (.aload_n 0, 1) := by decide +kernel
theorem dX5_init_5 : decode cX5_init 5 = .ok (.bipush 8, 2) := by decide +kernel
theorem dX5_init_7 : decode cX5_init 7 = .ok (.newarray .int, 2) := by decide +kernel
theorem dX5_init_9 : decode cX5_init 9 = .ok (.putfield 9, 3) := by decide +kernel
theorem dX5_init_12 : decode cX5_init 12 = .ok (.return_, 1) := by decide +kernel
theorem dX6_init_0 : decode cX6_init 0 = .ok (.aload_n 0, 1) := by decide +kernel
theorem dX6_init_1 : decode cX6_init 1 = .ok (.invokespecial 3, 3) := by decide +kernel
theorem dX6_init_4 : decode cX6_init 4 = .ok (.aload_n 0, 1) := by decide +kernel
theorem dX6_init_5 : decode cX6_init 5 = .ok (.bipush 16, 2) := by decide +kernel
theorem dX6_init_7 : decode cX6_init 7 = .ok (.newarray .int, 2) := by decide +kernel
theorem dX6_init_9 : decode cX6_init 9 = .ok (.putfield 9, 3) := by decide +kernel
theorem dX6_init_12 : decode cX6_init 12 = .ok (.aload_n 0, 1) := by decide +kernel
theorem dX6_init_13 : decode cX6_init 13 = .ok (.iconst 5, 1) := by decide +kernel
theorem dX6_init_14 : decode cX6_init 14 = .ok (.putfield 15, 3) := by decide +kernel
theorem dX6_init_17 : decode cX6_init 17 = .ok (.aload_n 0, 1) := by decide +kernel
theorem dX6_init_18 : decode cX6_init 18 = .ok (.bipush 100, 2) := by decide +kernel
theorem dX6_init_20 : decode cX6_init 20 = .ok (.newarray .int, 2) := by decide +kernel
theorem dX6_init_22 : decode cX6_init 22 = .ok (.putfield 19, 3) := by decide +kernel
theorem dX6_init_25 : decode cX6_init 25 = .ok (.aload_n 0, 1) := by decide +kernel
theorem dX6_init_26 : decode cX6_init 26 = .ok (.bipush 100, 2) := by decide +kernel
theorem dX6_init_28 : decode cX6_init 28 = .ok (.newarray .int, 2) := by decide +kernel
theorem dX6_init_30 : decode cX6_init 30 = .ok (.putfield 22, 3) := by decide +kernel
theorem dX6_init_33 : decode cX6_init 33 = .ok (.aload_n 0, 1) := by decide +kernel
theorem dX6_init_34 : decode cX6_init 34 = .ok (.sipush 1700, 3) := by decide +kernel
theorem dX6_init_37 : decode cX6_init 37 = .ok (.newarray .int, 2) := by decide +kernel
theorem dX6_init_39 : decode cX6_init 39 = .ok (.putfield 25, 3) := by decide +kernel
theorem dX6_init_42 : decode cX6_init 42 = .ok (.aload_n 0, 1) := by decide +kernel
theorem dX6_init_43 : decode cX6_init 43 = .ok (.sipush 1700, 3) := by decide +kernel
theorem dX6_init_46 : decode cX6_init 46 = .ok (.newarray .int, 2) := by decide +kernel
theorem dX6_init_48 : decode cX6_init 48 = .ok (.putfield 28, 3) := by decide +kernel
theorem dX6_init_51 : decode cX6_init 51 = .ok (.aload_n 0, 1) := by decide +kernel
theorem dX6_init_52 : decode cX6_init 52 = .ok (.sipush 128, 3) := by decide +kernel
theorem dX6_init_55 : decode cX6_init 55 = .ok (.newarray .int, 2) := by decide +kernel
theorem dX6_init_57 : decode cX6_init 57 = .ok (.putfield 31, 3) := by decide +kernel
theorem dX6_init_60 : decode cX6_init 60 = .ok (.aload_n 0, 1) := by decide +kernel
theorem dX6_init_61 : decode cX6_init 61 = .ok (.sipush 128, 3) := by decide +kernel
theorem dX6_init_64 : decode cX6_init 64 = .ok (.newarray .int, 2) := by decide +kernel
theorem dX6_init_66 : decode cX6_init 66 = .ok (.putfield 34, 3) := by decide +kernel
theorem dX6_init_69 : decode cX6_init 69 = .ok (.aload_n 0, 1) := by decide +kernel
theorem dX6_init_70 : decode cX6_init 70 = .ok (.bipush 100, 2) := by decide +kernel
theorem dX6_init_72 : decode cX6_init 72 = .ok (.newarray .int, 2) := by decide +kernel
theorem dX6_init_74 : decode cX6_init 74 = .ok (.putfield 37, 3) := by decide +kernel
theorem dX6_init_77 : decode cX6_init 77 = .ok (.aload_n 0, 1) := by decide +kernel
theorem dX6_init_78 : decode cX6_init 78 = .ok (.bipush 100, 2) := by decide +kernel
theorem dX6_init_80 : decode cX6_init 80 = .ok (.newarray .int, 2) := by decide +kernel
theorem dX6_init_82 : decode cX6_init 82 = .ok (.putfield 40, 3) := by decide +kernel
theorem dX6_init_85 : decode cX6_init 85 = .ok (.aload_n 0, 1) := by decide +kernel
theorem dX6_init_86 : decode cX6_init 86 = .ok (.bipush 16, 2) := by decide +kernel
theorem dX6_init_88 : decode cX6_init 88 = .ok (.newarray .int, 2) := by decide +kernel
theorem dX6_init_90 : decode cX6_init 90 = .ok (.putfield 43, 3) := by decide +kernel
theorem dX6_init_93 : decode cX6_init 93 = .ok (.aload_n 0, 1) := by decide +kernel
theorem dX6_init_94 : decode cX6_init 94 = .ok (.aload_n 1, 1) := by decide +kernel
theorem dX6_init_95 : decode cX6_init 95 = .ok (.putfield 46, 3) := by decide +kernel
theorem dX6_init_98 : decode cX6_init 98 = .ok (.return_, 1) := by decide +kernel
theorem dX6_leastJar_0 : decode cX6_leastJar 0 = .ok (.aload_n 0, 1) := by decide +kernel
theorem dX6_leastJar_1 : decode cX6_leastJar 1 = .ok (.getfield 50, 3) := by decide +kernel
theorem dX6_leastJar_4 : decode cX6_leastJar 4 = .ok (.ldc 53, 2) := by decide +kernel
theorem dX6_leastJar_6 : decode cX6_leastJar 6 = .ok (.if_icmp .ge 10, 3) := by decide +kernel
theorem dX6_leastJar_9 : decode cX6_leastJar 9 = .ok (.aload_n 0, 1) := by decide +kernel
theorem dX6_leastJar_10 : decode cX6_leastJar 10 = .ok (.getfield 50, 3) := by decide +kernel
theorem dX6_leastJar_13 : decode cX6_leastJar 13 = .ok (.goto 4, 3) := by decide +kernel
theorem dX6_leastJar_16 : decode cX6_leastJar 16 = .ok (.iconst (-1), 1) := by decide +kernel
theorem dX6_leastJar_17 : decode cX6_leastJar 17 = .ok (.ireturn, 1) := by decide +kernel
theorem dX6_jarOfWords_0 : decode cX6_jarOfWords 0 = .ok (.iconst 0, 1) := by decide +kernel
theorem dX6_jarOfWords_1 : decode cX6_jarOfWords 1 = .ok (.istore_n 3, 1) := by decide +kernel
theorem dX6_jarOfWords_2 : decode cX6_jarOfWords 2 = .ok (.iconst 0, 1) := by decide +kernel
theorem dX6_jarOfWords_3 : decode cX6_jarOfWords 3 = .ok (.istore 4, 2) := by decide +kernel
theorem dX6_jarOfWords_5 : decode cX6_jarOfWords 5 = .ok (.iload 4, 2) := by decide +kernel
theorem dX6_jarOfWords_7 : decode cX6_jarOfWords 7 = .ok (.aload_n 1, 1) := by decide +kernel
theorem dX6_jarOfWords_8 : decode cX6_jarOfWords 8 = .ok (.getfield 54, 3) := by decide +kernel
theorem dX6_jarOfWords_11 : decode cX6_jarOfWords 11 = .ok (.if_icmp .ge 56, 3) := by decide +kernel
theorem dX6_jarOfWords_14 : decode cX6_jarOfWords 14 = .ok (.aload_n 1, 1) := by decide +kernel
theorem dX6_jarOfWords_15 : decode cX6_jarOfWords 15 = .ok (.getfield 59, 3) := by decide +kernel
theorem dX6_jarOfWords_18 : decode cX6_jarOfWords 18 = .ok (.iload 4, 2) := by decide +kernel
theorem dX6_jarOfWords_20 : decode cX6_jarOfWords 20 = .ok (.iaload, 1) := by decide +kernel
theorem dX6_jarOfWords_21 : decode cX6_jarOfWords 21 = .ok (.istore 5, 2) := by decide +kernel
theorem dX6_jarOfWords_23 : decode cX6_jarOfWords 23 = .ok (.aload_n 0, 1) := by decide +kernel
theorem dX6_jarOfWords_24 : decode cX6_jarOfWords 24 = .ok (.iload_n 2, 1) := by decide +kernel
theorem dX6_jarOfWords_25 : decode cX6_jarOfWords 25 = .ok (.aload_n 1, 1) := by decide +kernel
theorem dX6_jarOfWords_26 : decode cX6_jarOfWords 26 = .ok (.getfield 62, 3) := by decide +kernel
theorem dX6_jarOfWords_29 : decode cX6_jarOfWords 29 = .ok (.iload 5, 2) := by decide +kernel
theorem dX6_jarOfWords_31 : decode cX6_jarOfWords 31 = .ok (.iaload, 1) := by decide +kernel
theorem dX6_jarOfWords_32 : decode cX6_jarOfWords 32 = .ok (.i2l, 1) := by decide +kernel
theorem dX6_jarOfWords_33 : decode cX6_jarOfWords 33 = .ok (.aload_n 1, 1) := by decide +kernel
theorem dX6_jarOfWords_34 : decode cX6_jarOfWords 34 = .ok (.getfield 65, 3) := by decide +kernel
theorem dX6_jarOfWords_37 : decode cX6_jarOfWords 37 = .ok (.iload 5, 2) := by decide +kernel
theorem dX6_jarOfWords_39 : decode cX6_jarOfWords 39 = .ok (.iaload, 1) := by decide +kernel
theorem dX6_jarOfWords_40 : decode cX6_jarOfWords 40 = .ok (.invokevirtual 68, 3) := by decide +kernel
theorem dX6_jarOfWords_43 : decode cX6_jarOfWords 43 = .ok (.aload_n 0, 1) := by decide +kernel
theorem dX6_jarOfWords_44 : decode cX6_jarOfWords 44 = .ok (.getfield 50, 3) := by decide +kernel
theorem dX6_jarOfWords_47 : decode cX6_jarOfWords 47 = .ok (.ldc 53, 2) := by decide +kernel
theorem dX6_jarOfWords_49 : decode cX6_jarOfWords 49 = .ok (.if_icmp .lt 5, 3) := by decide +kernel
theorem dX6_jarOfWords_52 : decode cX6_jarOfWords 52 = .ok (.iconst (-1), 1) := by decide +kernel
theorem dX6_jarOfWords_53 : decode cX6_jarOfWords 53 = .ok (.ireturn, 1) := by decide +kernel
theorem dX6_jarOfWords_54 : decode cX6_jarOfWords 54 = .ok (.iload_n 3, 1) := by decide +kernel
theorem dX6_jarOfWords_55 : decode cX6_jarOfWords 55 = .ok (.aload_n 0, 1) := by decide +kernel
theorem dX6_jarOfWords_56 : decode cX6_jarOfWords 56 = .ok (.getfield 50, 3) := by decide +kernel
theorem dX6_jarOfWords_59 : decode cX6_jarOfWords 59 = .ok (.iadd, 1) := by decide +kernel
theorem dX6_jarOfWords_60 : decode cX6_jarOfWords 60 = .ok (.istore_n 3, 1) := by decide +kernel
theorem dX6_jarOfWords_61 : decode cX6_jarOfWords 61 = .ok (.iinc 4 1, 3) := by decide +kernel
theorem dX6_jarOfWords_64 : decode cX6_jarOfWords 64 = .ok (.goto (-59), 3) := by decide +kernel
theorem dX6_jarOfWords_67 : decode cX6_jarOfWords 67 = .ok (.iload_n 3, 1) := by decide +kernel
theorem dX6_jarOfWords_68 : decode cX6_jarOfWords 68 = .ok (.ireturn, 1) := by decide +kernel
theorem dX6_weigh_0 : decode cX6_weigh 0 = .ok (.aload_n 0, 1) := by decide +kernel
theorem dX6_weigh_1 : decode cX6_weigh 1 = .ok (.iload_n 1, 1) := by decide +kernel
theorem dX6_weigh_2 : decode cX6_weigh 2 = .ok (.putfield 72, 3) := by decide +kernel
theorem dX6_weigh_5 : decode cX6_weigh 5 = .ok (.aload_n 0, 1) := by decide +kernel
theorem dX6_weigh_6 : decode cX6_weigh 6 = .ok (.iload 4, 2) := by decide +kernel
theorem dX6_weigh_8 : decode cX6_weigh 8 = .ok (.putfield 75, 3) := by decide +kernel
theorem dX6_weigh_11 : decode cX6_weigh 11 = .ok (.iconst 0, 1) := by decide +kernel
theorem dX6_weigh_12 : decode cX6_weigh 12 = .ok (.istore 5, 2) := by decide +kernel
theorem dX6_weigh_14 : decode cX6_weigh 14 = .ok (.iload 5, 2) := by decide +kernel
theorem dX6_weigh_16 : decode cX6_weigh 16 = .ok (.iload 4, 2) := by decide +kernel
theorem dX6_weigh_18 : decode cX6_weigh 18 = .ok (.if_icmp .ge 33, 3) := by decide +kernel
theorem dX6_weigh_21 : decode cX6_weigh 21 = .ok (.iload 5, 2) := by decide +kernel
theorem dX6_weigh_23 : decode cX6_weigh 23 = .ok (.bipush 16, 2) := by decide +kernel
theorem dX6_weigh_25 : decode cX6_weigh 25 = .ok (.if_icmp .ge 26, 3) := by decide +kernel
theorem dX6_weigh_28 : decode cX6_weigh 28 = .ok (.aload_n 0, 1) := by decide +kernel
theorem dX6_weigh_29 : decode cX6_weigh 29 = .ok (.getfield 9, 3) := by decide +kernel
theorem dX6_weigh_32 : decode cX6_weigh 32 = .ok (.iload 5, 2) := by decide +kernel
theorem dX6_weigh_34 : decode cX6_weigh 34 = .ok (.lload_n 2, 1) := by decide +kernel
theorem dX6_weigh_35 : decode cX6_weigh 35 = .ok (.iconst 4, 1) := by decide +kernel
theorem dX6_weigh_36 : decode cX6_weigh 36 = .ok (.iload 5, 2) := by decide +kernel
theorem dX6_weigh_38 : decode cX6_weigh 38 = .ok (.imul, 1) := by decide +kernel
theorem dX6_weigh_39 : decode cX6_weigh 39 = .ok (.lushr, 1) := by decide +kernel
theorem dX6_weigh_40 : decode cX6_weigh 40 = .ok (.l2i, 1) := by decide +kernel
theorem dX6_weigh_41 : decode cX6_weigh 41 = .ok (.bipush 15, 2) := by decide +kernel
theorem dX6_weigh_43 : decode cX6_weigh 43 = .ok (.iand, 1) := by decide +kernel
theorem dX6_weigh_44 : decode cX6_weigh 44 = .ok (.iastore, 1) := by decide +kernel
theorem dX6_weigh_45 : decode cX6_weigh 45 = .ok (.iinc 5 1, 3) := by decide +kernel
theorem dX6_weigh_48 : decode cX6_weigh 48 = .ok (.goto (-34), 3) := by decide +kernel
theorem dX6_weigh_51 : decode cX6_weigh 51 = .ok (.aload_n 0, 1) := by decide +kernel
theorem dX6_weigh_52 : decode cX6_weigh 52 = .ok (.invokevirtual 78, 3) := by decide +kernel
theorem dX6_weigh_55 : decode cX6_weigh 55 = .ok (.aload_n 0, 1) := by decide +kernel
theorem dX6_weigh_56 : decode cX6_weigh 56 = .ok (.getfield 31, 3) := by decide +kernel
theorem dX6_weigh_59 : decode cX6_weigh 59 = .ok (.ldc 53, 2) := by decide +kernel
theorem dX6_weigh_61 : decode cX6_weigh 61 = .ok (.invokestatic 81, 3) := by decide +kernel
theorem dX6_weigh_64 : decode cX6_weigh 64 = .ok (.aload_n 0, 1) := by decide +kernel
theorem dX6_weigh_65 : decode cX6_weigh 65 = .ok (.getfield 34, 3) := by decide +kernel
theorem dX6_weigh_68 : decode cX6_weigh 68 = .ok (.iconst 0, 1) := by decide +kernel
theorem dX6_weigh_69 : decode cX6_weigh 69 = .ok (.invokestatic 81, 3) := by decide +kernel
theorem dX6_weigh_72 : decode cX6_weigh 72 = .ok (.iconst 0, 1) := by decide +kernel
theorem dX6_weigh_73 : decode cX6_weigh 73 = .ok (.istore 5, 2) := by decide +kernel
theorem dX6_weigh_75 : decode cX6_weigh 75 = .ok (.iload 5, 2) := by decide +kernel
theorem dX6_weigh_77 : decode cX6_weigh 77 = .ok (.aload_n 0, 1) := by decide +kernel
theorem dX6_weigh_78 : decode cX6_weigh 78 = .ok (.getfield 87, 3) := by decide +kernel
theorem dX6_weigh_81 : decode cX6_weigh 81 = .ok (.if_icmp .ge 47, 3) := by decide +kernel
theorem dX6_weigh_84 : decode cX6_weigh 84 = .ok (.aload_n 0, 1) := by decide +kernel
theorem dX6_weigh_85 : decode cX6_weigh 85 = .ok (.getfield 25, 3) := by decide +kernel
theorem dX6_weigh_88 : decode cX6_weigh 88 = .ok (.iload 4, 2) := by decide +kernel
theorem dX6_weigh_90 : decode cX6_weigh 90 = .ok (.bipush 100, 2) := by decide +kernel
theorem dX6_weigh_92 : decode cX6_weigh 92 = .ok (.imul, 1) := by decide +kernel
theorem dX6_weigh_93 : decode cX6_weigh 93 = .ok (.aload_n 0, 1) := by decide +kernel
theorem dX6_weigh_94 : decode cX6_weigh 94 = .ok (.getfield 19, 3) := by decide +kernel
theorem dX6_weigh_97 : decode cX6_weigh 97 = .ok (.iload 5, 2) := by decide +kernel
theorem dX6_weigh_99 : decode cX6_weigh 99 = .ok (.iaload, 1) := by decide +kernel
theorem dX6_weigh_100 : decode cX6_weigh 100 = .ok (.iadd, 1) := by decide +kernel
theorem dX6_weigh_101 : decode cX6_weigh 101 = .ok (.iconst 0, 1) := by decide +kernel
theorem dX6_weigh_102 : decode cX6_weigh 102 = .ok (.iastore, 1) := by decide +kernel
theorem dX6_weigh_103 : decode cX6_weigh 103 = .ok (.aload_n 0, 1) := by decide +kernel
theorem dX6_weigh_104 : decode cX6_weigh 104 = .ok (.getfield 28, 3) := by decide +kernel
theorem dX6_weigh_107 : decode cX6_weigh 107 = .ok (.iload 4, 2) := by decide +kernel
theorem dX6_weigh_109 : decode cX6_weigh 109 = .ok (.bipush 100, 2) := by decide +kernel
theorem dX6_weigh_111 : decode cX6_weigh 111 = .ok (.imul, 1) := by decide +kernel
theorem dX6_weigh_112 : decode cX6_weigh 112 = .ok (.aload_n 0, 1) := by decide +kernel
theorem dX6_weigh_113 : decode cX6_weigh 113 = .ok (.getfield 19, 3) := by decide +kernel
theorem dX6_weigh_116 : decode cX6_weigh 116 = .ok (.iload 5, 2) := by decide +kernel
theorem dX6_weigh_118 : decode cX6_weigh 118 = .ok (.iaload, 1) := by decide +kernel
theorem dX6_weigh_119 : decode cX6_weigh 119 = .ok (.iadd, 1) := by decide +kernel
theorem dX6_weigh_120 : decode cX6_weigh 120 = .ok (.iconst 1, 1) := by decide +kernel
theorem dX6_weigh_121 : decode cX6_weigh 121 = .ok (.iastore, 1) := by decide +kernel
theorem dX6_weigh_122 : decode cX6_weigh 122 = .ok (.iinc 5 1, 3) := by decide +kernel
theorem dX6_weigh_125 : decode cX6_weigh 125 = .ok (.goto (-50), 3) := by decide +kernel
theorem dX6_weigh_128 : decode cX6_weigh 128 = .ok (.iload 4, 2) := by decide +kernel
theorem dX6_weigh_130 : decode cX6_weigh 130 = .ok (.iconst 1, 1) := by decide +kernel
theorem dX6_weigh_131 : decode cX6_weigh 131 = .ok (.isub, 1) := by decide +kernel
theorem dX6_weigh_132 : decode cX6_weigh 132 = .ok (.istore 5, 2) := by decide +kernel
theorem dX6_weigh_134 : decode cX6_weigh 134 = .ok (.iload 5, 2) := by decide +kernel
theorem dX6_weigh_136 : decode cX6_weigh 136 = .ok (.ifCond .lt 123, 3) := by decide +kernel
theorem dX6_weigh_139 : decode cX6_weigh 139 = .ok (.iconst 0, 1) := by decide +kernel
theorem dX6_weigh_140 : decode cX6_weigh 140 = .ok (.istore 6, 2) := by decide +kernel
theorem dX6_weigh_142 : decode cX6_weigh 142 = .ok (.iload 6, 2) := by decide +kernel
theorem dX6_weigh_144 : decode cX6_weigh 144 = .ok (.aload_n 0, 1) := by decide +kernel
theorem dX6_weigh_145 : decode cX6_weigh 145 = .ok (.getfield 87, 3) := by decide +kernel
theorem dX6_weigh_148 : decode cX6_weigh 148 = .ok (.if_icmp .ge 36, 3) := by decide +kernel
theorem dX6_weigh_151 : decode cX6_weigh 151 = .ok (.aload_n 0, 1) := by decide +kernel
theorem dX6_weigh_152 : decode cX6_weigh 152 = .ok (.getfield 37, 3) := by decide +kernel
theorem dX6_weigh_155 : decode cX6_weigh 155 = .ok (.aload_n 0, 1) := by decide +kernel
theorem dX6_weigh_156 : decode cX6_weigh 156 = .ok (.getfield 19, 3) := by decide +kernel
theorem dX6_weigh_159 : decode cX6_weigh 159 = .ok (.iload 6, 2) := by decide +kernel
theorem dX6_weigh_161 : decode cX6_weigh 161 = .ok (.iaload, 1) := by decide +kernel
theorem dX6_weigh_162 : decode cX6_weigh 162 = .ok (.ldc 53, 2) := by decide +kernel
theorem dX6_weigh_164 : decode cX6_weigh 164 = .ok (.iastore, 1) := by decide +kernel
theorem dX6_weigh_165 : decode cX6_weigh 165 = .ok (.aload_n 0, 1) := by decide +kernel
theorem dX6_weigh_166 : decode cX6_weigh 166 = .ok (.getfield 40, 3) := by decide +kernel
theorem dX6_weigh_169 : decode cX6_weigh 169 = .ok (.aload_n 0, 1) := by decide +kernel
theorem dX6_weigh_170 : decode cX6_weigh 170 = .ok (.getfield 19, 3) := by decide +kernel
theorem dX6_weigh_173 : decode cX6_weigh 173 = .ok (.iload 6, 2) := by decide +kernel
theorem dX6_weigh_175 : decode cX6_weigh 175 = .ok (.iaload, 1) := by decide +kernel
theorem dX6_weigh_176 : decode cX6_weigh 176 = .ok (.iconst 0, 1) := by decide +kernel
theorem dX6_weigh_177 : decode cX6_weigh 177 = .ok (.iastore, 1) := by decide +kernel
theorem dX6_weigh_178 : decode cX6_weigh 178 = .ok (.iinc 6 1, 3) := by decide +kernel
theorem dX6_weigh_181 : decode cX6_weigh 181 = .ok (.goto (-39), 3) := by decide +kernel
theorem dX6_weigh_184 : decode cX6_weigh 184 = .ok (.iconst 0, 1) := by decide +kernel
theorem dX6_weigh_185 : decode cX6_weigh 185 = .ok (.istore 6, 2) := by decide +kernel
theorem dX6_weigh_187 : decode cX6_weigh 187 = .ok (.iload 6, 2) := by decide +kernel
theorem dX6_weigh_189 : decode cX6_weigh 189 = .ok (.aload_n 0, 1) := by decide +kernel
theorem dX6_weigh_190 : decode cX6_weigh 190 = .ok (.getfield 46, 3) := by decide +kernel
theorem dX6_weigh_193 : decode cX6_weigh 193 = .ok (.getfield 90, 3) := by decide +kernel
theorem dX6_weigh_196 : decode cX6_weigh 196 = .ok (.if_icmp .ge 34, 3) := by decide +kernel
theorem dX6_weigh_199 : decode cX6_weigh 199 = .ok (.aload_n 0, 1) := by decide +kernel
theorem dX6_weigh_200 : decode cX6_weigh 200 = .ok (.getfield 46, 3) := by decide +kernel
theorem dX6_weigh_203 : decode cX6_weigh 203 = .ok (.getfield 95, 3) := by decide +kernel
theorem dX6_weigh_206 : decode cX6_weigh 206 = .ok (.iload 6, 2) := by decide +kernel
theorem dX6_weigh_208 : decode cX6_weigh 208 = .ok (.aaload, 1) := by decide +kernel
theorem dX6_weigh_209 : decode cX6_weigh 209 = .ok (.getfield 99, 3) := by decide +kernel
theorem dX6_weigh_212 : decode cX6_weigh 212 = .ok (.iload_n 1, 1) := by decide +kernel
theorem dX6_weigh_213 : decode cX6_weigh 213 = .ok (.if_icmp .ne 11, 3) := by decide +kernel
theorem dX6_weigh_216 : decode cX6_weigh 216 = .ok (.aload_n 0, 1) := by decide +kernel
theorem dX6_weigh_217 : decode cX6_weigh 217 = .ok (.iload 6, 2) := by decide +kernel
theorem dX6_weigh_219 : decode cX6_weigh 219 = .ok (.iload 5, 2) := by decide +kernel
theorem dX6_weigh_221 : decode cX6_weigh 221 = .ok (.invokevirtual 102, 3) := by decide +kernel
theorem dX6_weigh_224 : decode cX6_weigh 224 = .ok (.iinc 6 1, 3) := by decide +kernel
theorem dX6_weigh_227 : decode cX6_weigh 227 = .ok (.goto (-40), 3) := by decide +kernel
theorem dX6_weigh_230 : decode cX6_weigh 230 = .ok (.iload 5, 2) := by decide +kernel
theorem dX6_weigh_232 : decode cX6_weigh 232 = .ok (.ifCond .le 21, 3) := by decide +kernel
theorem dX6_weigh_235 : decode cX6_weigh 235 = .ok (.aload_n 0, 1) := by decide +kernel
theorem dX6_weigh_236 : decode cX6_weigh 236 = .ok (.iload 5, 2) := by decide +kernel
theorem dX6_weigh_238 : decode cX6_weigh 238 = .ok (.bipush 100, 2) := by decide +kernel
theorem dX6_weigh_240 : decode cX6_weigh 240 = .ok (.imul, 1) := by decide +kernel
theorem dX6_weigh_241 : decode cX6_weigh 241 = .ok (.invokevirtual 106, 3) := by decide +kernel
theorem dX6_weigh_244 : decode cX6_weigh 244 = .ok (.aload_n 0, 1) := by decide +kernel
theorem dX6_weigh_245 : decode cX6_weigh 245 = .ok (.iload 5, 2) := by decide +kernel
theorem dX6_weigh_247 : decode cX6_weigh 247 = .ok (.bipush 100, 2) := by decide +kernel
theorem dX6_weigh_249 : decode cX6_weigh 249 = .ok (.imul, 1) := by decide +kernel
theorem dX6_weigh_250 : decode cX6_weigh 250 = .ok (.invokevirtual 110, 3) := by decide +kernel
theorem dX6_weigh_253 : decode cX6_weigh 253 = .ok (.iinc 5 (-1), 3) := by decide +kernel
theorem dX6_weigh_256 : decode cX6_weigh 256 = .ok (.goto (-122), 3) := by decide +kernel
theorem dX6_weigh_259 : decode cX6_weigh 259 = .ok (.aload_n 0, 1) := by decide +kernel
theorem dX6_weigh_260 : decode cX6_weigh 260 = .ok (.invokevirtual 113, 3) := by decide +kernel
theorem dX6_weigh_263 : decode cX6_weigh 263 = .ok (.return_, 1) := by decide +kernel
theorem dX6_gatherTones_0 : decode cX6_gatherTones 0 = .ok (.aload_n 0, 1) := by decide +kernel
theorem dX6_gatherTones_1 : decode cX6_gatherTones 1 = .ok (.getfield 22, 3) := by decide +kernel
theorem dX6_gatherTones_4 : decode cX6_gatherTones 4 = .ok (.iconst 0, 1) := by decide +kernel
theorem dX6_gatherTones_5 : decode cX6_gatherTones 5 = .ok (.invokestatic 81, 3) := by decide +kernel
theorem dX6_gatherTones_8 : decode cX6_gatherTones 8 = .ok (.iconst 0, 1) := by decide +kernel
theorem dX6_gatherTones_9 : decode cX6_gatherTones 9 = .ok (.istore_n 1, 1) := by decide +kernel
theorem dX6_gatherTones_10 : decode cX6_gatherTones 10 = .ok (.iload_n 1, 1) := by decide +kernel
theorem dX6_gatherTones_11 : decode cX6_gatherTones 11 = .ok (.aload_n 0, 1) := by decide +kernel
theorem dX6_gatherTones_12 : decode cX6_gatherTones 12 = .ok (.getfield 46, 3) := by decide +kernel
theorem dX6_gatherTones_15 : decode cX6_gatherTones 15 = .ok (.getfield 90, 3) := by decide +kernel
theorem dX6_gatherTones_18 : decode cX6_gatherTones 18 = .ok (.if_icmp .ge 58, 3) := by decide +kernel
theorem dX6_gatherTones_21 : decode cX6_gatherTones 21 = .ok (.aload_n 0, 1) := by decide +kernel
theorem dX6_gatherTones_22 : decode cX6_gatherTones 22 = .ok (.getfield 46, 3) := by decide +kernel
theorem dX6_gatherTones_25 : decode cX6_gatherTones 25 = .ok (.getfield 95, 3) := by decide +kernel
theorem dX6_gatherTones_28 : decode cX6_gatherTones 28 = .ok (.iload_n 1, 1) := by decide +kernel
theorem dX6_gatherTones_29 : decode cX6_gatherTones 29 = .ok (.aaload, 1) := by decide +kernel
theorem dX6_gatherTones_30 : decode cX6_gatherTones 30 = .ok (.astore_n 2, 1) := by decide +kernel
theorem dX6_gatherTones_31 : decode cX6_gatherTones 31 = .ok (.iconst 0, 1) := by decide +kernel
theorem dX6_gatherTones_32 : decode cX6_gatherTones 32 = .ok (.istore_n 3, 1) := by decide +kernel
theorem dX6_gatherTones_33 : decode cX6_gatherTones 33 = .ok (.iload_n 3, 1) := by decide +kernel
theorem dX6_gatherTones_34 : decode cX6_gatherTones 34 = .ok (.aload_n 2, 1) := by decide +kernel
theorem dX6_gatherTones_35 : decode cX6_gatherTones 35 = .ok (.getfield 116, 3) := by decide +kernel
theorem dX6_gatherTones_38 : decode cX6_gatherTones 38 = .ok (.if_icmp .ge 32, 3) := by decide +kernel
theorem dX6_gatherTones_41 : decode cX6_gatherTones 41 = .ok (.aload_n 2, 1) := by decide +kernel
theorem dX6_gatherTones_42 : decode cX6_gatherTones 42 = .ok (.getfield 99, 3) := by decide +kernel
theorem dX6_gatherTones_45 : decode cX6_gatherTones 45 = .ok (.aload_n 0, 1) := by decide +kernel
theorem dX6_gatherTones_46 : decode cX6_gatherTones 46 = .ok (.getfield 72, 3) := by decide +kernel
theorem dX6_gatherTones_49 : decode cX6_gatherTones 49 = .ok (.if_icmp .ne 21, 3) := by decide +kernel
theorem dX6_gatherTones_52 : decode cX6_gatherTones 52 = .ok (.aload_n 0, 1) := by decide +kernel
theorem dX6_gatherTones_53 : decode cX6_gatherTones 53 = .ok (.getfield 22, 3) := by decide +kernel
theorem dX6_gatherTones_56 : decode cX6_gatherTones 56 = .ok (.aload_n 2, 1) := by decide +kernel
theorem dX6_gatherTones_57 : decode cX6_gatherTones 57 = .ok (.getfield 117, 3) := by decide +kernel
theorem dX6_gatherTones_60 : decode cX6_gatherTones 60 = .ok (.iload_n 3, 1) := by decide +kernel
theorem dX6_gatherTones_61 : decode cX6_gatherTones 61 = .ok (.iaload, 1) := by decide +kernel
theorem dX6_gatherTones_62 : decode cX6_gatherTones 62 = .ok (.iconst 1, 1) := by decide +kernel
theorem dX6_gatherTones_63 : decode cX6_gatherTones 63 = .ok (.iastore, 1) := by decide +kernel
theorem dX6_gatherTones_64 : decode cX6_gatherTones 64 = .ok (.iinc 3 1, 3) := by decide +kernel
theorem dX6_gatherTones_67 : decode cX6_gatherTones 67 = .ok (.goto (-34), 3) := by decide +kernel
theorem dX6_gatherTones_70 : decode cX6_gatherTones 70 = .ok (.iinc 1 1, 3) := by decide +kernel
theorem dX6_gatherTones_73 : decode cX6_gatherTones 73 = .ok (.goto (-63), 3) := by decide +kernel
theorem dX6_gatherTones_76 : decode cX6_gatherTones 76 = .ok (.aload_n 0, 1) := by decide +kernel
theorem dX6_gatherTones_77 : decode cX6_gatherTones 77 = .ok (.iconst 0, 1) := by decide +kernel
theorem dX6_gatherTones_78 : decode cX6_gatherTones 78 = .ok (.putfield 87, 3) := by decide +kernel
theorem dX6_gatherTones_81 : decode cX6_gatherTones 81 = .ok (.iconst 0, 1) := by decide +kernel
theorem dX6_gatherTones_82 : decode cX6_gatherTones 82 = .ok (.istore_n 1, 1) := by decide +kernel
theorem dX6_gatherTones_83 : decode cX6_gatherTones 83 = .ok (.iload_n 1, 1) := by decide +kernel
theorem dX6_gatherTones_84 : decode cX6_gatherTones 84 = .ok (.bipush 100, 2) := by decide +kernel
theorem dX6_gatherTones_86 : decode cX6_gatherTones 86 = .ok (.if_icmp .ge 39, 3) := by decide +kernel
theorem dX6_gatherTones_89 : decode cX6_gatherTones 89 = .ok (.aload_n 0, 1) := by decide +kernel
theorem dX6_gatherTones_90 : decode cX6_gatherTones 90 = .ok (.getfield 22, 3) := by decide +kernel
theorem dX6_gatherTones_93 : decode cX6_gatherTones 93 = .ok (.iload_n 1, 1) := by decide +kernel
theorem dX6_gatherTones_94 : decode cX6_gatherTones 94 = .ok (.iaload, 1) := by decide +kernel
theorem dX6_gatherTones_95 : decode cX6_gatherTones 95 = .ok (.iconst 1, 1) := by decide +kernel
theorem dX6_gatherTones_96 : decode cX6_gatherTones 96 = .ok (.if_icmp .ne 23, 3) := by decide +kernel
theorem dX6_gatherTones_99 : decode cX6_gatherTones 99 = .ok (.aload_n 0, 1) := by decide +kernel
theorem dX6_gatherTones_100 : decode cX6_gatherTones 100 = .ok (.getfield 19, 3) := by decide +kernel
theorem dX6_gatherTones_103 : decode cX6_gatherTones 103 = .ok (.aload_n 0, 1) := by decide +kernel
theorem dX6_gatherTones_104 : decode cX6_gatherTones 104 = .ok (.getfield 87, 3) := by decide +kernel
theorem dX6_gatherTones_107 : decode cX6_gatherTones 107 = .ok (.iload_n 1, 1) := by decide +kernel
theorem dX6_gatherTones_108 : decode cX6_gatherTones 108 = .ok (.iastore, 1) := by decide +kernel
theorem dX6_gatherTones_109 : decode cX6_gatherTones 109 = .ok (.aload_n 0, 1) := by decide +kernel
theorem dX6_gatherTones_110 : decode cX6_gatherTones 110 = .ok (.dup, 1) := by decide +kernel
theorem dX6_gatherTones_111 : decode cX6_gatherTones 111 = .ok (.getfield 87, 3) := by decide +kernel
theorem dX6_gatherTones_114 : decode cX6_gatherTones 114 = .ok (.iconst 1, 1) := by decide +kernel
theorem dX6_gatherTones_115 : decode cX6_gatherTones 115 = .ok (.iadd, 1) := by decide +kernel
theorem dX6_gatherTones_116 : decode cX6_gatherTones 116 = .ok (.putfield 87, 3) := by decide +kernel
theorem dX6_gatherTones_119 : decode cX6_gatherTones 119 = .ok (.iinc 1 1, 3) := by decide +kernel
theorem dX6_gatherTones_122 : decode cX6_gatherTones 122 = .ok (.goto (-39), 3) := by decide +kernel
theorem dX6_gatherTones_125 : decode cX6_gatherTones 125 = .ok (.return_, 1) := by decide +kernel
theorem dX6_weighPiece_0 : decode cX6_weighPiece 0 = .ok (.aload_n 0, 1) := by decide +kernel
theorem dX6_weighPiece_1 : decode cX6_weighPiece 1 = .ok (.getfield 46, 3) := by decide +kernel
theorem dX6_weighPiece_4 : decode cX6_weighPiece 4 = .ok (.getfield 95, 3) := by decide +kernel
theorem dX6_weighPiece_7 : decode cX6_weighPiece 7 = .ok (.iload_n 1, 1) := by decide +kernel
theorem dX6_weighPiece_8 : decode cX6_weighPiece 8 = .ok (.aaload, 1) := by decide +kernel
theorem dX6_weighPiece_9 : decode cX6_weighPiece 9 = .ok (.astore_n 3, 1) := by decide +kernel
theorem dX6_weighPiece_10 : decode cX6_weighPiece 10 = .ok (.iconst 0, 1) := by decide +kernel
theorem dX6_weighPiece_11 : decode cX6_weighPiece 11 = .ok (.istore 4, 2) := by decide +kernel
theorem dX6_weighPiece_13 : decode cX6_weighPiece 13 = .ok (.iload 4, 2) := by decide +kernel
theorem dX6_weighPiece_15 : decode cX6_weighPiece 15 = .ok (.aload_n 3, 1) := by decide +kernel
theorem dX6_weighPiece_16 : decode cX6_weighPiece 16 = .ok (.getfield 116, 3) := by decide +kernel
theorem dX6_weighPiece_19 : decode cX6_weighPiece 19 = .ok (.if_icmp .ge 194, 3) := by decide +kernel
theorem dX6_weighPiece_22 : decode cX6_weighPiece 22 = .ok (.iload_n 1, 1) := by decide +kernel
theorem dX6_weighPiece_23 : decode cX6_weighPiece 23 = .ok (.bipush 8, 2) := by decide +kernel
theorem dX6_weighPiece_25 : decode cX6_weighPiece 25 = .ok (.imul, 1) := by decide +kernel
theorem dX6_weighPiece_26 : decode cX6_weighPiece 26 = .ok (.iload 4, 2) := by decide +kernel
theorem dX6_weighPiece_28 : decode cX6_weighPiece 28 = .ok (.iadd, 1) := by decide +kernel
theorem dX6_weighPiece_29 : decode cX6_weighPiece 29 = .ok (.istore 5, 2) := by decide +kernel
theorem dX6_weighPiece_31 : decode cX6_weighPiece 31 = .ok (.aload_n 0, 1) := by decide +kernel
theorem dX6_weighPiece_32 : decode cX6_weighPiece 32 = .ok (.getfield 31, 3) := by decide +kernel
theorem dX6_weighPiece_35 : decode cX6_weighPiece 35 = .ok (.iload 5, 2) := by decide +kernel
theorem dX6_weighPiece_37 : decode cX6_weighPiece 37 = .ok (.ldc 53, 2) := by decide +kernel
theorem dX6_weighPiece_39 : decode cX6_weighPiece 39 = .ok (.iastore, 1) := by decide +kernel
theorem dX6_weighPiece_40 : decode cX6_weighPiece 40 = .ok (.aload_n 0, 1) := by decide +kernel
theorem dX6_weighPiece_41 : decode cX6_weighPiece 41 = .ok (.getfield 34, 3) := by decide +kernel
theorem dX6_weighPiece_44 : decode cX6_weighPiece 44 = .ok (.iload 5, 2) := by decide +kernel
theorem dX6_weighPiece_46 : decode cX6_weighPiece 46 = .ok (.iconst 0, 1) := by decide +kernel
theorem dX6_weighPiece_47 : decode cX6_weighPiece 47 = .ok (.iastore, 1) := by decide +kernel
theorem dX6_weighPiece_48 : decode cX6_weighPiece 48 = .ok (.aload_n 3, 1) := by decide +kernel
theorem dX6_weighPiece_49 : decode cX6_weighPiece 49 = .ok (.iload 4, 2) := by decide +kernel
theorem dX6_weighPiece_51 : decode cX6_weighPiece 51 = .ok (.aload_n 0, 1) := by decide +kernel
theorem dX6_weighPiece_52 : decode cX6_weighPiece 52 = .ok (.getfield 9, 3) := by decide +kernel
theorem dX6_weighPiece_55 : decode cX6_weighPiece 55 = .ok (.iload_n 2, 1) := by decide +kernel
theorem dX6_weighPiece_56 : decode cX6_weighPiece 56 = .ok (.iaload, 1) := by decide +kernel
theorem dX6_weighPiece_57 : decode cX6_weighPiece 57 = .ok (.invokevirtual 120, 3) := by decide +kernel
theorem dX6_weighPiece_60 : decode cX6_weighPiece 60 = .ok (.ifCond .eq 147, 3) := by decide +kernel
theorem dX6_weighPiece_63 : decode cX6_weighPiece 63 = .ok (.aload_n 3, 1) := by decide +kernel
theorem dX6_weighPiece_64 : decode cX6_weighPiece 64 = .ok (.getfield 117, 3) := by decide +kernel
theorem dX6_weighPiece_67 : decode cX6_weighPiece 67 = .ok (.iload 4, 2) := by decide +kernel
theorem dX6_weighPiece_69 : decode cX6_weighPiece 69 = .ok (.iaload, 1) := by decide +kernel
theorem dX6_weighPiece_70 : decode cX6_weighPiece 70 = .ok (.istore 6, 2) := by decide +kernel
theorem dX6_weighPiece_72 : decode cX6_weighPiece 72 = .ok (.iload_n 2, 1) := by decide +kernel
theorem dX6_weighPiece_73 : decode cX6_weighPiece 73 = .ok (.iconst 1, 1) := by decide +kernel
theorem dX6_weighPiece_74 : decode cX6_weighPiece 74 = .ok (.iadd, 1) := by decide +kernel
theorem dX6_weighPiece_75 : decode cX6_weighPiece 75 = .ok (.bipush 100, 2) := by decide +kernel
theorem dX6_weighPiece_77 : decode cX6_weighPiece 77 = .ok (.imul, 1) := by decide +kernel
theorem dX6_weighPiece_78 : decode cX6_weighPiece 78 = .ok (.iload 6, 2) := by decide +kernel
theorem dX6_weighPiece_80 : decode cX6_weighPiece 80 = .ok (.iadd, 1) := by decide +kernel
theorem dX6_weighPiece_81 : decode cX6_weighPiece 81 = .ok (.istore 7, 2) := by decide +kernel
theorem dX6_weighPiece_83 : decode cX6_weighPiece 83 = .ok (.aload_n 0, 1) := by decide +kernel
theorem dX6_weighPiece_84 : decode cX6_weighPiece 84 = .ok (.getfield 31, 3) := by decide +kernel
theorem dX6_weighPiece_87 : decode cX6_weighPiece 87 = .ok (.aload_n 0, 1) := by decide +kernel
theorem dX6_weighPiece_88 : decode cX6_weighPiece 88 = .ok (.getfield 34, 3) := by decide +kernel
theorem dX6_weighPiece_91 : decode cX6_weighPiece 91 = .ok (.iload 5, 2) := by decide +kernel
theorem dX6_weighPiece_93 : decode cX6_weighPiece 93 = .ok (.aload_n 0, 1) := by decide +kernel
theorem dX6_weighPiece_94 : decode cX6_weighPiece 94 = .ok (.getfield 25, 3) := by decide +kernel
theorem dX6_weighPiece_97 : decode cX6_weighPiece 97 = .ok (.iload 7, 2) := by decide +kernel
theorem dX6_weighPiece_99 : decode cX6_weighPiece 99 = .ok (.iaload, 1) := by decide +kernel
theorem dX6_weighPiece_100 : decode cX6_weighPiece 100 = .ok (.aload_n 3, 1) := by decide +kernel
theorem dX6_weighPiece_101 : decode cX6_weighPiece 101 = .ok (.iload 4, 2) := by decide +kernel
theorem dX6_weighPiece_103 : decode cX6_weighPiece 103 = .ok (.invokevirtual 124, 3) := by decide +kernel
theorem dX6_weighPiece_106 : decode cX6_weighPiece 106 = .ok (.aload_n 0, 1) := by decide +kernel
theorem dX6_weighPiece_107 : decode cX6_weighPiece 107 = .ok (.getfield 15, 3) := by decide +kernel
theorem dX6_weighPiece_110 : decode cX6_weighPiece 110 = .ok (.imul, 1) := by decide +kernel
theorem dX6_weighPiece_111 : decode cX6_weighPiece 111 = .ok (.iadd, 1) := by decide +kernel
theorem dX6_weighPiece_112 : decode cX6_weighPiece 112 = .ok (.aload_n 0, 1) := by decide +kernel
theorem dX6_weighPiece_113 : decode cX6_weighPiece 113 = .ok (.getfield 28, 3) := by decide +kernel
theorem dX6_weighPiece_116 : decode cX6_weighPiece 116 = .ok (.iload 7, 2) := by decide +kernel
theorem dX6_weighPiece_118 : decode cX6_weighPiece 118 = .ok (.iaload, 1) := by decide +kernel
theorem dX6_weighPiece_119 : decode cX6_weighPiece 119 = .ok (.invokestatic 128, 3) := by decide +kernel
theorem dX6_weighPiece_122 : decode cX6_weighPiece 122 = .ok (.iload 4, 2) := by decide +kernel
theorem dX6_weighPiece_124 : decode cX6_weighPiece 124 = .ok (.iconst 1, 1) := by decide +kernel
theorem dX6_weighPiece_125 : decode cX6_weighPiece 125 = .ok (.iadd, 1) := by decide +kernel
theorem dX6_weighPiece_126 : decode cX6_weighPiece 126 = .ok (.aload_n 3, 1) := by decide +kernel
theorem dX6_weighPiece_127 : decode cX6_weighPiece 127 = .ok (.getfield 116, 3) := by decide +kernel
theorem dX6_weighPiece_130 : decode cX6_weighPiece 130 = .ok (.if_icmp .ge 34, 3) := by decide +kernel
theorem dX6_weighPiece_133 : decode cX6_weighPiece 133 = .ok (.aload_n 0, 1) := by decide +kernel
theorem dX6_weighPiece_134 : decode cX6_weighPiece 134 = .ok (.getfield 31, 3) := by decide +kernel
theorem dX6_weighPiece_137 : decode cX6_weighPiece 137 = .ok (.aload_n 0, 1) := by decide +kernel
theorem dX6_weighPiece_138 : decode cX6_weighPiece 138 = .ok (.getfield 34, 3) := by decide +kernel
theorem dX6_weighPiece_141 : decode cX6_weighPiece 141 = .ok (.iload 5, 2) := by decide +kernel
theorem dX6_weighPiece_143 : decode cX6_weighPiece 143 = .ok (.aload_n 0, 1) := by decide +kernel
theorem dX6_weighPiece_144 : decode cX6_weighPiece 144 = .ok (.getfield 31, 3) := by decide +kernel
theorem dX6_weighPiece_147 : decode cX6_weighPiece 147 = .ok (.iload 5, 2) := by decide +kernel
theorem dX6_weighPiece_149 : decode cX6_weighPiece 149 = .ok (.iconst 1, 1) := by decide +kernel
theorem dX6_weighPiece_150 : decode cX6_weighPiece 150 = .ok (.iadd, 1) := by decide +kernel
theorem dX6_weighPiece_151 : decode cX6_weighPiece 151 = .ok (.iaload, 1) := by decide +kernel
theorem dX6_weighPiece_152 : decode cX6_weighPiece 152 = .ok (.aload_n 0, 1) := by decide +kernel
theorem dX6_weighPiece_153 : decode cX6_weighPiece 153 = .ok (.getfield 34, 3) := by decide +kernel
theorem dX6_weighPiece_156 : decode cX6_weighPiece 156 = .ok (.iload 5, 2) := by decide +kernel
theorem dX6_weighPiece_158 : decode cX6_weighPiece 158 = .ok (.iconst 1, 1) := by decide +kernel
theorem dX6_weighPiece_159 : decode cX6_weighPiece 159 = .ok (.iadd, 1) := by decide +kernel
theorem dX6_weighPiece_160 : decode cX6_weighPiece 160 = .ok (.iaload, 1) := by decide +kernel
theorem dX6_weighPiece_161 : decode cX6_weighPiece 161 = .ok (.invokestatic 128, 3) := by decide +kernel
theorem dX6_weighPiece_164 : decode cX6_weighPiece 164 = .ok (.aload_n 0, 1) := by decide +kernel
theorem dX6_weighPiece_165 : decode cX6_weighPiece 165 = .ok (.getfield 31, 3) := by decide +kernel
theorem dX6_weighPiece_168 : decode cX6_weighPiece 168 = .ok (.iload 5, 2) := by decide +kernel
theorem dX6_weighPiece_170 : decode cX6_weighPiece 170 = .ok (.iaload, 1) := by decide +kernel
theorem dX6_weighPiece_171 : decode cX6_weighPiece 171 = .ok (.aload_n 3, 1) := by decide +kernel
theorem dX6_weighPiece_172 : decode cX6_weighPiece 172 = .ok (.iload 4, 2) := by decide +kernel
theorem dX6_weighPiece_174 : decode cX6_weighPiece 174 = .ok (.invokevirtual 132, 3) := by decide +kernel
theorem dX6_weighPiece_177 : decode cX6_weighPiece 177 = .ok (.aload_n 0, 1) := by decide +kernel
theorem dX6_weighPiece_178 : decode cX6_weighPiece 178 = .ok (.getfield 15, 3) := by decide +kernel
theorem dX6_weighPiece_181 : decode cX6_weighPiece 181 = .ok (.imul, 1) := by decide +kernel
theorem dX6_weighPiece_182 : decode cX6_weighPiece 182 = .ok (.iadd, 1) := by decide +kernel
theorem dX6_weighPiece_183 : decode cX6_weighPiece 183 = .ok (.istore 8, 2) := by decide +kernel
theorem dX6_weighPiece_185 : decode cX6_weighPiece 185 = .ok (.aload_n 0, 1) := by decide +kernel
theorem dX6_weighPiece_186 : decode cX6_weighPiece 186 = .ok (.getfield 37, 3) := by decide +kernel
theorem dX6_weighPiece_189 : decode cX6_weighPiece 189 = .ok (.aload_n 0, 1) := by decide +kernel
theorem dX6_weighPiece_190 : decode cX6_weighPiece 190 = .ok (.getfield 40, 3) := by decide +kernel
theorem dX6_weighPiece_193 : decode cX6_weighPiece 193 = .ok (.iload 6, 2) := by decide +kernel
theorem dX6_weighPiece_195 : decode cX6_weighPiece 195 = .ok (.iload 8, 2) := by decide +kernel
theorem dX6_weighPiece_197 : decode cX6_weighPiece 197 = .ok (.aload_n 0, 1) := by decide +kernel
theorem dX6_weighPiece_198 : decode cX6_weighPiece 198 = .ok (.getfield 34, 3) := by decide +kernel
theorem dX6_weighPiece_201 : decode cX6_weighPiece 201 = .ok (.iload 5, 2) := by decide +kernel
theorem dX6_weighPiece_203 : decode cX6_weighPiece 203 = .ok (.iaload, 1) := by decide +kernel
theorem dX6_weighPiece_204 : decode cX6_weighPiece 204 = .ok (.invokestatic 128, 3) := by decide +kernel
theorem dX6_weighPiece_207 : decode cX6_weighPiece 207 = .ok (.iinc 4 1, 3) := by decide +kernel
theorem dX6_weighPiece_210 : decode cX6_weighPiece 210 = .ok (.goto (-197), 3) := by decide +kernel
theorem dX6_weighPiece_213 : decode cX6_weighPiece 213 = .ok (.return_, 1) := by decide +kernel
theorem dX6_carryUp_0 : decode cX6_carryUp 0 = .ok (.iconst 0, 1) := by decide +kernel
theorem dX6_carryUp_1 : decode cX6_carryUp 1 = .ok (.istore_n 2, 1) := by decide +kernel
theorem dX6_carryUp_2 : decode cX6_carryUp 2 = .ok (.iload_n 2, 1) := by decide +kernel
theorem dX6_carryUp_3 : decode cX6_carryUp 3 = .ok (.aload_n 0, 1) := by decide +kernel
theorem dX6_carryUp_4 : decode cX6_carryUp 4 = .ok (.getfield 87, 3) := by decide +kernel
theorem dX6_carryUp_7 : decode cX6_carryUp 7 = .ok (.if_icmp .ge 95, 3) := by decide +kernel
theorem dX6_carryUp_10 : decode cX6_carryUp 10 = .ok (.aload_n 0, 1) := by decide +kernel
theorem dX6_carryUp_11 : decode cX6_carryUp 11 = .ok (.getfield 19, 3) := by decide +kernel
theorem dX6_carryUp_14 : decode cX6_carryUp 14 = .ok (.iload_n 2, 1) := by decide +kernel
theorem dX6_carryUp_15 : decode cX6_carryUp 15 = .ok (.iaload, 1) := by decide +kernel
theorem dX6_carryUp_16 : decode cX6_carryUp 16 = .ok (.istore_n 3, 1) := by decide +kernel
theorem dX6_carryUp_17 : decode cX6_carryUp 17 = .ok (.aload_n 0, 1) := by decide +kernel
theorem dX6_carryUp_18 : decode cX6_carryUp 18 = .ok (.getfield 25, 3) := by decide +kernel
theorem dX6_carryUp_21 : decode cX6_carryUp 21 = .ok (.iload_n 1, 1) := by decide +kernel
theorem dX6_carryUp_22 : decode cX6_carryUp 22 = .ok (.iload_n 3, 1) := by decide +kernel
theorem dX6_carryUp_23 : decode cX6_carryUp 23 = .ok (.iadd, 1) := by decide +kernel
theorem dX6_carryUp_24 : decode cX6_carryUp 24 = .ok (.aload_n 0, 1) := by decide +kernel
theorem dX6_carryUp_25 : decode cX6_carryUp 25 = .ok (.getfield 37, 3) := by decide +kernel
theorem dX6_carryUp_28 : decode cX6_carryUp 28 = .ok (.iload_n 3, 1) := by decide +kernel
theorem dX6_carryUp_29 : decode cX6_carryUp 29 = .ok (.iaload, 1) := by decide +kernel
theorem dX6_carryUp_30 : decode cX6_carryUp 30 = .ok (.iastore, 1) := by decide +kernel
theorem dX6_carryUp_31 : decode cX6_carryUp 31 = .ok (.aload_n 0, 1) := by decide +kernel
theorem dX6_carryUp_32 : decode cX6_carryUp 32 = .ok (.getfield 28, 3) := by decide +kernel
theorem dX6_carryUp_35 : decode cX6_carryUp 35 = .ok (.iload_n 1, 1) := by decide +kernel
theorem dX6_carryUp_36 : decode cX6_carryUp 36 = .ok (.iload_n 3, 1) := by decide +kernel
theorem dX6_carryUp_37 : decode cX6_carryUp 37 = .ok (.iadd, 1) := by decide +kernel
theorem dX6_carryUp_38 : decode cX6_carryUp 38 = .ok (.aload_n 0, 1) := by decide +kernel
theorem dX6_carryUp_39 : decode cX6_carryUp 39 = .ok (.getfield 40, 3) := by decide +kernel
theorem dX6_carryUp_42 : decode cX6_carryUp 42 = .ok (.iload_n 3, 1) := by decide +kernel
theorem dX6_carryUp_43 : decode cX6_carryUp 43 = .ok (.iaload, 1) := by decide +kernel
theorem dX6_carryUp_44 : decode cX6_carryUp 44 = .ok (.iastore, 1) := by decide +kernel
theorem dX6_carryUp_45 : decode cX6_carryUp 45 = .ok (.iload_n 2, 1) := by decide +kernel
theorem dX6_carryUp_46 : decode cX6_carryUp 46 = .ok (.ifCond .le 50, 3) := by decide +kernel
theorem dX6_carryUp_49 : decode cX6_carryUp 49 = .ok (.aload_n 0, 1) := by decide +kernel
theorem dX6_carryUp_50 : decode cX6_carryUp 50 = .ok (.getfield 19, 3) := by decide +kernel
theorem dX6_carryUp_53 : decode cX6_carryUp 53 = .ok (.iload_n 2, 1) := by decide +kernel
theorem dX6_carryUp_54 : decode cX6_carryUp 54 = .ok (.iconst 1, 1) := by decide +kernel
theorem dX6_carryUp_55 : decode cX6_carryUp 55 = .ok (.isub, 1) := by decide +kernel
theorem dX6_carryUp_56 : decode cX6_carryUp 56 = .ok (.iaload, 1) := by decide +kernel
theorem dX6_carryUp_57 : decode cX6_carryUp 57 = .ok (.istore 4, 2) := by decide +kernel
theorem dX6_carryUp_59 : decode cX6_carryUp 59 = .ok (.aload_n 0, 1) := by decide +kernel
theorem dX6_carryUp_60 : decode cX6_carryUp 60 = .ok (.getfield 25, 3) := by decide +kernel
theorem dX6_carryUp_63 : decode cX6_carryUp 63 = .ok (.aload_n 0, 1) := by decide +kernel
theorem dX6_carryUp_64 : decode cX6_carryUp 64 = .ok (.getfield 28, 3) := by decide +kernel
theorem dX6_carryUp_67 : decode cX6_carryUp 67 = .ok (.iload_n 1, 1) := by decide +kernel
theorem dX6_carryUp_68 : decode cX6_carryUp 68 = .ok (.iload_n 3, 1) := by decide +kernel
theorem dX6_carryUp_69 : decode cX6_carryUp 69 = .ok (.iadd, 1) := by decide +kernel
theorem dX6_carryUp_70 : decode cX6_carryUp 70 = .ok (.aload_n 0, 1) := by decide +kernel
theorem dX6_carryUp_71 : decode cX6_carryUp 71 = .ok (.getfield 25, 3) := by decide +kernel
theorem dX6_carryUp_74 : decode cX6_carryUp 74 = .ok (.iload_n 1, 1) := by decide +kernel
theorem dX6_carryUp_75 : decode cX6_carryUp 75 = .ok (.iload 4, 2) := by decide +kernel
theorem dX6_carryUp_77 : decode cX6_carryUp 77 = .ok (.iadd, 1) := by decide +kernel
theorem dX6_carryUp_78 : decode cX6_carryUp 78 = .ok (.iaload, 1) := by decide +kernel
theorem dX6_carryUp_79 : decode cX6_carryUp 79 = .ok (.iload_n 3, 1) := by decide +kernel
theorem dX6_carryUp_80 : decode cX6_carryUp 80 = .ok (.iadd, 1) := by decide +kernel
theorem dX6_carryUp_81 : decode cX6_carryUp 81 = .ok (.iload 4, 2) := by decide +kernel
theorem dX6_carryUp_83 : decode cX6_carryUp 83 = .ok (.isub, 1) := by decide +kernel
theorem dX6_carryUp_84 : decode cX6_carryUp 84 = .ok (.aload_n 0, 1) := by decide +kernel
theorem dX6_carryUp_85 : decode cX6_carryUp 85 = .ok (.getfield 28, 3) := by decide +kernel
theorem dX6_carryUp_88 : decode cX6_carryUp 88 = .ok (.iload_n 1, 1) := by decide +kernel
theorem dX6_carryUp_89 : decode cX6_carryUp 89 = .ok (.iload 4, 2) := by decide +kernel
theorem dX6_carryUp_91 : decode cX6_carryUp 91 = .ok (.iadd, 1) := by decide +kernel
theorem dX6_carryUp_92 : decode cX6_carryUp 92 = .ok (.iaload, 1) := by decide +kernel
theorem dX6_carryUp_93 : decode cX6_carryUp 93 = .ok (.invokestatic 128, 3) := by decide +kernel
theorem dX6_carryUp_96 : decode cX6_carryUp 96 = .ok (.iinc 2 1, 3) := by decide +kernel
theorem dX6_carryUp_99 : decode cX6_carryUp 99 = .ok (.goto (-97), 3) := by decide +kernel
theorem dX6_carryUp_102 : decode cX6_carryUp 102 = .ok (.return_, 1) := by decide +kernel
theorem dX6_carryDown_0 : decode cX6_carryDown 0 = .ok (.aload_n 0, 1) := by decide +kernel
theorem dX6_carryDown_1 : decode cX6_carryDown 1 = .ok (.getfield 87, 3) := by decide +kernel
theorem dX6_carryDown_4 : decode cX6_carryDown 4 = .ok (.iconst 2, 1) := by decide +kernel
theorem dX6_carryDown_5 : decode cX6_carryDown 5 = .ok (.isub, 1) := by decide +kernel
theorem dX6_carryDown_6 : decode cX6_carryDown 6 = .ok (.istore_n 2, 1) := by decide +kernel
theorem dX6_carryDown_7 : decode cX6_carryDown 7 = .ok (.iload_n 2, 1) := by decide +kernel
theorem dX6_carryDown_8 : decode cX6_carryDown 8 = .ok (.ifCond .lt 84, 3) := by decide +kernel
theorem dX6_carryDown_11 : decode cX6_carryDown 11 = .ok (.aload_n 0, 1) := by decide +kernel
theorem dX6_carryDown_12 : decode cX6_carryDown 12 = .ok (.getfield 19, 3) := by decide +kernel
theorem dX6_carryDown_15 : decode cX6_carryDown 15 = .ok (.iload_n 2, 1) := by decide +kernel
theorem dX6_carryDown_16 : decode cX6_carryDown 16 = .ok (.iaload, 1) := by decide +kernel
theorem dX6_carryDown_17 : decode cX6_carryDown 17 = .ok (.istore_n 3, 1) := by decide +kernel
theorem dX6_carryDown_18 : decode cX6_carryDown 18 = .ok (.aload_n 0, 1) := by decide +kernel
theorem dX6_carryDown_19 : decode cX6_carryDown 19 = .ok (.getfield 19, 3) := by decide +kernel
theorem dX6_carryDown_22 : decode cX6_carryDown 22 = .ok (.iload_n 2, 1) := by decide +kernel
theorem dX6_carryDown_23 : decode cX6_carryDown 23 = .ok (.iconst 1, 1) := by decide +kernel
theorem dX6_carryDown_24 : decode cX6_carryDown 24 = .ok (.iadd, 1) := by decide +kernel
theorem dX6_carryDown_25 : decode cX6_carryDown 25 = .ok (.iaload, 1) := by decide +kernel
theorem dX6_carryDown_26 : decode cX6_carryDown 26 = .ok (.istore 4, 2) := by decide +kernel
theorem dX6_carryDown_28 : decode cX6_carryDown 28 = .ok (.aload_n 0, 1) := by decide +kernel
theorem dX6_carryDown_29 : decode cX6_carryDown 29 = .ok (.getfield 37, 3) := by decide +kernel
theorem dX6_carryDown_32 : decode cX6_carryDown 32 = .ok (.iload 4, 2) := by decide +kernel
theorem dX6_carryDown_34 : decode cX6_carryDown 34 = .ok (.iaload, 1) := by decide +kernel
theorem dX6_carryDown_35 : decode cX6_carryDown 35 = .ok (.iload 4, 2) := by decide +kernel
theorem dX6_carryDown_37 : decode cX6_carryDown 37 = .ok (.iadd, 1) := by decide +kernel
theorem dX6_carryDown_38 : decode cX6_carryDown 38 = .ok (.iload_n 3, 1) := by decide +kernel
theorem dX6_carryDown_39 : decode cX6_carryDown 39 = .ok (.isub, 1) := by decide +kernel
theorem dX6_carryDown_40 : decode cX6_carryDown 40 = .ok (.istore 5, 2) := by decide +kernel
theorem dX6_carryDown_42 : decode cX6_carryDown 42 = .ok (.aload_n 0, 1) := by decide +kernel
theorem dX6_carryDown_43 : decode cX6_carryDown 43 = .ok (.getfield 25, 3) := by decide +kernel
theorem dX6_carryDown_46 : decode cX6_carryDown 46 = .ok (.aload_n 0, 1) := by decide +kernel
theorem dX6_carryDown_47 : decode cX6_carryDown 47 = .ok (.getfield 28, 3) := by decide +kernel
theorem dX6_carryDown_50 : decode cX6_carryDown 50 = .ok (.iload_n 1, 1) := by decide +kernel
theorem dX6_carryDown_51 : decode cX6_carryDown 51 = .ok (.iload_n 3, 1) := by decide +kernel
theorem dX6_carryDown_52 : decode cX6_carryDown 52 = .ok (.iadd, 1) := by decide +kernel
theorem dX6_carryDown_53 : decode cX6_carryDown 53 = .ok (.iload 5, 2) := by decide +kernel
theorem dX6_carryDown_55 : decode cX6_carryDown 55 = .ok (.aload_n 0, 1) := by decide +kernel
theorem dX6_carryDown_56 : decode cX6_carryDown 56 = .ok (.getfield 40, 3) := by decide +kernel
theorem dX6_carryDown_59 : decode cX6_carryDown 59 = .ok (.iload 4, 2) := by decide +kernel
theorem dX6_carryDown_61 : decode cX6_carryDown 61 = .ok (.iaload, 1) := by decide +kernel
theorem dX6_carryDown_62 : decode cX6_carryDown 62 = .ok (.invokestatic 128, 3) := by decide +kernel
theorem dX6_carryDown_65 : decode cX6_carryDown 65 = .ok (.aload_n 0, 1) := by decide +kernel
theorem dX6_carryDown_66 : decode cX6_carryDown 66 = .ok (.getfield 37, 3) := by decide +kernel
theorem dX6_carryDown_69 : decode cX6_carryDown 69 = .ok (.aload_n 0, 1) := by decide +kernel
theorem dX6_carryDown_70 : decode cX6_carryDown 70 = .ok (.getfield 40, 3) := by decide +kernel
theorem dX6_carryDown_73 : decode cX6_carryDown 73 = .ok (.iload_n 3, 1) := by decide +kernel
theorem dX6_carryDown_74 : decode cX6_carryDown 74 = .ok (.iload 5, 2) := by decide +kernel
theorem dX6_carryDown_76 : decode cX6_carryDown 76 = .ok (.aload_n 0, 1) := by decide +kernel
theorem dX6_carryDown_77 : decode cX6_carryDown 77 = .ok (.getfield 40, 3) := by decide +kernel
theorem dX6_carryDown_80 : decode cX6_carryDown 80 = .ok (.iload 4, 2) := by decide +kernel
theorem dX6_carryDown_82 : decode cX6_carryDown 82 = .ok (.iaload, 1) := by decide +kernel
theorem dX6_carryDown_83 : decode cX6_carryDown 83 = .ok (.invokestatic 128, 3) := by decide +kernel
theorem dX6_carryDown_86 : decode cX6_carryDown 86 = .ok (.iinc 2 (-1), 3) := by decide +kernel
theorem dX6_carryDown_89 : decode cX6_carryDown 89 = .ok (.goto (-82), 3) := by decide +kernel
theorem dX6_carryDown_92 : decode cX6_carryDown 92 = .ok (.return_, 1) := by decide +kernel
theorem dX6_sumUp_0 : decode cX6_sumUp 0 = .ok (.aload_n 0, 1) := by decide +kernel
theorem dX6_sumUp_1 : decode cX6_sumUp 1 = .ok (.ldc 53, 2) := by decide +kernel
theorem dX6_sumUp_3 : decode cX6_sumUp 3 = .ok (.putfield 50, 3) := by decide +kernel
theorem dX6_sumUp_6 : decode cX6_sumUp 6 = .ok (.aload_n 0, 1) := by decide +kernel
theorem dX6_sumUp_7 : decode cX6_sumUp 7 = .ok (.iconst 0, 1) := by decide +kernel
theorem dX6_sumUp_8 : decode cX6_sumUp 8 = .ok (.putfield 135, 3) := by decide +kernel
theorem dX6_sumUp_11 : decode cX6_sumUp 11 = .ok (.iconst 0, 1) := by decide +kernel
theorem dX6_sumUp_12 : decode cX6_sumUp 12 = .ok (.istore_n 1, 1) := by decide +kernel
theorem dX6_sumUp_13 : decode cX6_sumUp 13 = .ok (.iload_n 1, 1) := by decide +kernel
theorem dX6_sumUp_14 : decode cX6_sumUp 14 = .ok (.aload_n 0, 1) := by decide +kernel
theorem dX6_sumUp_15 : decode cX6_sumUp 15 = .ok (.getfield 87, 3) := by decide +kernel
theorem dX6_sumUp_18 : decode cX6_sumUp 18 = .ok (.if_icmp .ge 83, 3) := by decide +kernel
theorem dX6_sumUp_21 : decode cX6_sumUp 21 = .ok (.aload_n 0, 1) := by decide +kernel
theorem dX6_sumUp_22 : decode cX6_sumUp 22 = .ok (.getfield 19, 3) := by decide +kernel
theorem dX6_sumUp_25 : decode cX6_sumUp 25 = .ok (.iload_n 1, 1) := by decide +kernel
theorem dX6_sumUp_26 : decode cX6_sumUp 26 = .ok (.iaload, 1) := by decide +kernel
theorem dX6_sumUp_27 : decode cX6_sumUp 27 = .ok (.istore_n 2, 1) := by decide +kernel
theorem dX6_sumUp_28 : decode cX6_sumUp 28 = .ok (.aload_n 0, 1) := by decide +kernel
theorem dX6_sumUp_29 : decode cX6_sumUp 29 = .ok (.getfield 37, 3) := by decide +kernel
theorem dX6_sumUp_32 : decode cX6_sumUp 32 = .ok (.iload_n 2, 1) := by decide +kernel
theorem dX6_sumUp_33 : decode cX6_sumUp 33 = .ok (.iaload, 1) := by decide +kernel
theorem dX6_sumUp_34 : decode cX6_sumUp 34 = .ok (.aload_n 0, 1) := by decide +kernel
theorem dX6_sumUp_35 : decode cX6_sumUp 35 = .ok (.getfield 50, 3) := by decide +kernel
theorem dX6_sumUp_38 : decode cX6_sumUp 38 = .ok (.if_icmp .ge 26, 3) := by decide +kernel
theorem dX6_sumUp_41 : decode cX6_sumUp 41 = .ok (.aload_n 0, 1) := by decide +kernel
theorem dX6_sumUp_42 : decode cX6_sumUp 42 = .ok (.aload_n 0, 1) := by decide +kernel
theorem dX6_sumUp_43 : decode cX6_sumUp 43 = .ok (.getfield 37, 3) := by decide +kernel
theorem dX6_sumUp_46 : decode cX6_sumUp 46 = .ok (.iload_n 2, 1) := by decide +kernel
theorem dX6_sumUp_47 : decode cX6_sumUp 47 = .ok (.iaload, 1) := by decide +kernel
theorem dX6_sumUp_48 : decode cX6_sumUp 48 = .ok (.putfield 50, 3) := by decide +kernel
theorem dX6_sumUp_51 : decode cX6_sumUp 51 = .ok (.aload_n 0, 1) := by decide +kernel
theorem dX6_sumUp_52 : decode cX6_sumUp 52 = .ok (.aload_n 0, 1) := by decide +kernel
theorem dX6_sumUp_53 : decode cX6_sumUp 53 = .ok (.getfield 40, 3) := by decide +kernel
theorem dX6_sumUp_56 : decode cX6_sumUp 56 = .ok (.iload_n 2, 1) := by decide +kernel
theorem dX6_sumUp_57 : decode cX6_sumUp 57 = .ok (.iaload, 1) := by decide +kernel
theorem dX6_sumUp_58 : decode cX6_sumUp 58 = .ok (.putfield 135, 3) := by decide +kernel
theorem dX6_sumUp_61 : decode cX6_sumUp 61 = .ok (.goto 34, 3) := by decide +kernel
theorem dX6_sumUp_64 : decode cX6_sumUp 64 = .ok (.aload_n 0, 1) := by decide +kernel
theorem dX6_sumUp_65 : decode cX6_sumUp 65 = .ok (.getfield 37, 3) := by decide +kernel
theorem dX6_sumUp_68 : decode cX6_sumUp 68 = .ok (.iload_n 2, 1) := by decide +kernel
theorem dX6_sumUp_69 : decode cX6_sumUp 69 = .ok (.iaload, 1) := by decide +kernel
theorem dX6_sumUp_70 : decode cX6_sumUp 70 = .ok (.aload_n 0, 1) := by decide +kernel
theorem dX6_sumUp_71 : decode cX6_sumUp 71 = .ok (.getfield 50, 3) := by decide +kernel
theorem dX6_sumUp_74 : decode cX6_sumUp 74 = .ok (.if_icmp .ne 21, 3) := by decide +kernel
theorem dX6_sumUp_77 : decode cX6_sumUp 77 = .ok (.aload_n 0, 1) := by decide +kernel
theorem dX6_sumUp_78 : decode cX6_sumUp 78 = .ok (.aload_n 0, 1) := by decide +kernel
theorem dX6_sumUp_79 : decode cX6_sumUp 79 = .ok (.getfield 135, 3) := by decide +kernel
theorem dX6_sumUp_82 : decode cX6_sumUp 82 = .ok (.aload_n 0, 1) := by decide +kernel
theorem dX6_sumUp_83 : decode cX6_sumUp 83 = .ok (.getfield 40, 3) := by decide +kernel
theorem dX6_sumUp_86 : decode cX6_sumUp 86 = .ok (.iload_n 2, 1) := by decide +kernel
theorem dX6_sumUp_87 : decode cX6_sumUp 87 = .ok (.iaload, 1) := by decide +kernel
theorem dX6_sumUp_88 : decode cX6_sumUp 88 = .ok (.iadd, 1) := by decide +kernel
theorem dX6_sumUp_89 : decode cX6_sumUp 89 = .ok (.ldc 138, 2) := by decide +kernel
theorem dX6_sumUp_91 : decode cX6_sumUp 91 = .ok (.irem, 1) := by decide +kernel
theorem dX6_sumUp_92 : decode cX6_sumUp 92 = .ok (.putfield 135, 3) := by decide +kernel
theorem dX6_sumUp_95 : decode cX6_sumUp 95 = .ok (.iinc 1 1, 3) := by decide +kernel
theorem dX6_sumUp_98 : decode cX6_sumUp 98 = .ok (.goto (-85), 3) := by decide +kernel
theorem dX6_sumUp_101 : decode cX6_sumUp 101 = .ok (.return_, 1) := by decide +kernel
theorem dX6_offer_0 : decode cX6_offer 0 = .ok (.iload_n 3, 1) := by decide +kernel
theorem dX6_offer_1 : decode cX6_offer 1 = .ok (.ldc 53, 2) := by decide +kernel
theorem dX6_offer_3 : decode cX6_offer 3 = .ok (.if_icmp .lt 4, 3) := by decide +kernel
theorem dX6_offer_6 : decode cX6_offer 6 = .ok (.return_, 1) := by decide +kernel
theorem dX6_offer_7 : decode cX6_offer 7 = .ok (.iload_n 3, 1) := by decide +kernel
theorem dX6_offer_8 : decode cX6_offer 8 = .ok (.aload_n 0, 1) := by decide +kernel
theorem dX6_offer_9 : decode cX6_offer 9 = .ok (.iload_n 2, 1) := by decide +kernel
theorem dX6_offer_10 : decode cX6_offer 10 = .ok (.iaload, 1) := by decide +kernel
theorem dX6_offer_11 : decode cX6_offer 11 = .ok (.if_icmp .ge 15, 3) := by decide +kernel
theorem dX6_offer_14 : decode cX6_offer 14 = .ok (.aload_n 0, 1) := by decide +kernel
theorem dX6_offer_15 : decode cX6_offer 15 = .ok (.iload_n 2, 1) := by decide +kernel
theorem dX6_offer_16 : decode cX6_offer 16 = .ok (.iload_n 3, 1) := by decide +kernel
theorem dX6_offer_17 : decode cX6_offer 17 = .ok (.iastore, 1) := by decide +kernel
theorem dX6_offer_18 : decode cX6_offer 18 = .ok (.aload_n 1, 1) := by decide +kernel
theorem dX6_offer_19 : decode cX6_offer 19 = .ok (.iload_n 2, 1) := by decide +kernel
theorem dX6_offer_20 : decode cX6_offer 20 = .ok (.iload 4, 2) := by decide +kernel
theorem dX6_offer_22 : decode cX6_offer 22 = .ok (.iastore, 1) := by decide +kernel
theorem dX6_offer_23 : decode cX6_offer 23 = .ok (.goto 22, 3) := by decide +kernel
theorem dX6_offer_26 : decode cX6_offer 26 = .ok (.iload_n 3, 1) := by decide +kernel
theorem dX6_offer_27 : decode cX6_offer 27 = .ok (.aload_n 0, 1) := by decide +kernel
theorem dX6_offer_28 : decode cX6_offer 28 = .ok (.iload_n 2, 1) := by decide +kernel
theorem dX6_offer_29 : decode cX6_offer 29 = .ok (.iaload, 1) := by decide +kernel
theorem dX6_offer_30 : decode cX6_offer 30 = .ok (.if_icmp .ne 15, 3) := by decide +kernel
theorem dX6_offer_33 : decode cX6_offer 33 = .ok (.aload_n 1, 1) := by decide +kernel
theorem dX6_offer_34 : decode cX6_offer 34 = .ok (.iload_n 2, 1) := by decide +kernel
theorem dX6_offer_35 : decode cX6_offer 35 = .ok (.aload_n 1, 1) := by decide +kernel
theorem dX6_offer_36 : decode cX6_offer 36 = .ok (.iload_n 2, 1) := by decide +kernel
theorem dX6_offer_37 : decode cX6_offer 37 = .ok (.iaload, 1) := by decide +kernel
theorem dX6_offer_38 : decode cX6_offer 38 = .ok (.iload 4, 2) := by decide +kernel
theorem dX6_offer_40 : decode cX6_offer 40 = .ok (.iadd, 1) := by decide +kernel
theorem dX6_offer_41 : decode cX6_offer 41 = .ok (.ldc 138, 2) := by decide +kernel
theorem dX6_offer_43 : decode cX6_offer 43 = .ok (.irem, 1) := by decide +kernel
theorem dX6_offer_44 : decode cX6_offer 44 = .ok (.iastore, 1) := by decide +kernel
theorem dX6_offer_45 : decode cX6_offer 45 = .ok (.return_, 1) := by decide +kernel
theorem dX6_findFirst_0 : decode cX6_findFirst 0 = .ok (.aload_n 0, 1) := by decide +kernel
theorem dX6_findFirst_1 : decode cX6_findFirst 1 = .ok (.iconst 0, 1) := by decide +kernel
theorem dX6_findFirst_2 : decode cX6_findFirst 2 = .ok (.putfield 139, 3) := by decide +kernel
theorem dX6_findFirst_5 : decode cX6_findFirst 5 = .ok (.aload_n 0, 1) := by decide +kernel
theorem dX6_findFirst_6 : decode cX6_findFirst 6 = .ok (.getfield 50, 3) := by decide +kernel
theorem dX6_findFirst_9 : decode cX6_findFirst 9 = .ok (.ldc 53, 2) := by decide +kernel
theorem dX6_findFirst_11 : decode cX6_findFirst 11 = .ok (.if_icmp .lt 4, 3) := by decide +kernel
theorem dX6_findFirst_14 : decode cX6_findFirst 14 = .ok (.return_, 1) := by decide +kernel
theorem dX6_findFirst_15 : decode cX6_findFirst 15 = .ok (.iconst 0, 1) := by decide +kernel
theorem dX6_findFirst_16 : decode cX6_findFirst 16 = .ok (.istore_n 1, 1) := by decide +kernel
theorem dX6_findFirst_17 : decode cX6_findFirst 17 = .ok (.iconst (-1), 1) := by decide +kernel
theorem dX6_findFirst_18 : decode cX6_findFirst 18 = .ok (.istore_n 2, 1) := by decide +kernel
theorem dX6_findFirst_19 : decode cX6_findFirst 19 = .ok (.aload_n 0, 1) := by decide +kernel
theorem dX6_findFirst_20 : decode cX6_findFirst 20 = .ok (.getfield 50, 3) := by decide +kernel
theorem dX6_findFirst_23 : decode cX6_findFirst 23 = .ok (.istore_n 3, 1) := by decide +kernel
theorem dX6_findFirst_24 : decode cX6_findFirst 24 = .ok (.iload_n 1, 1) := by decide +kernel
theorem dX6_findFirst_25 : decode cX6_findFirst 25 = .ok (.aload_n 0, 1) := by decide +kernel
theorem dX6_findFirst_26 : decode cX6_findFirst 26 = .ok (.getfield 75, 3) := by decide +kernel
theorem dX6_findFirst_29 : decode cX6_findFirst 29 = .ok (.if_icmp .ge 106, 3) := by decide +kernel
theorem dX6_findFirst_32 : decode cX6_findFirst 32 = .ok (.aload_n 0, 1) := by decide +kernel
theorem dX6_findFirst_33 : decode cX6_findFirst 33 = .ok (.getfield 139, 3) := by decide +kernel
theorem dX6_findFirst_36 : decode cX6_findFirst 36 = .ok (.bipush 16, 2) := by decide +kernel
theorem dX6_findFirst_38 : decode cX6_findFirst 38 = .ok (.if_icmp .ge 97, 3) := by decide +kernel
theorem dX6_findFirst_41 : decode cX6_findFirst 41 = .ok (.aload_n 0, 1) := by decide +kernel
theorem dX6_findFirst_42 : decode cX6_findFirst 42 = .ok (.iload_n 1, 1) := by decide +kernel
theorem dX6_findFirst_43 : decode cX6_findFirst 43 = .ok (.iload_n 2, 1) := by decide +kernel
theorem dX6_findFirst_44 : decode cX6_findFirst 44 = .ok (.iload_n 3, 1) := by decide +kernel
theorem dX6_findFirst_45 : decode cX6_findFirst 45 = .ok (.invokevirtual 142, 3) := by decide +kernel
theorem dX6_findFirst_48 : decode cX6_findFirst 48 = .ok (.istore 4, 2) := by decide +kernel
theorem dX6_findFirst_50 : decode cX6_findFirst 50 = .ok (.iload 4, 2) := by decide +kernel
theorem dX6_findFirst_52 : decode cX6_findFirst 52 = .ok (.iconst (-1), 1) := by decide +kernel
theorem dX6_findFirst_53 : decode cX6_findFirst 53 = .ok (.if_icmp .ne 4, 3) := by decide +kernel
theorem dX6_findFirst_56 : decode cX6_findFirst 56 = .ok (.return_, 1) := by decide +kernel
theorem dX6_findFirst_57 : decode cX6_findFirst 57 = .ok (.aload_n 0, 1) := by decide +kernel
theorem dX6_findFirst_58 : decode cX6_findFirst 58 = .ok (.getfield 43, 3) := by decide +kernel
theorem dX6_findFirst_61 : decode cX6_findFirst 61 = .ok (.aload_n 0, 1) := by decide +kernel
theorem dX6_findFirst_62 : decode cX6_findFirst 62 = .ok (.getfield 139, 3) := by decide +kernel
theorem dX6_findFirst_65 : decode cX6_findFirst 65 = .ok (.iload 4, 2) := by decide +kernel
theorem dX6_findFirst_67 : decode cX6_findFirst 67 = .ok (.iastore, 1) := by decide +kernel
theorem dX6_findFirst_68 : decode cX6_findFirst 68 = .ok (.aload_n 0, 1) := by decide +kernel
theorem dX6_findFirst_69 : decode cX6_findFirst 69 = .ok (.dup, 1) := by decide +kernel
theorem dX6_findFirst_70 : decode cX6_findFirst 70 = .ok (.getfield 139, 3) := by decide +kernel
theorem dX6_findFirst_73 : decode cX6_findFirst 73 = .ok (.iconst 1, 1) := by decide +kernel
theorem dX6_findFirst_74 : decode cX6_findFirst 74 = .ok (.iadd, 1) := by decide +kernel
theorem dX6_findFirst_75 : decode cX6_findFirst 75 = .ok (.putfield 139, 3) := by decide +kernel
theorem dX6_findFirst_78 : decode cX6_findFirst 78 = .ok (.iload 4, 2) := by decide +kernel
theorem dX6_findFirst_80 : decode cX6_findFirst 80 = .ok (.bipush 15, 2) := by decide +kernel
theorem dX6_findFirst_82 : decode cX6_findFirst 82 = .ok (.iand, 1) := by decide +kernel
theorem dX6_findFirst_83 : decode cX6_findFirst 83 = .ok (.istore 5, 2) := by decide +kernel
theorem dX6_findFirst_85 : decode cX6_findFirst 85 = .ok (.aload_n 0, 1) := by decide +kernel
theorem dX6_findFirst_86 : decode cX6_findFirst 86 = .ok (.getfield 46, 3) := by decide +kernel
theorem dX6_findFirst_89 : decode cX6_findFirst 89 = .ok (.getfield 95, 3) := by decide +kernel
theorem dX6_findFirst_92 : decode cX6_findFirst 92 = .ok (.iload 4, 2) := by decide +kernel
theorem dX6_findFirst_94 : decode cX6_findFirst 94 = .ok (.bipush 8, 2) := by decide +kernel
theorem dX6_findFirst_96 : decode cX6_findFirst 96 = .ok (.iushr, 1) := by decide +kernel
theorem dX6_findFirst_97 : decode cX6_findFirst 97 = .ok (.aaload, 1) := by decide +kernel
theorem dX6_findFirst_98 : decode cX6_findFirst 98 = .ok (.getfield 117, 3) := by decide +kernel
theorem dX6_findFirst_101 : decode cX6_findFirst 101 = .ok (.iload 4, 2) := by decide +kernel
theorem dX6_findFirst_103 : decode cX6_findFirst 103 = .ok (.iconst 4, 1) := by decide +kernel
theorem dX6_findFirst_104 : decode cX6_findFirst 104 = .ok (.iushr, 1) := by decide +kernel
theorem dX6_findFirst_105 : decode cX6_findFirst 105 = .ok (.bipush 15, 2) := by decide +kernel
theorem dX6_findFirst_107 : decode cX6_findFirst 107 = .ok (.iand, 1) := by decide +kernel
theorem dX6_findFirst_108 : decode cX6_findFirst 108 = .ok (.iload 5, 2) := by decide +kernel
theorem dX6_findFirst_110 : decode cX6_findFirst 110 = .ok (.iadd, 1) := by decide +kernel
theorem dX6_findFirst_111 : decode cX6_findFirst 111 = .ok (.iconst 1, 1) := by decide +kernel
theorem dX6_findFirst_112 : decode cX6_findFirst 112 = .ok (.isub, 1) := by decide +kernel
theorem dX6_findFirst_113 : decode cX6_findFirst 113 = .ok (.iaload, 1) := by decide +kernel
theorem dX6_findFirst_114 : decode cX6_findFirst 114 = .ok (.istore_n 2, 1) := by decide +kernel
theorem dX6_findFirst_115 : decode cX6_findFirst 115 = .ok (.iload_n 1, 1) := by decide +kernel
theorem dX6_findFirst_116 : decode cX6_findFirst 116 = .ok (.iload 5, 2) := by decide +kernel
theorem dX6_findFirst_118 : decode cX6_findFirst 118 = .ok (.iadd, 1) := by decide +kernel
theorem dX6_findFirst_119 : decode cX6_findFirst 119 = .ok (.istore_n 1, 1) := by decide +kernel
theorem dX6_findFirst_120 : decode cX6_findFirst 120 = .ok (.aload_n 0, 1) := by decide +kernel
theorem dX6_findFirst_121 : decode cX6_findFirst 121 = .ok (.getfield 25, 3) := by decide +kernel
theorem dX6_findFirst_124 : decode cX6_findFirst 124 = .ok (.iload_n 1, 1) := by decide +kernel
theorem dX6_findFirst_125 : decode cX6_findFirst 125 = .ok (.bipush 100, 2) := by decide +kernel
theorem dX6_findFirst_127 : decode cX6_findFirst 127 = .ok (.imul, 1) := by decide +kernel
theorem dX6_findFirst_128 : decode cX6_findFirst 128 = .ok (.iload_n 2, 1) := by decide +kernel
theorem dX6_findFirst_129 : decode cX6_findFirst 129 = .ok (.iadd, 1) := by decide +kernel
theorem dX6_findFirst_130 : decode cX6_findFirst 130 = .ok (.iaload, 1) := by decide +kernel
theorem dX6_findFirst_131 : decode cX6_findFirst 131 = .ok (.istore_n 3, 1) := by decide +kernel
theorem dX6_findFirst_132 : decode cX6_findFirst 132 = .ok (.goto (-108), 3) := by decide +kernel
theorem dX6_findFirst_135 : decode cX6_findFirst 135 = .ok (.return_, 1) := by decide +kernel
theorem dX6_firstBit_0 : decode cX6_firstBit 0 = .ok (.iconst 0, 1) := by decide +kernel
theorem dX6_firstBit_1 : decode cX6_firstBit 1 = .ok (.istore 4, 2) := by decide +kernel
theorem dX6_firstBit_3 : decode cX6_firstBit 3 = .ok (.iload 4, 2) := by decide +kernel
theorem dX6_firstBit_5 : decode cX6_firstBit 5 = .ok (.aload_n 0, 1) := by decide +kernel
theorem dX6_firstBit_6 : decode cX6_firstBit 6 = .ok (.getfield 46, 3) := by decide +kernel
theorem dX6_firstBit_9 : decode cX6_firstBit 9 = .ok (.getfield 90, 3) := by decide +kernel
theorem dX6_firstBit_12 : decode cX6_firstBit 12 = .ok (.if_icmp .ge 125, 3) := by decide +kernel
theorem dX6_firstBit_15 : decode cX6_firstBit 15 = .ok (.aload_n 0, 1) := by decide +kernel
theorem dX6_firstBit_16 : decode cX6_firstBit 16 = .ok (.getfield 46, 3) := by decide +kernel
theorem dX6_firstBit_19 : decode cX6_firstBit 19 = .ok (.getfield 95, 3) := by decide +kernel
theorem dX6_firstBit_22 : decode cX6_firstBit 22 = .ok (.iload 4, 2) := by decide +kernel
theorem dX6_firstBit_24 : decode cX6_firstBit 24 = .ok (.aaload, 1) := by decide +kernel
theorem dX6_firstBit_25 : decode cX6_firstBit 25 = .ok (.astore 5, 2) := by decide +kernel
theorem dX6_firstBit_27 : decode cX6_firstBit 27 = .ok (.iconst 0, 1) := by decide +kernel
theorem dX6_firstBit_28 : decode cX6_firstBit 28 = .ok (.istore 6, 2) := by decide +kernel
theorem dX6_firstBit_30 : decode cX6_firstBit 30 = .ok (.iload 6, 2) := by decide +kernel
theorem dX6_firstBit_32 : decode cX6_firstBit 32 = .ok (.aload 5, 2) := by decide +kernel
theorem dX6_firstBit_34 : decode cX6_firstBit 34 = .ok (.getfield 116, 3) := by decide +kernel
theorem dX6_firstBit_37 : decode cX6_firstBit 37 = .ok (.if_icmp .ge 94, 3) := by decide +kernel
theorem dX6_firstBit_40 : decode cX6_firstBit 40 = .ok (.aload 5, 2) := by decide +kernel
theorem dX6_firstBit_42 : decode cX6_firstBit 42 = .ok (.getfield 99, 3) := by decide +kernel
theorem dX6_firstBit_45 : decode cX6_firstBit 45 = .ok (.aload_n 0, 1) := by decide +kernel
theorem dX6_firstBit_46 : decode cX6_firstBit 46 = .ok (.getfield 72, 3) := by decide +kernel
theorem dX6_firstBit_49 : decode cX6_firstBit 49 = .ok (.if_icmp .ne 82, 3) := by decide +kernel
theorem dX6_firstBit_52 : decode cX6_firstBit 52 = .ok (.aload 5, 2) := by decide +kernel
theorem dX6_firstBit_54 : decode cX6_firstBit 54 = .ok (.iload 6, 2) := by decide +kernel
theorem dX6_firstBit_56 : decode cX6_firstBit 56 = .ok (.invokevirtual 132, 3) := by decide +kernel
theorem dX6_firstBit_59 : decode cX6_firstBit 59 = .ok (.aload_n 0, 1) := by decide +kernel
theorem dX6_firstBit_60 : decode cX6_firstBit 60 = .ok (.getfield 15, 3) := by decide +kernel
theorem dX6_firstBit_63 : decode cX6_firstBit 63 = .ok (.imul, 1) := by decide +kernel
theorem dX6_firstBit_64 : decode cX6_firstBit 64 = .ok (.istore 7, 2) := by decide +kernel
theorem dX6_firstBit_66 : decode cX6_firstBit 66 = .ok (.iload_n 2, 1) := by decide +kernel
theorem dX6_firstBit_67 : decode cX6_firstBit 67 = .ok (.iconst (-1), 1) := by decide +kernel
theorem dX6_firstBit_68 : decode cX6_firstBit 68 = .ok (.if_icmp .eq 21, 3) := by decide +kernel
theorem dX6_firstBit_71 : decode cX6_firstBit 71 = .ok (.iload 7, 2) := by decide +kernel
theorem dX6_firstBit_73 : decode cX6_firstBit 73 = .ok (.iload_n 2, 1) := by decide +kernel
theorem dX6_firstBit_74 : decode cX6_firstBit 74 = .ok (.aload 5, 2) := by decide +kernel
theorem dX6_firstBit_76 : decode cX6_firstBit 76 = .ok (.getfield 117, 3) := by decide +kernel
theorem dX6_firstBit_79 : decode cX6_firstBit 79 = .ok (.iload 6, 2) := by decide +kernel
theorem dX6_firstBit_81 : decode cX6_firstBit 81 = .ok (.iaload, 1) := by decide +kernel
theorem dX6_firstBit_82 : decode cX6_firstBit 82 = .ok (.isub, 1) := by decide +kernel
theorem dX6_firstBit_83 : decode cX6_firstBit 83 = .ok (.invokestatic 146, 3) := by decide +kernel
theorem dX6_firstBit_86 : decode cX6_firstBit 86 = .ok (.iadd, 1) := by decide +kernel
theorem dX6_firstBit_87 : decode cX6_firstBit 87 = .ok (.istore 7, 2) := by decide +kernel
theorem dX6_firstBit_89 : decode cX6_firstBit 89 = .ok (.aload_n 0, 1) := by decide +kernel
theorem dX6_firstBit_90 : decode cX6_firstBit 90 = .ok (.aload 5, 2) := by decide +kernel
theorem dX6_firstBit_92 : decode cX6_firstBit 92 = .ok (.iload 6, 2) := by decide +kernel
theorem dX6_firstBit_94 : decode cX6_firstBit 94 = .ok (.iload_n 1, 1) := by decide +kernel
theorem dX6_firstBit_95 : decode cX6_firstBit 95 = .ok (.iload_n 3, 1) := by decide +kernel
theorem dX6_firstBit_96 : decode cX6_firstBit 96 = .ok (.iload 7, 2) := by decide +kernel
theorem dX6_firstBit_98 : decode cX6_firstBit 98 = .ok (.isub, 1) := by decide +kernel
theorem dX6_firstBit_99 : decode cX6_firstBit 99 = .ok (.invokevirtual 151, 3) := by decide +kernel
theorem dX6_firstBit_102 : decode cX6_firstBit 102 = .ok (.istore 8, 2) := by decide +kernel
theorem dX6_firstBit_104 : decode cX6_firstBit 104 = .ok (.iload 8, 2) := by decide +kernel
theorem dX6_firstBit_106 : decode cX6_firstBit 106 = .ok (.ifCond .le 19, 3) := by decide +kernel
theorem dX6_firstBit_109 : decode cX6_firstBit 109 = .ok (.sipush 256, 3) := by decide +kernel
theorem dX6_firstBit_112 : decode cX6_firstBit 112 = .ok (.iload 4, 2) := by decide +kernel
theorem dX6_firstBit_114 : decode cX6_firstBit 114 = .ok (.imul, 1) := by decide +kernel
theorem dX6_firstBit_115 : decode cX6_firstBit 115 = .ok (.bipush 16, 2) := by decide +kernel
theorem dX6_firstBit_117 : decode cX6_firstBit 117 = .ok (.iload 6, 2) := by decide +kernel
theorem dX6_firstBit_119 : decode cX6_firstBit 119 = .ok (.imul, 1) := by decide +kernel
theorem dX6_firstBit_120 : decode cX6_firstBit 120 = .ok (.iadd, 1) := by decide +kernel
theorem dX6_firstBit_121 : decode cX6_firstBit 121 = .ok (.iload 8, 2) := by decide +kernel
theorem dX6_firstBit_123 : decode cX6_firstBit 123 = .ok (.iadd, 1) := by decide +kernel
theorem dX6_firstBit_124 : decode cX6_firstBit 124 = .ok (.ireturn, 1) := by decide +kernel
theorem dX6_firstBit_125 : decode cX6_firstBit 125 = .ok (.iinc 6 1, 3) := by decide +kernel
theorem dX6_firstBit_128 : decode cX6_firstBit 128 = .ok (.goto (-98), 3) := by decide +kernel
theorem dX6_firstBit_131 : decode cX6_firstBit 131 = .ok (.iinc 4 1, 3) := by decide +kernel
theorem dX6_firstBit_134 : decode cX6_firstBit 134 = .ok (.goto (-131), 3) := by decide +kernel
theorem dX6_firstBit_137 : decode cX6_firstBit 137 = .ok (.iconst (-1), 1) := by decide +kernel
theorem dX6_firstBit_138 : decode cX6_firstBit 138 = .ok (.ireturn, 1) := by decide +kernel
theorem dX6_fewest_0 : decode cX6_fewest 0 = .ok (.iconst 0, 1) := by decide +kernel
theorem dX6_fewest_1 : decode cX6_fewest 1 = .ok (.istore 5, 2) := by decide +kernel
theorem dX6_fewest_3 : decode cX6_fewest 3 = .ok (.iload_n 2, 1) := by decide +kernel
theorem dX6_fewest_4 : decode cX6_fewest 4 = .ok (.iload 5, 2) := by decide +kernel
theorem dX6_fewest_6 : decode cX6_fewest 6 = .ok (.iadd, 1) := by decide +kernel
theorem dX6_fewest_7 : decode cX6_fewest 7 = .ok (.aload_n 1, 1) := by decide +kernel
theorem dX6_fewest_8 : decode cX6_fewest 8 = .ok (.getfield 116, 3) := by decide +kernel
theorem dX6_fewest_11 : decode cX6_fewest 11 = .ok (.if_icmp .ge 94, 3) := by decide +kernel
theorem dX6_fewest_14 : decode cX6_fewest 14 = .ok (.iload_n 3, 1) := by decide +kernel
theorem dX6_fewest_15 : decode cX6_fewest 15 = .ok (.iload 5, 2) := by decide +kernel
theorem dX6_fewest_17 : decode cX6_fewest 17 = .ok (.iadd, 1) := by decide +kernel
theorem dX6_fewest_18 : decode cX6_fewest 18 = .ok (.aload_n 0, 1) := by decide +kernel
theorem dX6_fewest_19 : decode cX6_fewest 19 = .ok (.getfield 75, 3) := by decide +kernel
theorem dX6_fewest_22 : decode cX6_fewest 22 = .ok (.if_icmp .ge 83, 3) := by decide +kernel
theorem dX6_fewest_25 : decode cX6_fewest 25 = .ok (.iload_n 2, 1) := by decide +kernel
theorem dX6_fewest_26 : decode cX6_fewest 26 = .ok (.iload 5, 2) := by decide +kernel
theorem dX6_fewest_28 : decode cX6_fewest 28 = .ok (.iadd, 1) := by decide +kernel
theorem dX6_fewest_29 : decode cX6_fewest 29 = .ok (.istore 6, 2) := by decide +kernel
theorem dX6_fewest_31 : decode cX6_fewest 31 = .ok (.aload_n 1, 1) := by decide +kernel
theorem dX6_fewest_32 : decode cX6_fewest 32 = .ok (.iload 6, 2) := by decide +kernel
theorem dX6_fewest_34 : decode cX6_fewest 34 = .ok (.aload_n 0, 1) := by decide +kernel
theorem dX6_fewest_35 : decode cX6_fewest 35 = .ok (.getfield 9, 3) := by decide +kernel
theorem dX6_fewest_38 : decode cX6_fewest 38 = .ok (.iload_n 3, 1) := by decide +kernel
theorem dX6_fewest_39 : decode cX6_fewest 39 = .ok (.iload 5, 2) := by decide +kernel
theorem dX6_fewest_41 : decode cX6_fewest 41 = .ok (.iadd, 1) := by decide +kernel
theorem dX6_fewest_42 : decode cX6_fewest 42 = .ok (.iaload, 1) := by decide +kernel
theorem dX6_fewest_43 : decode cX6_fewest 43 = .ok (.invokevirtual 120, 3) := by decide +kernel
theorem dX6_fewest_46 : decode cX6_fewest 46 = .ok (.ifCond .ne 5, 3) := by decide +kernel
theorem dX6_fewest_49 : decode cX6_fewest 49 = .ok (.iconst 0, 1) := by decide +kernel
theorem dX6_fewest_50 : decode cX6_fewest 50 = .ok (.ireturn, 1) := by decide +kernel
theorem dX6_fewest_51 : decode cX6_fewest 51 = .ok (.iload_n 3, 1) := by decide +kernel
theorem dX6_fewest_52 : decode cX6_fewest 52 = .ok (.iload 5, 2) := by decide +kernel
theorem dX6_fewest_54 : decode cX6_fewest 54 = .ok (.iadd, 1) := by decide +kernel
theorem dX6_fewest_55 : decode cX6_fewest 55 = .ok (.iconst 1, 1) := by decide +kernel
theorem dX6_fewest_56 : decode cX6_fewest 56 = .ok (.iadd, 1) := by decide +kernel
theorem dX6_fewest_57 : decode cX6_fewest 57 = .ok (.bipush 100, 2) := by decide +kernel
theorem dX6_fewest_59 : decode cX6_fewest 59 = .ok (.imul, 1) := by decide +kernel
theorem dX6_fewest_60 : decode cX6_fewest 60 = .ok (.aload_n 1, 1) := by decide +kernel
theorem dX6_fewest_61 : decode cX6_fewest 61 = .ok (.getfield 117, 3) := by decide +kernel
theorem dX6_fewest_64 : decode cX6_fewest 64 = .ok (.iload 6, 2) := by decide +kernel
theorem dX6_fewest_66 : decode cX6_fewest 66 = .ok (.iaload, 1) := by decide +kernel
theorem dX6_fewest_67 : decode cX6_fewest 67 = .ok (.iadd, 1) := by decide +kernel
theorem dX6_fewest_68 : decode cX6_fewest 68 = .ok (.istore 7, 2) := by decide +kernel
theorem dX6_fewest_70 : decode cX6_fewest 70 = .ok (.aload_n 0, 1) := by decide +kernel
theorem dX6_fewest_71 : decode cX6_fewest 71 = .ok (.getfield 25, 3) := by decide +kernel
theorem dX6_fewest_74 : decode cX6_fewest 74 = .ok (.iload 7, 2) := by decide +kernel
theorem dX6_fewest_76 : decode cX6_fewest 76 = .ok (.iaload, 1) := by decide +kernel
theorem dX6_fewest_77 : decode cX6_fewest 77 = .ok (.aload_n 1, 1) := by decide +kernel
theorem dX6_fewest_78 : decode cX6_fewest 78 = .ok (.iload 6, 2) := by decide +kernel
theorem dX6_fewest_80 : decode cX6_fewest 80 = .ok (.invokevirtual 124, 3) := by decide +kernel
theorem dX6_fewest_83 : decode cX6_fewest 83 = .ok (.aload_n 0, 1) := by decide +kernel
theorem dX6_fewest_84 : decode cX6_fewest 84 = .ok (.getfield 15, 3) := by decide +kernel
theorem dX6_fewest_87 : decode cX6_fewest 87 = .ok (.imul, 1) := by decide +kernel
theorem dX6_fewest_88 : decode cX6_fewest 88 = .ok (.iadd, 1) := by decide +kernel
theorem dX6_fewest_89 : decode cX6_fewest 89 = .ok (.iload 4, 2) := by decide +kernel
theorem dX6_fewest_91 : decode cX6_fewest 91 = .ok (.if_icmp .ne 8, 3) := by decide +kernel
theorem dX6_fewest_94 : decode cX6_fewest 94 = .ok (.iload 5, 2) := by decide +kernel
theorem dX6_fewest_96 : decode cX6_fewest 96 = .ok (.iconst 1, 1) := by decide +kernel
theorem dX6_fewest_97 : decode cX6_fewest 97 = .ok (.iadd, 1) := by decide +kernel
theorem dX6_fewest_98 : decode cX6_fewest 98 = .ok (.ireturn, 1) := by decide +kernel
theorem dX6_fewest_99 : decode cX6_fewest 99 = .ok (.iinc 5 1, 3) := by decide +kernel
theorem dX6_fewest_102 : decode cX6_fewest 102 = .ok (.goto (-99), 3) := by decide +kernel
theorem dX6_fewest_105 : decode cX6_fewest 105 = .ok (.iconst 0, 1) := by decide +kernel
theorem dX6_fewest_106 : decode cX6_fewest 106 = .ok (.ireturn, 1) := by decide +kernel
theorem dX7_init_0 : decode cX7_init 0 = .ok (.aload_n 0, 1) := by decide +kernel
theorem dX7_init_1 : decode cX7_init 1 = .ok (.invokespecial 3, 3) := by decide +kernel
theorem dX7_init_4 : decode cX7_init 4 = .ok (.aload_n 0, 1) := by decide +kernel
theorem dX7_init_5 : decode cX7_init 5 = .ok (.bipush 6, 2) := by decide +kernel
theorem dX7_init_7 : decode cX7_init 7 = .ok (.newarray .int, 2) := by decide +kernel
theorem dX7_init_9 : decode cX7_init 9 = .ok (.putfield 9, 3) := by decide +kernel
theorem dX7_init_12 : decode cX7_init 12 = .ok (.aload_n 0, 1) := by decide +kernel
theorem dX7_init_13 : decode cX7_init 13 = .ok (.bipush 6, 2) := by decide +kernel
theorem dX7_init_15 : decode cX7_init 15 = .ok (.newarray .int, 2) := by decide +kernel
theorem dX7_init_17 : decode cX7_init 17 = .ok (.putfield 15, 3) := by decide +kernel
theorem dX7_init_20 : decode cX7_init 20 = .ok (.aload_n 0, 1) := by decide +kernel
theorem dX7_init_21 : decode cX7_init 21 = .ok (.bipush 6, 2) := by decide +kernel
theorem dX7_init_23 : decode cX7_init 23 = .ok (.newarray .int, 2) := by decide +kernel
theorem dX7_init_25 : decode cX7_init 25 = .ok (.putfield 18, 3) := by decide +kernel
theorem dX7_init_28 : decode cX7_init 28 = .ok (.aload_n 0, 1) := by decide +kernel
theorem dX7_init_29 : decode cX7_init 29 = .ok (.bipush 6, 2) := by decide +kernel
theorem dX7_init_31 : decode cX7_init 31 = .ok (.newarray .int, 2) := by decide +kernel
theorem dX7_init_33 : decode cX7_init 33 = .ok (.putfield 21, 3) := by decide +kernel
theorem dX7_init_36 : decode cX7_init 36 = .ok (.aload_n 0, 1) := by decide +kernel
theorem dX7_init_37 : decode cX7_init 37 = .ok (.bipush 24, 2) := by decide +kernel
theorem dX7_init_39 : decode cX7_init 39 = .ok (.anewarray 24, 3) := by decide +kernel
theorem dX7_init_42 : decode cX7_init 42 = .ok (.putfield 26, 3) := by decide +kernel
theorem dX7_init_45 : decode cX7_init 45 = .ok (.aload_n 0, 1) := by decide +kernel
theorem dX7_init_46 : decode cX7_init 46 = .ok (.aload_n 1, 1) := by decide +kernel
theorem dX7_init_47 : decode cX7_init 47 = .ok (.putfield 30, 3) := by decide +kernel
theorem dX7_init_50 : decode cX7_init 50 = .ok (.aload_n 0, 1) := by decide +kernel
theorem dX7_init_51 : decode cX7_init 51 = .ok (.aload_n 2, 1) := by decide +kernel
theorem dX7_init_52 : decode cX7_init 52 = .ok (.putfield 34, 3) := by decide +kernel
theorem dX7_init_55 : decode cX7_init 55 = .ok (.iconst 0, 1) := by decide +kernel
theorem dX7_init_56 : decode cX7_init 56 = .ok (.istore_n 3, 1) := by decide +kernel
theorem dX7_init_57 : decode cX7_init 57 = .ok (.iload_n 3, 1) := by decide +kernel
theorem dX7_init_58 : decode cX7_init 58 = .ok (.bipush 6, 2) := by decide +kernel
theorem dX7_init_60 : decode cX7_init 60 = .ok (.if_icmp .ge 25, 3) := by decide +kernel
theorem dX7_init_63 : decode cX7_init 63 = .ok (.aload_n 0, 1) := by decide +kernel
theorem dX7_init_64 : decode cX7_init 64 = .ok (.getfield 18, 3) := by decide +kernel
theorem dX7_init_67 : decode cX7_init 67 = .ok (.iload_n 3, 1) := by decide +kernel
theorem dX7_init_68 : decode cX7_init 68 = .ok (.iconst 1, 1) := by decide +kernel
theorem dX7_init_69 : decode cX7_init 69 = .ok (.iload_n 3, 1) := by decide +kernel
theorem dX7_init_70 : decode cX7_init 70 = .ok (.ishl, 1) := by decide +kernel
theorem dX7_init_71 : decode cX7_init 71 = .ok (.iastore, 1) := by decide +kernel
theorem dX7_init_72 : decode cX7_init 72 = .ok (.aload_n 0, 1) := by decide +kernel
theorem dX7_init_73 : decode cX7_init 73 = .ok (.getfield 21, 3) := by decide +kernel
theorem dX7_init_76 : decode cX7_init 76 = .ok (.iload_n 3, 1) := by decide +kernel
theorem dX7_init_77 : decode cX7_init 77 = .ok (.iconst (-1), 1) := by decide +kernel
theorem dX7_init_78 : decode cX7_init 78 = .ok (.iastore, 1) := by decide +kernel
theorem dX7_init_79 : decode cX7_init 79 = .ok (.iinc 3 1, 3) := by decide +kernel
theorem dX7_init_82 : decode cX7_init 82 = .ok (.goto (-25), 3) := by decide +kernel
theorem dX7_init_85 : decode cX7_init 85 = .ok (.return_, 1) := by decide +kernel
theorem dX7_join_0 : decode cX7_join 0 = .ok (.aload_n 0, 1) := by decide +kernel
theorem dX7_join_1 : decode cX7_join 1 = .ok (.getfield 18, 3) := by decide +kernel
theorem dX7_join_4 : decode cX7_join 4 = .ok (.iload_n 1, 1) := by decide +kernel
theorem dX7_join_5 : decode cX7_join 5 = .ok (.dup2, 1) := by decide +kernel
theorem dX7_join_6 : decode cX7_join 6 = .ok (.iaload, 1) := by decide +kernel
theorem dX7_join_7 : decode cX7_join 7 = .ok (.iconst 1, 1) := by decide +kernel
theorem dX7_join_8 : decode cX7_join 8 = .ok (.iload_n 2, 1) := by decide +kernel
theorem dX7_join_9 : decode cX7_join 9 = .ok (.ishl, 1) := by decide +kernel
theorem dX7_join_10 : decode cX7_join 10 = .ok (.ior, 1) := by decide +kernel
theorem dX7_join_11 : decode cX7_join 11 = .ok (.iastore, 1) := by decide +kernel
theorem dX7_join_12 : decode cX7_join 12 = .ok (.aload_n 0, 1) := by decide +kernel
theorem dX7_join_13 : decode cX7_join 13 = .ok (.getfield 18, 3) := by decide +kernel
theorem dX7_join_16 : decode cX7_join 16 = .ok (.iload_n 2, 1) := by decide +kernel
theorem dX7_join_17 : decode cX7_join 17 = .ok (.dup2, 1) := by decide +kernel
theorem dX7_join_18 : decode cX7_join 18 = .ok (.iaload, 1) := by decide +kernel
theorem dX7_join_19 : decode cX7_join 19 = .ok (.iconst 1, 1) := by decide +kernel
theorem dX7_join_20 : decode cX7_join 20 = .ok (.iload_n 1, 1) := by decide +kernel
theorem dX7_join_21 : decode cX7_join 21 = .ok (.ishl, 1) := by decide +kernel
theorem dX7_join_22 : decode cX7_join 22 = .ok (.ior, 1) := by decide +kernel
theorem dX7_join_23 : decode cX7_join 23 = .ok (.iastore, 1) := by decide +kernel
theorem dX7_join_24 : decode cX7_join 24 = .ok (.return_, 1) := by decide +kernel
theorem dX7_part_0 : decode cX7_part 0 = .ok (.aload_n 0, 1) := by decide +kernel
theorem dX7_part_1 : decode cX7_part 1 = .ok (.getfield 18, 3) := by decide +kernel
theorem dX7_part_4 : decode cX7_part 4 = .ok (.iload_n 1, 1) := by decide +kernel
theorem dX7_part_5 : decode cX7_part 5 = .ok (.dup2, 1) := by decide +kernel
theorem dX7_part_6 : decode cX7_part 6 = .ok (.iaload, 1) := by decide +kernel
theorem dX7_part_7 : decode cX7_part 7 = .ok (.iconst 1, 1) := by decide +kernel
theorem dX7_part_8 : decode cX7_part 8 = .ok (.iload_n 2, 1) := by decide +kernel
theorem dX7_part_9 : decode cX7_part 9 = .ok (.ishl, 1) := by decide +kernel
theorem dX7_part_10 : decode cX7_part 10 = .ok (.iconst (-1), 1) := by decide +kernel
theorem dX7_part_11 : decode cX7_part 11 = .ok (.ixor, 1) := by decide +kernel
theorem dX7_part_12 : decode cX7_part 12 = .ok (.iand, 1) := by decide +kernel
theorem dX7_part_13 : decode cX7_part 13 = .ok (.iastore, 1) := by decide +kernel
theorem dX7_part_14 : decode cX7_part 14 = .ok (.aload_n 0, 1) := by decide +kernel
theorem dX7_part_15 : decode cX7_part 15 = .ok (.getfield 18, 3) := by decide +kernel
theorem dX7_part_18 : decode cX7_part 18 = .ok (.iload_n 2, 1) := by decide +kernel
theorem dX7_part_19 : decode cX7_part 19 = .ok (.dup2, 1) := by decide +kernel
theorem dX7_part_20 : decode cX7_part 20 = .ok (.iaload, 1) := by decide +kernel
theorem dX7_part_21 : decode cX7_part 21 = .ok (.iconst 1, 1) := by decide +kernel
theorem dX7_part_22 : decode cX7_part 22 = .ok (.iload_n 1, 1) := by decide +kernel
theorem dX7_part_23 : decode cX7_part 23 = .ok (.ishl, 1) := by decide +kernel
theorem dX7_part_24 : decode cX7_part 24 = .ok (.iconst (-1), 1) := by decide +kernel
theorem dX7_part_25 : decode cX7_part 25 = .ok (.ixor, 1) := by decide +kernel
theorem dX7_part_26 : decode cX7_part 26 = .ok (.iand, 1) := by decide +kernel
theorem dX7_part_27 : decode cX7_part 27 = .ok (.iastore, 1) := by decide +kernel
theorem dX7_part_28 : decode cX7_part 28 = .ok (.return_, 1) := by decide +kernel
theorem dX7_add_0 : decode cX7_add 0 = .ok (.aload_n 0, 1) := by decide +kernel
theorem dX7_add_1 : decode cX7_add 1 = .ok (.getfield 26, 3) := by decide +kernel
theorem dX7_add_4 : decode cX7_add 4 = .ok (.aload_n 0, 1) := by decide +kernel
theorem dX7_add_5 : decode cX7_add 5 = .ok (.getfield 38, 3) := by decide +kernel
theorem dX7_add_8 : decode cX7_add 8 = .ok (.aload_n 1, 1) := by decide +kernel
theorem dX7_add_9 : decode cX7_add 9 = .ok (.aastore, 1) := by decide +kernel
theorem dX7_add_10 : decode cX7_add 10 = .ok (.aload_n 0, 1) := by decide +kernel
theorem dX7_add_11 : decode cX7_add 11 = .ok (.dup, 1) := by decide +kernel
theorem dX7_add_12 : decode cX7_add 12 = .ok (.getfield 38, 3) := by decide +kernel
theorem dX7_add_15 : decode cX7_add 15 = .ok (.iconst 1, 1) := by decide +kernel
theorem dX7_add_16 : decode cX7_add 16 = .ok (.iadd, 1) := by decide +kernel
theorem dX7_add_17 : decode cX7_add 17 = .ok (.putfield 38, 3) := by decide +kernel
theorem dX7_add_20 : decode cX7_add 20 = .ok (.aload_n 0, 1) := by decide +kernel
theorem dX7_add_21 : decode cX7_add 21 = .ok (.getfield 38, 3) := by decide +kernel
theorem dX7_add_24 : decode cX7_add 24 = .ok (.iconst 1, 1) := by decide +kernel
theorem dX7_add_25 : decode cX7_add 25 = .ok (.isub, 1) := by decide +kernel
theorem dX7_add_26 : decode cX7_add 26 = .ok (.ireturn, 1) := by decide +kernel
theorem dX7_giveAll_0 : decode cX7_giveAll 0 = .ok (.iconst 0, 1) := by decide +kernel
theorem dX7_giveAll_1 : decode cX7_giveAll 1 = .ok (.istore_n 2, 1) := by decide +kernel
theorem dX7_giveAll_2 : decode cX7_giveAll 2 = .ok (.iconst 0, 1) := by decide +kernel
theorem dX7_giveAll_3 : decode cX7_giveAll 3 = .ok (.istore_n 3, 1) := by decide +kernel
theorem dX7_giveAll_4 : decode cX7_giveAll 4 = .ok (.iload_n 3, 1) := by decide +kernel
theorem dX7_giveAll_5 : decode cX7_giveAll 5 = .ok (.bipush 6, 2) := by decide +kernel
theorem dX7_giveAll_7 : decode cX7_giveAll 7 = .ok (.if_icmp .ge 51, 3) := by decide +kernel
theorem dX7_giveAll_10 : decode cX7_giveAll 10 = .ok (.aload_n 0, 1) := by decide +kernel
theorem dX7_giveAll_11 : decode cX7_giveAll 11 = .ok (.getfield 15, 3) := by decide +kernel
theorem dX7_giveAll_14 : decode cX7_giveAll 14 = .ok (.iload_n 3, 1) := by decide +kernel
theorem dX7_giveAll_15 : decode cX7_giveAll 15 = .ok (.iaload, 1) := by decide +kernel
theorem dX7_giveAll_16 : decode cX7_giveAll 16 = .ok (.ifCond .le 16, 3) := by decide +kernel
theorem dX7_giveAll_19 : decode cX7_giveAll 19 = .ok (.aload_n 0, 1) := by decide +kernel
theorem dX7_giveAll_20 : decode cX7_giveAll 20 = .ok (.getfield 15, 3) := by decide +kernel
theorem dX7_giveAll_23 : decode cX7_giveAll 23 = .ok (.iload_n 3, 1) := by decide +kernel
theorem dX7_giveAll_24 : decode cX7_giveAll 24 = .ok (.dup2, 1) := by decide +kernel
theorem dX7_giveAll_25 : decode cX7_giveAll 25 = .ok (.iaload, 1) := by decide +kernel
theorem dX7_giveAll_26 : decode cX7_giveAll 26 = .ok (.iconst 1, 1) := by decide +kernel
theorem dX7_giveAll_27 : decode cX7_giveAll 27 = .ok (.isub, 1) := by decide +kernel
theorem dX7_giveAll_28 : decode cX7_giveAll 28 = .ok (.iastore, 1) := by decide +kernel
theorem dX7_giveAll_29 : decode cX7_giveAll 29 = .ok (.goto 10, 3) := by decide +kernel
theorem dX7_giveAll_32 : decode cX7_giveAll 32 = .ok (.aload_n 0, 1) := by decide +kernel
theorem dX7_giveAll_33 : decode cX7_giveAll 33 = .ok (.getfield 9, 3) := by decide +kernel
theorem dX7_giveAll_36 : decode cX7_giveAll 36 = .ok (.iload_n 3, 1) := by decide +kernel
theorem dX7_giveAll_37 : decode cX7_giveAll 37 = .ok (.iload_n 1, 1) := by decide +kernel
theorem dX7_giveAll_38 : decode cX7_giveAll 38 = .ok (.iastore, 1) := by decide +kernel
theorem dX7_giveAll_39 : decode cX7_giveAll 39 = .ok (.aload_n 0, 1) := by decide +kernel
theorem dX7_giveAll_40 : decode cX7_giveAll 40 = .ok (.getfield 9, 3) := by decide +kernel
theorem dX7_giveAll_43 : decode cX7_giveAll 43 = .ok (.iload_n 3, 1) := by decide +kernel
theorem dX7_giveAll_44 : decode cX7_giveAll 44 = .ok (.iaload, 1) := by decide +kernel
theorem dX7_giveAll_45 : decode cX7_giveAll 45 = .ok (.iload_n 1, 1) := by decide +kernel
theorem dX7_giveAll_46 : decode cX7_giveAll 46 = .ok (.if_icmp .ne 6, 3) := by decide +kernel
theorem dX7_giveAll_49 : decode cX7_giveAll 49 = .ok (.iinc 2 1, 3) := by decide +kernel
theorem dX7_giveAll_52 : decode cX7_giveAll 52 = .ok (.iinc 3 1, 3) := by decide +kernel
theorem dX7_giveAll_55 : decode cX7_giveAll 55 = .ok (.goto (-51), 3) := by decide +kernel
theorem dX7_giveAll_58 : decode cX7_giveAll 58 = .ok (.iload_n 2, 1) := by decide +kernel
theorem dX7_giveAll_59 : decode cX7_giveAll 59 = .ok (.ireturn, 1) := by decide +kernel
theorem dX7_tick_0 : decode cX7_tick 0 = .ok (.aload_n 0, 1) := by decide +kernel
theorem dX7_tick_1 : decode cX7_tick 1 = .ok (.invokevirtual 42, 3) := by decide +kernel
theorem dX7_tick_4 : decode cX7_tick 4 = .ok (.iconst 0, 1) := by decide +kernel
theorem dX7_tick_5 : decode cX7_tick 5 = .ok (.istore_n 1, 1) := by decide +kernel
theorem dX7_tick_6 : decode cX7_tick 6 = .ok (.iload_n 1, 1) := by decide +kernel
theorem dX7_tick_7 : decode cX7_tick 7 = .ok (.aload_n 0, 1) := by decide +kernel
theorem dX7_tick_8 : decode cX7_tick 8 = .ok (.getfield 38, 3) := by decide +kernel
theorem dX7_tick_11 : decode cX7_tick 11 = .ok (.if_icmp .ge 55, 3) := by decide +kernel
theorem dX7_tick_14 : decode cX7_tick 14 = .ok (.aload_n 0, 1) := by decide +kernel
theorem dX7_tick_15 : decode cX7_tick 15 = .ok (.getfield 26, 3) := by decide +kernel
theorem dX7_tick_18 : decode cX7_tick 18 = .ok (.iload_n 1, 1) := by decide +kernel
theorem dX7_tick_19 : decode cX7_tick 19 = .ok (.aaload, 1) := by decide +kernel
theorem dX7_tick_20 : decode cX7_tick 20 = .ok (.getfield 45, 3) := by decide +kernel
theorem dX7_tick_23 : decode cX7_tick 23 = .ok (.ifCond .eq 37, 3) := by decide +kernel
theorem dX7_tick_26 : decode cX7_tick 26 = .ok (.aload_n 0, 1) := by decide +kernel
theorem dX7_tick_27 : decode cX7_tick 27 = .ok (.getfield 26, 3) := by decide +kernel
theorem dX7_tick_30 : decode cX7_tick 30 = .ok (.iload_n 1, 1) := by decide +kernel
theorem dX7_tick_31 : decode cX7_tick 31 = .ok (.aaload, 1) := by decide +kernel
theorem dX7_tick_32 : decode cX7_tick 32 = .ok (.aload_n 0, 1) := by decide +kernel
theorem dX7_tick_33 : decode cX7_tick 33 = .ok (.getfield 49, 3) := by decide +kernel
theorem dX7_tick_36 : decode cX7_tick 36 = .ok (.invokevirtual 52, 3) := by decide +kernel
theorem dX7_tick_39 : decode cX7_tick 39 = .ok (.ifCond .eq 21, 3) := by decide +kernel
theorem dX7_tick_42 : decode cX7_tick 42 = .ok (.aload_n 0, 1) := by decide +kernel
theorem dX7_tick_43 : decode cX7_tick 43 = .ok (.aload_n 0, 1) := by decide +kernel
theorem dX7_tick_44 : decode cX7_tick 44 = .ok (.getfield 26, 3) := by decide +kernel
theorem dX7_tick_47 : decode cX7_tick 47 = .ok (.iload_n 1, 1) := by decide +kernel
theorem dX7_tick_48 : decode cX7_tick 48 = .ok (.aaload, 1) := by decide +kernel
theorem dX7_tick_49 : decode cX7_tick 49 = .ok (.getfield 56, 3) := by decide +kernel
theorem dX7_tick_52 : decode cX7_tick 52 = .ok (.invokevirtual 59, 3) := by decide +kernel
theorem dX7_tick_55 : decode cX7_tick 55 = .ok (.aload_n 0, 1) := by decide +kernel
theorem dX7_tick_56 : decode cX7_tick 56 = .ok (.iload_n 1, 1) := by decide +kernel
theorem dX7_tick_57 : decode cX7_tick 57 = .ok (.invokevirtual 63, 3) := by decide +kernel
theorem dX7_tick_60 : decode cX7_tick 60 = .ok (.iinc 1 1, 3) := by decide +kernel
theorem dX7_tick_63 : decode cX7_tick 63 = .ok (.goto (-57), 3) := by decide +kernel
theorem dX7_tick_66 : decode cX7_tick 66 = .ok (.aload_n 0, 1) := by decide +kernel
theorem dX7_tick_67 : decode cX7_tick 67 = .ok (.invokevirtual 66, 3) := by decide +kernel
theorem dX7_tick_70 : decode cX7_tick 70 = .ok (.istore_n 1, 1) := by decide +kernel
theorem dX7_tick_71 : decode cX7_tick 71 = .ok (.iconst 0, 1) := by decide +kernel
theorem dX7_tick_72 : decode cX7_tick 72 = .ok (.istore_n 2, 1) := by decide +kernel
theorem dX7_tick_73 : decode cX7_tick 73 = .ok (.iload_n 2, 1) := by decide +kernel
theorem dX7_tick_74 : decode cX7_tick 74 = .ok (.aload_n 0, 1) := by decide +kernel
theorem dX7_tick_75 : decode cX7_tick 75 = .ok (.getfield 38, 3) := by decide +kernel
theorem dX7_tick_78 : decode cX7_tick 78 = .ok (.if_icmp .ge 61, 3) := by decide +kernel
theorem dX7_tick_81 : decode cX7_tick 81 = .ok (.aload_n 0, 1) := by decide +kernel
theorem dX7_tick_82 : decode cX7_tick 82 = .ok (.getfield 26, 3) := by decide +kernel
theorem dX7_tick_85 : decode cX7_tick 85 = .ok (.iload_n 2, 1) := by decide +kernel
theorem dX7_tick_86 : decode cX7_tick 86 = .ok (.aaload, 1) := by decide +kernel
theorem dX7_tick_87 : decode cX7_tick 87 = .ok (.getfield 45, 3) := by decide +kernel
theorem dX7_tick_90 : decode cX7_tick 90 = .ok (.ifCond .ne 43, 3) := by decide +kernel
theorem dX7_tick_93 : decode cX7_tick 93 = .ok (.aload_n 0, 1) := by decide +kernel
theorem dX7_tick_94 : decode cX7_tick 94 = .ok (.getfield 26, 3) := by decide +kernel
theorem dX7_tick_97 : decode cX7_tick 97 = .ok (.iload_n 2, 1) := by decide +kernel
theorem dX7_tick_98 : decode cX7_tick 98 = .ok (.aaload, 1) := by decide +kernel
theorem dX7_tick_99 : decode cX7_tick 99 = .ok (.aload_n 0, 1) := by decide +kernel
theorem dX7_tick_100 : decode cX7_tick 100 = .ok (.getfield 49, 3) := by decide +kernel
theorem dX7_tick_103 : decode cX7_tick 103 = .ok (.invokevirtual 52, 3) := by decide +kernel
theorem dX7_tick_106 : decode cX7_tick 106 = .ok (.ifCond .eq 27, 3) := by decide +kernel
theorem dX7_tick_109 : decode cX7_tick 109 = .ok (.aload_n 0, 1) := by decide +kernel
theorem dX7_tick_110 : decode cX7_tick 110 = .ok (.getfield 18, 3) := by decide +kernel
theorem dX7_tick_113 : decode cX7_tick 113 = .ok (.aload_n 0, 1) := by decide +kernel
theorem dX7_tick_114 : decode cX7_tick 114 = .ok (.getfield 26, 3) := by decide +kernel
theorem dX7_tick_117 : decode cX7_tick 117 = .ok (.iload_n 2, 1) := by decide +kernel
theorem dX7_tick_118 : decode cX7_tick 118 = .ok (.aaload, 1) := by decide +kernel
theorem dX7_tick_119 : decode cX7_tick 119 = .ok (.getfield 56, 3) := by decide +kernel
theorem dX7_tick_122 : decode cX7_tick 122 = .ok (.iaload, 1) := by decide +kernel
theorem dX7_tick_123 : decode cX7_tick 123 = .ok (.iload_n 1, 1) := by decide +kernel
theorem dX7_tick_124 : decode cX7_tick 124 = .ok (.iand, 1) := by decide +kernel
theorem dX7_tick_125 : decode cX7_tick 125 = .ok (.ifCond .ne 8, 3) := by decide +kernel
theorem dX7_tick_128 : decode cX7_tick 128 = .ok (.aload_n 0, 1) := by decide +kernel
theorem dX7_tick_129 : decode cX7_tick 129 = .ok (.iload_n 2, 1) := by decide +kernel
theorem dX7_tick_130 : decode cX7_tick 130 = .ok (.invokevirtual 63, 3) := by decide +kernel
theorem dX7_tick_133 : decode cX7_tick 133 = .ok (.iinc 2 1, 3) := by decide +kernel
theorem dX7_tick_136 : decode cX7_tick 136 = .ok (.goto (-63), 3) := by decide +kernel
theorem dX7_tick_139 : decode cX7_tick 139 = .ok (.aload_n 0, 1) := by decide +kernel
theorem dX7_tick_140 : decode cX7_tick 140 = .ok (.invokevirtual 70, 3) := by decide +kernel
theorem dX7_tick_143 : decode cX7_tick 143 = .ok (.aload_n 0, 1) := by decide +kernel
theorem dX7_tick_144 : decode cX7_tick 144 = .ok (.dup, 1) := by decide +kernel
theorem dX7_tick_145 : decode cX7_tick 145 = .ok (.getfield 49, 3) := by decide +kernel
theorem dX7_tick_148 : decode cX7_tick 148 = .ok (.iconst 1, 1) := by decide +kernel
theorem dX7_tick_149 : decode cX7_tick 149 = .ok (.iadd, 1) := by decide +kernel
theorem dX7_tick_150 : decode cX7_tick 150 = .ok (.putfield 49, 3) := by decide +kernel
theorem dX7_tick_153 : decode cX7_tick 153 = .ok (.return_, 1) := by decide +kernel
theorem dX7_growStale_0 : decode cX7_growStale 0 = .ok (.iconst 0, 1) := by decide +kernel
theorem dX7_growStale_1 : decode cX7_growStale 1 = .ok (.istore_n 1, 1) := by decide +kernel
theorem dX7_growStale_2 : decode cX7_growStale 2 = .ok (.iload_n 1, 1) := by decide +kernel
theorem dX7_growStale_3 : decode cX7_growStale 3 = .ok (.aload_n 0, 1) := by decide +kernel
theorem dX7_growStale_4 : decode cX7_growStale 4 = .ok (.getfield 38, 3) := by decide +kernel
theorem dX7_growStale_7 : decode cX7_growStale 7 = .ok (.if_icmp .ge 47, 3) := by decide +kernel
theorem dX7_growStale_10 : decode cX7_growStale 10 = .ok (.aload_n 0, 1) := by decide +kernel
theorem dX7_growStale_11 : decode cX7_growStale 11 = .ok (.getfield 26, 3) := by decide +kernel
theorem dX7_growStale_14 : decode cX7_growStale 14 = .ok (.iload_n 1, 1) := by decide +kernel
