theorem dX7_growStale_15 : decode cX7_growStale 15 = .ok (.aaload, 1) := by decide +kernel
theorem dX7_growStale_16 : decode cX7_growStale 16 = .ok (.getfield 73, 3) := by decide +kernel
theorem dX7_growStale_19 : decode cX7_growStale 19 = .ok (.ifCond .ne 29, 3) := by decide +kernel
theorem dX7_growStale_22 : decode cX7_growStale 22 = .ok (.aload_n 0, 1) := by decide +kernel
theorem dX7_growStale_23 : decode cX7_growStale 23 = .ok (.getfield 26, 3) := by decide +kernel
theorem dX7_growStale_26 : decode cX7_growStale 26 = .ok (.iload_n 1, 1) := by decide +kernel
theorem dX7_growStale_27 : decode cX7_growStale 27 = .ok (.aaload, 1) := by decide +kernel
theorem dX7_growStale_28 : decode cX7_growStale 28 = .ok (.getfield 76, 3) := by decide +kernel
theorem dX7_growStale_31 : decode cX7_growStale 31 = .ok (.aload_n 0, 1) := by decide +kernel
theorem dX7_growStale_32 : decode cX7_growStale 32 = .ok (.getfield 49, 3) := by decide +kernel
theorem dX7_growStale_35 : decode cX7_growStale 35 = .ok (.if_icmp .gt 13, 3) := by decide +kernel
theorem dX7_growStale_38 : decode cX7_growStale 38 = .ok (.aload_n 0, 1) := by decide +kernel
theorem dX7_growStale_39 : decode cX7_growStale 39 = .ok (.getfield 26, 3) := by decide +kernel
theorem dX7_growStale_42 : decode cX7_growStale 42 = .ok (.iload_n 1, 1) := by decide +kernel
theorem dX7_growStale_43 : decode cX7_growStale 43 = .ok (.aaload, 1) := by decide +kernel
theorem dX7_growStale_44 : decode cX7_growStale 44 = .ok (.iconst 4, 1) := by decide +kernel
theorem dX7_growStale_45 : decode cX7_growStale 45 = .ok (.putfield 73, 3) := by decide +kernel
theorem dX7_growStale_48 : decode cX7_growStale 48 = .ok (.iinc 1 1, 3) := by decide +kernel
theorem dX7_growStale_51 : decode cX7_growStale 51 = .ok (.goto (-49), 3) := by decide +kernel
theorem dX7_growStale_54 : decode cX7_growStale 54 = .ok (.return_, 1) := by decide +kernel
theorem dX7_whereDangerWaits_0 : decode cX7_whereDangerWaits 0 = .ok (.iconst 0, 1) := by decide +kernel
theorem dX7_whereDangerWaits_1 : decode cX7_whereDangerWaits 1 = .ok (.istore_n 1, 1) := by decide +kernel
theorem dX7_whereDangerWaits_2 : decode cX7_whereDangerWaits 2 = .ok (.iconst 0, 1) := by decide +kernel
theorem dX7_whereDangerWaits_3 : decode cX7_whereDangerWaits 3 = .ok (.istore_n 2, 1) := by decide +kernel
theorem dX7_whereDangerWaits_4 : decode cX7_whereDangerWaits 4 = .ok (.iload_n 2, 1) := by decide +kernel
theorem dX7_whereDangerWaits_5 : decode cX7_whereDangerWaits 5 = .ok (.aload_n 0, 1) := by decide +kernel
theorem dX7_whereDangerWaits_6 : decode cX7_whereDangerWaits 6 = .ok (.getfield 38, 3) := by decide +kernel
theorem dX7_whereDangerWaits_9 : decode cX7_whereDangerWaits 9 = .ok (.if_icmp .ge 51, 3) := by decide +kernel
theorem dX7_whereDangerWaits_12 : decode cX7_whereDangerWaits 12 = .ok (.aload_n 0, 1) := by decide +kernel
theorem dX7_whereDangerWaits_13 : decode cX7_whereDangerWaits 13 = .ok (.getfield 26, 3) := by decide +kernel
theorem dX7_whereDangerWaits_16 : decode cX7_whereDangerWaits 16 = .ok (.iload_n 2, 1) := by decide +kernel
theorem dX7_whereDangerWaits_17 : decode cX7_whereDangerWaits 17 = .ok (.aaload, 1) := by decide +kernel
theorem dX7_whereDangerWaits_18 : decode cX7_whereDangerWaits 18 = .ok (.getfield 45, 3) := by decide +kernel
theorem dX7_whereDangerWaits_21 : decode cX7_whereDangerWaits 21 = .ok (.ifCond .eq 33, 3) := by decide +kernel
theorem dX7_whereDangerWaits_24 : decode cX7_whereDangerWaits 24 = .ok (.aload_n 0, 1) := by decide +kernel
theorem dX7_whereDangerWaits_25 : decode cX7_whereDangerWaits 25 = .ok (.getfield 26, 3) := by decide +kernel
theorem dX7_whereDangerWaits_28 : decode cX7_whereDangerWaits 28 = .ok (.iload_n 2, 1) := by decide +kernel
theorem dX7_whereDangerWaits_29 : decode cX7_whereDangerWaits 29 = .ok (.aaload, 1) := by decide +kernel
theorem dX7_whereDangerWaits_30 : decode cX7_whereDangerWaits 30 = .ok (.aload_n 0, 1) := by decide +kernel
theorem dX7_whereDangerWaits_31 : decode cX7_whereDangerWaits 31 = .ok (.getfield 49, 3) := by decide +kernel
theorem dX7_whereDangerWaits_34 : decode cX7_whereDangerWaits 34 = .ok (.invokevirtual 52, 3) := by decide +kernel
theorem dX7_whereDangerWaits_37 : decode cX7_whereDangerWaits 37 = .ok (.ifCond .eq 17, 3) := by decide +kernel
theorem dX7_whereDangerWaits_40 : decode cX7_whereDangerWaits 40 = .ok (.iload_n 1, 1) := by decide +kernel
theorem dX7_whereDangerWaits_41 : decode cX7_whereDangerWaits 41 = .ok (.iconst 1, 1) := by decide +kernel
theorem dX7_whereDangerWaits_42 : decode cX7_whereDangerWaits 42 = .ok (.aload_n 0, 1) := by decide +kernel
theorem dX7_whereDangerWaits_43 : decode cX7_whereDangerWaits 43 = .ok (.getfield 26, 3) := by decide +kernel
theorem dX7_whereDangerWaits_46 : decode cX7_whereDangerWaits 46 = .ok (.iload_n 2, 1) := by decide +kernel
theorem dX7_whereDangerWaits_47 : decode cX7_whereDangerWaits 47 = .ok (.aaload, 1) := by decide +kernel
theorem dX7_whereDangerWaits_48 : decode cX7_whereDangerWaits 48 = .ok (.getfield 56, 3) := by decide +kernel
theorem dX7_whereDangerWaits_51 : decode cX7_whereDangerWaits 51 = .ok (.ishl, 1) := by decide +kernel
theorem dX7_whereDangerWaits_52 : decode cX7_whereDangerWaits 52 = .ok (.ior, 1) := by decide +kernel
theorem dX7_whereDangerWaits_53 : decode cX7_whereDangerWaits 53 = .ok (.istore_n 1, 1) := by decide +kernel
theorem dX7_whereDangerWaits_54 : decode cX7_whereDangerWaits 54 = .ok (.iinc 2 1, 3) := by decide +kernel
theorem dX7_whereDangerWaits_57 : decode cX7_whereDangerWaits 57 = .ok (.goto (-53), 3) := by decide +kernel
theorem dX7_whereDangerWaits_60 : decode cX7_whereDangerWaits 60 = .ok (.iload_n 1, 1) := by decide +kernel
theorem dX7_whereDangerWaits_61 : decode cX7_whereDangerWaits 61 = .ok (.ireturn, 1) := by decide +kernel
theorem dX7_hush_0 : decode cX7_hush 0 = .ok (.iconst 0, 1) := by decide +kernel
theorem dX7_hush_1 : decode cX7_hush 1 = .ok (.istore_n 2, 1) := by decide +kernel
theorem dX7_hush_2 : decode cX7_hush 2 = .ok (.iload_n 2, 1) := by decide +kernel
theorem dX7_hush_3 : decode cX7_hush 3 = .ok (.bipush 6, 2) := by decide +kernel
theorem dX7_hush_5 : decode cX7_hush 5 = .ok (.if_icmp .ge 60, 3) := by decide +kernel
theorem dX7_hush_8 : decode cX7_hush 8 = .ok (.aload_n 0, 1) := by decide +kernel
theorem dX7_hush_9 : decode cX7_hush 9 = .ok (.iload_n 1, 1) := by decide +kernel
theorem dX7_hush_10 : decode cX7_hush 10 = .ok (.iload_n 2, 1) := by decide +kernel
theorem dX7_hush_11 : decode cX7_hush 11 = .ok (.invokevirtual 79, 3) := by decide +kernel
theorem dX7_hush_14 : decode cX7_hush 14 = .ok (.ifCond .eq 45, 3) := by decide +kernel
theorem dX7_hush_17 : decode cX7_hush 17 = .ok (.aload_n 0, 1) := by decide +kernel
theorem dX7_hush_18 : decode cX7_hush 18 = .ok (.getfield 21, 3) := by decide +kernel
theorem dX7_hush_21 : decode cX7_hush 21 = .ok (.iload_n 2, 1) := by decide +kernel
theorem dX7_hush_22 : decode cX7_hush 22 = .ok (.iaload, 1) := by decide +kernel
theorem dX7_hush_23 : decode cX7_hush 23 = .ok (.iconst (-1), 1) := by decide +kernel
theorem dX7_hush_24 : decode cX7_hush 24 = .ok (.if_icmp .eq 35, 3) := by decide +kernel
theorem dX7_hush_27 : decode cX7_hush 27 = .ok (.aload_n 0, 1) := by decide +kernel
theorem dX7_hush_28 : decode cX7_hush 28 = .ok (.getfield 26, 3) := by decide +kernel
theorem dX7_hush_31 : decode cX7_hush 31 = .ok (.aload_n 0, 1) := by decide +kernel
theorem dX7_hush_32 : decode cX7_hush 32 = .ok (.getfield 21, 3) := by decide +kernel
theorem dX7_hush_35 : decode cX7_hush 35 = .ok (.iload_n 2, 1) := by decide +kernel
theorem dX7_hush_36 : decode cX7_hush 36 = .ok (.iaload, 1) := by decide +kernel
theorem dX7_hush_37 : decode cX7_hush 37 = .ok (.aaload, 1) := by decide +kernel
theorem dX7_hush_38 : decode cX7_hush 38 = .ok (.getfield 45, 3) := by decide +kernel
theorem dX7_hush_41 : decode cX7_hush 41 = .ok (.ifCond .ne 18, 3) := by decide +kernel
theorem dX7_hush_44 : decode cX7_hush 44 = .ok (.aload_n 0, 1) := by decide +kernel
theorem dX7_hush_45 : decode cX7_hush 45 = .ok (.getfield 26, 3) := by decide +kernel
theorem dX7_hush_48 : decode cX7_hush 48 = .ok (.aload_n 0, 1) := by decide +kernel
theorem dX7_hush_49 : decode cX7_hush 49 = .ok (.getfield 21, 3) := by decide +kernel
theorem dX7_hush_52 : decode cX7_hush 52 = .ok (.iload_n 2, 1) := by decide +kernel
theorem dX7_hush_53 : decode cX7_hush 53 = .ok (.iaload, 1) := by decide +kernel
theorem dX7_hush_54 : decode cX7_hush 54 = .ok (.aaload, 1) := by decide +kernel
theorem dX7_hush_55 : decode cX7_hush 55 = .ok (.iconst 1, 1) := by decide +kernel
theorem dX7_hush_56 : decode cX7_hush 56 = .ok (.putfield 83, 3) := by decide +kernel
theorem dX7_hush_59 : decode cX7_hush 59 = .ok (.iinc 2 1, 3) := by decide +kernel
theorem dX7_hush_62 : decode cX7_hush 62 = .ok (.goto (-60), 3) := by decide +kernel
theorem dX7_hush_65 : decode cX7_hush 65 = .ok (.return_, 1) := by decide +kernel
theorem dX7_beginIfStill_0 : decode cX7_beginIfStill 0 = .ok (.aload_n 0, 1) := by decide +kernel
theorem dX7_beginIfStill_1 : decode cX7_beginIfStill 1 = .ok (.getfield 26, 3) := by decide +kernel
theorem dX7_beginIfStill_4 : decode cX7_beginIfStill 4 = .ok (.iload_n 1, 1) := by decide +kernel
theorem dX7_beginIfStill_5 : decode cX7_beginIfStill 5 = .ok (.aaload, 1) := by decide +kernel
theorem dX7_beginIfStill_6 : decode cX7_beginIfStill 6 = .ok (.astore_n 2, 1) := by decide +kernel
theorem dX7_beginIfStill_7 : decode cX7_beginIfStill 7 = .ok (.iconst 0, 1) := by decide +kernel
theorem dX7_beginIfStill_8 : decode cX7_beginIfStill 8 = .ok (.istore_n 3, 1) := by decide +kernel
theorem dX7_beginIfStill_9 : decode cX7_beginIfStill 9 = .ok (.iload_n 3, 1) := by decide +kernel
theorem dX7_beginIfStill_10 : decode cX7_beginIfStill 10 = .ok (.bipush 6, 2) := by decide +kernel
theorem dX7_beginIfStill_12 : decode cX7_beginIfStill 12 = .ok (.if_icmp .ge 32, 3) := by decide +kernel
theorem dX7_beginIfStill_15 : decode cX7_beginIfStill 15 = .ok (.aload_n 0, 1) := by decide +kernel
theorem dX7_beginIfStill_16 : decode cX7_beginIfStill 16 = .ok (.aload_n 2, 1) := by decide +kernel
theorem dX7_beginIfStill_17 : decode cX7_beginIfStill 17 = .ok (.getfield 56, 3) := by decide +kernel
theorem dX7_beginIfStill_20 : decode cX7_beginIfStill 20 = .ok (.iload_n 3, 1) := by decide +kernel
theorem dX7_beginIfStill_21 : decode cX7_beginIfStill 21 = .ok (.invokevirtual 79, 3) := by decide +kernel
theorem dX7_beginIfStill_24 : decode cX7_beginIfStill 24 = .ok (.ifCond .eq 14, 3) := by decide +kernel
theorem dX7_beginIfStill_27 : decode cX7_beginIfStill 27 = .ok (.aload_n 0, 1) := by decide +kernel
theorem dX7_beginIfStill_28 : decode cX7_beginIfStill 28 = .ok (.getfield 21, 3) := by decide +kernel
theorem dX7_beginIfStill_31 : decode cX7_beginIfStill 31 = .ok (.iload_n 3, 1) := by decide +kernel
theorem dX7_beginIfStill_32 : decode cX7_beginIfStill 32 = .ok (.iaload, 1) := by decide +kernel
theorem dX7_beginIfStill_33 : decode cX7_beginIfStill 33 = .ok (.iconst (-1), 1) := by decide +kernel
theorem dX7_beginIfStill_34 : decode cX7_beginIfStill 34 = .ok (.if_icmp .eq 4, 3) := by decide +kernel
theorem dX7_beginIfStill_37 : decode cX7_beginIfStill 37 = .ok (.return_, 1) := by decide +kernel
theorem dX7_beginIfStill_38 : decode cX7_beginIfStill 38 = .ok (.iinc 3 1, 3) := by decide +kernel
theorem dX7_beginIfStill_41 : decode cX7_beginIfStill 41 = .ok (.goto (-32), 3) := by decide +kernel
theorem dX7_beginIfStill_44 : decode cX7_beginIfStill 44 = .ok (.aload_n 0, 1) := by decide +kernel
theorem dX7_beginIfStill_45 : decode cX7_beginIfStill 45 = .ok (.getfield 30, 3) := by decide +kernel
theorem dX7_beginIfStill_48 : decode cX7_beginIfStill 48 = .ok (.aload_n 2, 1) := by decide +kernel
theorem dX7_beginIfStill_49 : decode cX7_beginIfStill 49 = .ok (.getfield 86, 3) := by decide +kernel
theorem dX7_beginIfStill_52 : decode cX7_beginIfStill 52 = .ok (.aload_n 2, 1) := by decide +kernel
theorem dX7_beginIfStill_53 : decode cX7_beginIfStill 53 = .ok (.getfield 89, 3) := by decide +kernel
theorem dX7_beginIfStill_56 : decode cX7_beginIfStill 56 = .ok (.invokevirtual 92, 3) := by decide +kernel
theorem dX7_beginIfStill_59 : decode cX7_beginIfStill 59 = .ok (.istore_n 3, 1) := by decide +kernel
theorem dX7_beginIfStill_60 : decode cX7_beginIfStill 60 = .ok (.iload_n 3, 1) := by decide +kernel
theorem dX7_beginIfStill_61 : decode cX7_beginIfStill 61 = .ok (.ifCond .eq 27, 3) := by decide +kernel
theorem dX7_beginIfStill_64 : decode cX7_beginIfStill 64 = .ok (.aload_n 0, 1) := by decide +kernel
theorem dX7_beginIfStill_65 : decode cX7_beginIfStill 65 = .ok (.getfield 34, 3) := by decide +kernel
theorem dX7_beginIfStill_68 : decode cX7_beginIfStill 68 = .ok (.aload_n 0, 1) := by decide +kernel
theorem dX7_beginIfStill_69 : decode cX7_beginIfStill 69 = .ok (.getfield 30, 3) := by decide +kernel
theorem dX7_beginIfStill_72 : decode cX7_beginIfStill 72 = .ok (.aload_n 0, 1) := by decide +kernel
theorem dX7_beginIfStill_73 : decode cX7_beginIfStill 73 = .ok (.getfield 9, 3) := by decide +kernel
theorem dX7_beginIfStill_76 : decode cX7_beginIfStill 76 = .ok (.aload_n 2, 1) := by decide +kernel
theorem dX7_beginIfStill_77 : decode cX7_beginIfStill 77 = .ok (.getfield 56, 3) := by decide +kernel
theorem dX7_beginIfStill_80 : decode cX7_beginIfStill 80 = .ok (.iaload, 1) := by decide +kernel
theorem dX7_beginIfStill_81 : decode cX7_beginIfStill 81 = .ok (.invokevirtual 97, 3) := by decide +kernel
theorem dX7_beginIfStill_84 : decode cX7_beginIfStill 84 = .ok (.iconst (-1), 1) := by decide +kernel
theorem dX7_beginIfStill_85 : decode cX7_beginIfStill 85 = .ok (.if_icmp .ne 9, 3) := by decide +kernel
theorem dX7_beginIfStill_88 : decode cX7_beginIfStill 88 = .ok (.aload_n 2, 1) := by decide +kernel
theorem dX7_beginIfStill_89 : decode cX7_beginIfStill 89 = .ok (.iconst 5, 1) := by decide +kernel
theorem dX7_beginIfStill_90 : decode cX7_beginIfStill 90 = .ok (.putfield 73, 3) := by decide +kernel
theorem dX7_beginIfStill_93 : decode cX7_beginIfStill 93 = .ok (.return_, 1) := by decide +kernel
theorem dX7_beginIfStill_94 : decode cX7_beginIfStill 94 = .ok (.aload_n 2, 1) := by decide +kernel
theorem dX7_beginIfStill_95 : decode cX7_beginIfStill 95 = .ok (.aload_n 0, 1) := by decide +kernel
theorem dX7_beginIfStill_96 : decode cX7_beginIfStill 96 = .ok (.getfield 49, 3) := by decide +kernel
theorem dX7_beginIfStill_99 : decode cX7_beginIfStill 99 = .ok (.aload_n 0, 1) := by decide +kernel
theorem dX7_beginIfStill_100 : decode cX7_beginIfStill 100 = .ok (.getfield 30, 3) := by decide +kernel
theorem dX7_beginIfStill_103 : decode cX7_beginIfStill 103 = .ok (.invokevirtual 103, 3) := by decide +kernel
theorem dX7_beginIfStill_106 : decode cX7_beginIfStill 106 = .ok (.aload_n 0, 1) := by decide +kernel
theorem dX7_beginIfStill_107 : decode cX7_beginIfStill 107 = .ok (.getfield 21, 3) := by decide +kernel
theorem dX7_beginIfStill_110 : decode cX7_beginIfStill 110 = .ok (.aload_n 2, 1) := by decide +kernel
theorem dX7_beginIfStill_111 : decode cX7_beginIfStill 111 = .ok (.getfield 56, 3) := by decide +kernel
theorem dX7_beginIfStill_114 : decode cX7_beginIfStill 114 = .ok (.iload_n 1, 1) := by decide +kernel
theorem dX7_beginIfStill_115 : decode cX7_beginIfStill 115 = .ok (.iastore, 1) := by decide +kernel
theorem dX7_beginIfStill_116 : decode cX7_beginIfStill 116 = .ok (.return_, 1) := by decide +kernel
theorem dX7_isReached_0 : decode cX7_isReached 0 = .ok (.aload_n 0, 1) := by decide +kernel
theorem dX7_isReached_1 : decode cX7_isReached 1 = .ok (.getfield 18, 3) := by decide +kernel
theorem dX7_isReached_4 : decode cX7_isReached 4 = .ok (.iload_n 1, 1) := by decide +kernel
theorem dX7_isReached_5 : decode cX7_isReached 5 = .ok (.iaload, 1) := by decide +kernel
theorem dX7_isReached_6 : decode cX7_isReached 6 = .ok (.iload_n 2, 1) := by decide +kernel
theorem dX7_isReached_7 : decode cX7_isReached 7 = .ok (.iushr, 1) := by decide +kernel
theorem dX7_isReached_8 : decode cX7_isReached 8 = .ok (.iconst 1, 1) := by decide +kernel
theorem dX7_isReached_9 : decode cX7_isReached 9 = .ok (.iand, 1) := by decide +kernel
theorem dX7_isReached_10 : decode cX7_isReached 10 = .ok (.iconst 1, 1) := by decide +kernel
theorem dX7_isReached_11 : decode cX7_isReached 11 = .ok (.if_icmp .ne 7, 3) := by decide +kernel
theorem dX7_isReached_14 : decode cX7_isReached 14 = .ok (.iconst 1, 1) := by decide +kernel
theorem dX7_isReached_15 : decode cX7_isReached 15 = .ok (.goto 4, 3) := by decide +kernel
theorem dX7_isReached_18 : decode cX7_isReached 18 = .ok (.iconst 0, 1) := by decide +kernel
theorem dX7_isReached_19 : decode cX7_isReached 19 = .ok (.ireturn, 1) := by decide +kernel
theorem dX7_saySounds_0 : decode cX7_saySounds 0 = .ok (.iconst 0, 1) := by decide +kernel
theorem dX7_saySounds_1 : decode cX7_saySounds 1 = .ok (.istore_n 1, 1) := by decide +kernel
theorem dX7_saySounds_2 : decode cX7_saySounds 2 = .ok (.iload_n 1, 1) := by decide +kernel
theorem dX7_saySounds_3 : decode cX7_saySounds 3 = .ok (.bipush 6, 2) := by decide +kernel
theorem dX7_saySounds_5 : decode cX7_saySounds 5 = .ok (.if_icmp .ge 58, 3) := by decide +kernel
theorem dX7_saySounds_8 : decode cX7_saySounds 8 = .ok (.aload_n 0, 1) := by decide +kernel
theorem dX7_saySounds_9 : decode cX7_saySounds 9 = .ok (.getfield 21, 3) := by decide +kernel
theorem dX7_saySounds_12 : decode cX7_saySounds 12 = .ok (.iload_n 1, 1) := by decide +kernel
theorem dX7_saySounds_13 : decode cX7_saySounds 13 = .ok (.iaload, 1) := by decide +kernel
theorem dX7_saySounds_14 : decode cX7_saySounds 14 = .ok (.iconst (-1), 1) := by decide +kernel
theorem dX7_saySounds_15 : decode cX7_saySounds 15 = .ok (.if_icmp .eq 42, 3) := by decide +kernel
theorem dX7_saySounds_18 : decode cX7_saySounds 18 = .ok (.aload_n 0, 1) := by decide +kernel
theorem dX7_saySounds_19 : decode cX7_saySounds 19 = .ok (.getfield 26, 3) := by decide +kernel
theorem dX7_saySounds_22 : decode cX7_saySounds 22 = .ok (.aload_n 0, 1) := by decide +kernel
theorem dX7_saySounds_23 : decode cX7_saySounds 23 = .ok (.getfield 21, 3) := by decide +kernel
theorem dX7_saySounds_26 : decode cX7_saySounds 26 = .ok (.iload_n 1, 1) := by decide +kernel
theorem dX7_saySounds_27 : decode cX7_saySounds 27 = .ok (.iaload, 1) := by decide +kernel
theorem dX7_saySounds_28 : decode cX7_saySounds 28 = .ok (.aaload, 1) := by decide +kernel
theorem dX7_saySounds_29 : decode cX7_saySounds 29 = .ok (.invokevirtual 107, 3) := by decide +kernel
theorem dX7_saySounds_32 : decode cX7_saySounds 32 = .ok (.aload_n 0, 1) := by decide +kernel
theorem dX7_saySounds_33 : decode cX7_saySounds 33 = .ok (.getfield 26, 3) := by decide +kernel
theorem dX7_saySounds_36 : decode cX7_saySounds 36 = .ok (.aload_n 0, 1) := by decide +kernel
theorem dX7_saySounds_37 : decode cX7_saySounds 37 = .ok (.getfield 21, 3) := by decide +kernel
theorem dX7_saySounds_40 : decode cX7_saySounds 40 = .ok (.iload_n 1, 1) := by decide +kernel
theorem dX7_saySounds_41 : decode cX7_saySounds 41 = .ok (.iaload, 1) := by decide +kernel
theorem dX7_saySounds_42 : decode cX7_saySounds 42 = .ok (.aaload, 1) := by decide +kernel
theorem dX7_saySounds_43 : decode cX7_saySounds 43 = .ok (.getfield 73, 3) := by decide +kernel
theorem dX7_saySounds_46 : decode cX7_saySounds 46 = .ok (.iconst 1, 1) := by decide +kernel
theorem dX7_saySounds_47 : decode cX7_saySounds 47 = .ok (.if_icmp .eq 10, 3) := by decide +kernel
theorem dX7_saySounds_50 : decode cX7_saySounds 50 = .ok (.aload_n 0, 1) := by decide +kernel
theorem dX7_saySounds_51 : decode cX7_saySounds 51 = .ok (.getfield 21, 3) := by decide +kernel
theorem dX7_saySounds_54 : decode cX7_saySounds 54 = .ok (.iload_n 1, 1) := by decide +kernel
theorem dX7_saySounds_55 : decode cX7_saySounds 55 = .ok (.iconst (-1), 1) := by decide +kernel
theorem dX7_saySounds_56 : decode cX7_saySounds 56 = .ok (.iastore, 1) := by decide +kernel
theorem dX7_saySounds_57 : decode cX7_saySounds 57 = .ok (.iinc 1 1, 3) := by decide +kernel
theorem dX7_saySounds_60 : decode cX7_saySounds 60 = .ok (.goto (-58), 3) := by decide +kernel
theorem dX7_saySounds_63 : decode cX7_saySounds 63 = .ok (.return_, 1) := by decide +kernel
theorem dX8_init_0 : decode cX8_init 0 = .ok (.aload_n 0, 1) := by decide +kernel
theorem dX8_init_1 : decode cX8_init 1 = .ok (.invokespecial 3, 3) := by decide +kernel
theorem dX8_init_4 : decode cX8_init 4 = .ok (.aload_n 0, 1) := by decide +kernel
theorem dX8_init_5 : decode cX8_init 5 = .ok (.bipush 16, 2) := by decide +kernel
theorem dX8_init_7 : decode cX8_init 7 = .ok (.anewarray 9, 3) := by decide +kernel
theorem dX8_init_10 : decode cX8_init 10 = .ok (.putfield 11, 3) := by decide +kernel
theorem dX8_init_13 : decode cX8_init 13 = .ok (.return_, 1) := by decide +kernel
theorem dX8_add_0 : decode cX8_add 0 = .ok (.aload_n 0, 1) := by decide +kernel
theorem dX8_add_1 : decode cX8_add 1 = .ok (.getfield 11, 3) := by decide +kernel
theorem dX8_add_4 : decode cX8_add 4 = .ok (.aload_n 0, 1) := by decide +kernel
theorem dX8_add_5 : decode cX8_add 5 = .ok (.getfield 17, 3) := by decide +kernel
theorem dX8_add_8 : decode cX8_add 8 = .ok (.aload_n 1, 1) := by decide +kernel
theorem dX8_add_9 : decode cX8_add 9 = .ok (.aastore, 1) := by decide +kernel
theorem dX8_add_10 : decode cX8_add 10 = .ok (.aload_n 0, 1) := by decide +kernel
theorem dX8_add_11 : decode cX8_add 11 = .ok (.dup, 1) := by decide +kernel
theorem dX8_add_12 : decode cX8_add 12 = .ok (.getfield 17, 3) := by decide +kernel
theorem dX8_add_15 : decode cX8_add 15 = .ok (.iconst 1, 1) := by decide +kernel
theorem dX8_add_16 : decode cX8_add 16 = .ok (.iadd, 1) := by decide +kernel
theorem dX8_add_17 : decode cX8_add 17 = .ok (.putfield 17, 3) := by decide +kernel
theorem dX8_add_20 : decode cX8_add 20 = .ok (.aload_n 0, 1) := by decide +kernel
theorem dX8_add_21 : decode cX8_add 21 = .ok (.invokevirtual 21, 3) := by decide +kernel
theorem dX8_add_24 : decode cX8_add 24 = .ok (.aload_n 0, 1) := by decide +kernel
theorem dX8_add_25 : decode cX8_add 25 = .ok (.getfield 17, 3) := by decide +kernel
theorem dX8_add_28 : decode cX8_add 28 = .ok (.iconst 1, 1) := by decide +kernel
theorem dX8_add_29 : decode cX8_add 29 = .ok (.isub, 1) := by decide +kernel
theorem dX8_add_30 : decode cX8_add 30 = .ok (.ireturn, 1) := by decide +kernel
theorem dX8_wear_0 : decode cX8_wear 0 = .ok (.aload_n 0, 1) := by decide +kernel
theorem dX8_wear_1 : decode cX8_wear 1 = .ok (.getfield 11, 3) := by decide +kernel
theorem dX8_wear_4 : decode cX8_wear 4 = .ok (.iload_n 1, 1) := by decide +kernel
theorem dX8_wear_5 : decode cX8_wear 5 = .ok (.aaload, 1) := by decide +kernel
theorem dX8_wear_6 : decode cX8_wear 6 = .ok (.getfield 24, 3) := by decide +kernel
theorem dX8_wear_9 : decode cX8_wear 9 = .ok (.istore_n 3, 1) := by decide +kernel
theorem dX8_wear_10 : decode cX8_wear 10 = .ok (.aload_n 0, 1) := by decide +kernel
theorem dX8_wear_11 : decode cX8_wear 11 = .ok (.getfield 11, 3) := by decide +kernel
theorem dX8_wear_14 : decode cX8_wear 14 = .ok (.iload_n 1, 1) := by decide +kernel
theorem dX8_wear_15 : decode cX8_wear 15 = .ok (.aaload, 1) := by decide +kernel
theorem dX8_wear_16 : decode cX8_wear 16 = .ok (.iload_n 2, 1) := by decide +kernel
theorem dX8_wear_17 : decode cX8_wear 17 = .ok (.putfield 24, 3) := by decide +kernel
theorem dX8_wear_20 : decode cX8_wear 20 = .ok (.aload_n 0, 1) := by decide +kernel
theorem dX8_wear_21 : decode cX8_wear 21 = .ok (.invokevirtual 21, 3) := by decide +kernel
theorem dX8_wear_24 : decode cX8_wear 24 = .ok (.iload_n 3, 1) := by decide +kernel
theorem dX8_wear_25 : decode cX8_wear 25 = .ok (.ireturn, 1) := by decide +kernel
theorem dX8_lostInAll_0 : decode cX8_lostInAll 0 = .ok (.iconst 0, 1) := by decide +kernel
theorem dX8_lostInAll_1 : decode cX8_lostInAll 1 = .ok (.istore_n 1, 1) := by decide +kernel
theorem dX8_lostInAll_2 : decode cX8_lostInAll 2 = .ok (.iconst 0, 1) := by decide +kernel
theorem dX8_lostInAll_3 : decode cX8_lostInAll 3 = .ok (.istore_n 2, 1) := by decide +kernel
theorem dX8_lostInAll_4 : decode cX8_lostInAll 4 = .ok (.iload_n 2, 1) := by decide +kernel
theorem dX8_lostInAll_5 : decode cX8_lostInAll 5 = .ok (.aload_n 0, 1) := by decide +kernel
theorem dX8_lostInAll_6 : decode cX8_lostInAll 6 = .ok (.getfield 17, 3) := by decide +kernel
theorem dX8_lostInAll_9 : decode cX8_lostInAll 9 = .ok (.if_icmp .ge 24, 3) := by decide +kernel
theorem dX8_lostInAll_12 : decode cX8_lostInAll 12 = .ok (.iload_n 1, 1) := by decide +kernel
theorem dX8_lostInAll_13 : decode cX8_lostInAll 13 = .ok (.aload_n 0, 1) := by decide +kernel
theorem dX8_lostInAll_14 : decode cX8_lostInAll 14 = .ok (.getfield 11, 3) := by decide +kernel
theorem dX8_lostInAll_17 : decode cX8_lostInAll 17 = .ok (.iload_n 2, 1) := by decide +kernel
theorem dX8_lostInAll_18 : decode cX8_lostInAll 18 = .ok (.aaload, 1) := by decide +kernel
theorem dX8_lostInAll_19 : decode cX8_lostInAll 19 = .ok (.getfield 27, 3) := by decide +kernel
theorem dX8_lostInAll_22 : decode cX8_lostInAll 22 = .ok (.invokestatic 30, 3) := by decide +kernel
theorem dX8_lostInAll_25 : decode cX8_lostInAll 25 = .ok (.iadd, 1) := by decide +kernel
theorem dX8_lostInAll_26 : decode cX8_lostInAll 26 = .ok (.istore_n 1, 1) := by decide +kernel
theorem dX8_lostInAll_27 : decode cX8_lostInAll 27 = .ok (.iinc 2 1, 3) := by decide +kernel
theorem dX8_lostInAll_30 : decode cX8_lostInAll 30 = .ok (.goto (-26), 3) := by decide +kernel
theorem dX8_lostInAll_33 : decode cX8_lostInAll 33 = .ok (.iload_n 1, 1) := by decide +kernel
theorem dX8_lostInAll_34 : decode cX8_lostInAll 34 = .ok (.ireturn, 1) := by decide +kernel
theorem dX8_mend_0 : decode cX8_mend 0 = .ok (.iconst 0, 1) := by decide +kernel
theorem dX8_mend_1 : decode cX8_mend 1 = .ok (.istore_n 1, 1) := by decide +kernel
theorem dX8_mend_2 : decode cX8_mend 2 = .ok (.iload_n 1, 1) := by decide +kernel
theorem dX8_mend_3 : decode cX8_mend 3 = .ok (.aload_n 0, 1) := by decide +kernel
theorem dX8_mend_4 : decode cX8_mend 4 = .ok (.getfield 17, 3) := by decide +kernel
theorem dX8_mend_7 : decode cX8_mend 7 = .ok (.if_icmp .ge 75, 3) := by decide +kernel
theorem dX8_mend_10 : decode cX8_mend 10 = .ok (.aload_n 0, 1) := by decide +kernel
theorem dX8_mend_11 : decode cX8_mend 11 = .ok (.getfield 11, 3) := by decide +kernel
theorem dX8_mend_14 : decode cX8_mend 14 = .ok (.iload_n 1, 1) := by decide +kernel
theorem dX8_mend_15 : decode cX8_mend 15 = .ok (.aaload, 1) := by decide +kernel
theorem dX8_mend_16 : decode cX8_mend 16 = .ok (.getfield 24, 3) := by decide +kernel
theorem dX8_mend_19 : decode cX8_mend 19 = .ok (.istore_n 2, 1) := by decide +kernel
theorem dX8_mend_20 : decode cX8_mend 20 = .ok (.iconst 0, 1) := by decide +kernel
theorem dX8_mend_21 : decode cX8_mend 21 = .ok (.istore_n 3, 1) := by decide +kernel
theorem dX8_mend_22 : decode cX8_mend 22 = .ok (.iload_n 3, 1) := by decide +kernel
theorem dX8_mend_23 : decode cX8_mend 23 = .ok (.aload_n 0, 1) := by decide +kernel
theorem dX8_mend_24 : decode cX8_mend 24 = .ok (.getfield 17, 3) := by decide +kernel
theorem dX8_mend_27 : decode cX8_mend 27 = .ok (.if_icmp .ge 39, 3) := by decide +kernel
theorem dX8_mend_30 : decode cX8_mend 30 = .ok (.aload_n 0, 1) := by decide +kernel
theorem dX8_mend_31 : decode cX8_mend 31 = .ok (.getfield 11, 3) := by decide +kernel
theorem dX8_mend_34 : decode cX8_mend 34 = .ok (.iload_n 3, 1) := by decide +kernel
theorem dX8_mend_35 : decode cX8_mend 35 = .ok (.aaload, 1) := by decide +kernel
theorem dX8_mend_36 : decode cX8_mend 36 = .ok (.aload_n 0, 1) := by decide +kernel
theorem dX8_mend_37 : decode cX8_mend 37 = .ok (.getfield 11, 3) := by decide +kernel
theorem dX8_mend_40 : decode cX8_mend 40 = .ok (.iload_n 1, 1) := by decide +kernel
theorem dX8_mend_41 : decode cX8_mend 41 = .ok (.aaload, 1) := by decide +kernel
theorem dX8_mend_42 : decode cX8_mend 42 = .ok (.invokevirtual 36, 3) := by decide +kernel
theorem dX8_mend_45 : decode cX8_mend 45 = .ok (.ifCond .eq 15, 3) := by decide +kernel
theorem dX8_mend_48 : decode cX8_mend 48 = .ok (.iload_n 2, 1) := by decide +kernel
theorem dX8_mend_49 : decode cX8_mend 49 = .ok (.aload_n 0, 1) := by decide +kernel
theorem dX8_mend_50 : decode cX8_mend 50 = .ok (.getfield 11, 3) := by decide +kernel
theorem dX8_mend_53 : decode cX8_mend 53 = .ok (.iload_n 3, 1) := by decide +kernel
theorem dX8_mend_54 : decode cX8_mend 54 = .ok (.aaload, 1) := by decide +kernel
theorem dX8_mend_55 : decode cX8_mend 55 = .ok (.getfield 24, 3) := by decide +kernel
theorem dX8_mend_58 : decode cX8_mend 58 = .ok (.iand, 1) := by decide +kernel
theorem dX8_mend_59 : decode cX8_mend 59 = .ok (.istore_n 2, 1) := by decide +kernel
theorem dX8_mend_60 : decode cX8_mend 60 = .ok (.iinc 3 1, 3) := by decide +kernel
theorem dX8_mend_63 : decode cX8_mend 63 = .ok (.goto (-41), 3) := by decide +kernel
theorem dX8_mend_66 : decode cX8_mend 66 = .ok (.aload_n 0, 1) := by decide +kernel
theorem dX8_mend_67 : decode cX8_mend 67 = .ok (.getfield 11, 3) := by decide +kernel
theorem dX8_mend_70 : decode cX8_mend 70 = .ok (.iload_n 1, 1) := by decide +kernel
theorem dX8_mend_71 : decode cX8_mend 71 = .ok (.aaload, 1) := by decide +kernel
theorem dX8_mend_72 : decode cX8_mend 72 = .ok (.iload_n 2, 1) := by decide +kernel
theorem dX8_mend_73 : decode cX8_mend 73 = .ok (.putfield 27, 3) := by decide +kernel
theorem dX8_mend_76 : decode cX8_mend 76 = .ok (.iinc 1 1, 3) := by decide +kernel
theorem dX8_mend_79 : decode cX8_mend 79 = .ok (.goto (-77), 3) := by decide +kernel
theorem dX8_mend_82 : decode cX8_mend 82 = .ok (.return_, 1) := by decide +kernel
theorem dX9_init_0 : decode cX9_init 0 = .ok (.aload_n 0, 1) := by decide +kernel
theorem dX9_init_1 : decode cX9_init 1 = .ok (.invokespecial 3, 3) := by decide +kernel
theorem dX9_init_4 : decode cX9_init 4 = .ok (.aload_n 0, 1) := by decide +kernel
theorem dX9_init_5 : decode cX9_init 5 = .ok (.sipush 200, 3) := by decide +kernel
theorem dX9_init_8 : decode cX9_init 8 = .ok (.newarray .int, 2) := by decide +kernel
theorem dX9_init_10 : decode cX9_init 10 = .ok (.putfield 9, 3) := by decide +kernel
theorem dX9_init_13 : decode cX9_init 13 = .ok (.aload_n 0, 1) := by decide +kernel
theorem dX9_init_14 : decode cX9_init 14 = .ok (.bipush 10, 2) := by decide +kernel
theorem dX9_init_16 : decode cX9_init 16 = .ok (.anewarray 15, 3) := by decide +kernel
theorem dX9_init_19 : decode cX9_init 19 = .ok (.putfield 17, 3) := by decide +kernel
theorem dX9_init_22 : decode cX9_init 22 = .ok (.iconst 0, 1) := by decide +kernel
theorem dX9_init_23 : decode cX9_init 23 = .ok (.istore_n 1, 1) := by decide +kernel
theorem dX9_init_24 : decode cX9_init 24 = .ok (.iload_n 1, 1) := by decide +kernel
theorem dX9_init_25 : decode cX9_init 25 = .ok (.bipush 10, 2) := by decide +kernel
theorem dX9_init_27 : decode cX9_init 27 = .ok (.if_icmp .ge 22, 3) := by decide +kernel
theorem dX9_init_30 : decode cX9_init 30 = .ok (.aload_n 0, 1) := by decide +kernel
theorem dX9_init_31 : decode cX9_init 31 = .ok (.getfield 17, 3) := by decide +kernel
theorem dX9_init_34 : decode cX9_init 34 = .ok (.iload_n 1, 1) := by decide +kernel
theorem dX9_init_35 : decode cX9_init 35 = .ok (.new 15, 3) := by decide +kernel
theorem dX9_init_38 : decode cX9_init 38 = .ok (.dup, 1) := by decide +kernel
theorem dX9_init_39 : decode cX9_init 39 = .ok (.invokespecial 21, 3) := by decide +kernel
theorem dX9_init_42 : decode cX9_init 42 = .ok (.aastore, 1) := by decide +kernel
theorem dX9_init_43 : decode cX9_init 43 = .ok (.iinc 1 1, 3) := by decide +kernel
theorem dX9_init_46 : decode cX9_init 46 = .ok (.goto (-22), 3) := by decide +kernel
theorem dX9_init_49 : decode cX9_init 49 = .ok (.return_, 1) := by decide +kernel
theorem dX9_append_0 : decode cX9_append 0 = .ok (.iconst 0, 1) := by decide +kernel
theorem dX9_append_1 : decode cX9_append 1 = .ok (.istore 4, 2) := by decide +kernel
theorem dX9_append_3 : decode cX9_append 3 = .ok (.iload 4, 2) := by decide +kernel
theorem dX9_append_5 : decode cX9_append 5 = .ok (.iload_n 3, 1) := by decide +kernel
theorem dX9_append_6 : decode cX9_append 6 = .ok (.if_icmp .ge 50, 3) := by decide +kernel
theorem dX9_append_9 : decode cX9_append 9 = .ok (.aload_n 0, 1) := by decide +kernel
theorem dX9_append_10 : decode cX9_append 10 = .ok (.getfield 22, 3) := by decide +kernel
theorem dX9_append_13 : decode cX9_append 13 = .ok (.sipush 200, 3) := by decide +kernel
theorem dX9_append_16 : decode cX9_append 16 = .ok (.if_icmp .ge 40, 3) := by decide +kernel
theorem dX9_append_19 : decode cX9_append 19 = .ok (.aload_n 0, 1) := by decide +kernel
theorem dX9_append_20 : decode cX9_append 20 = .ok (.getfield 9, 3) := by decide +kernel
theorem dX9_append_23 : decode cX9_append 23 = .ok (.aload_n 0, 1) := by decide +kernel
theorem dX9_append_24 : decode cX9_append 24 = .ok (.getfield 22, 3) := by decide +kernel
theorem dX9_append_27 : decode cX9_append 27 = .ok (.lload_n 1, 1) := by decide +kernel
theorem dX9_append_28 : decode cX9_append 28 = .ok (.bipush 8, 2) := by decide +kernel
theorem dX9_append_30 : decode cX9_append 30 = .ok (.iload 4, 2) := by decide +kernel
theorem dX9_append_32 : decode cX9_append 32 = .ok (.imul, 1) := by decide +kernel
theorem dX9_append_33 : decode cX9_append 33 = .ok (.lushr, 1) := by decide +kernel
theorem dX9_append_34 : decode cX9_append 34 = .ok (.l2i, 1) := by decide +kernel
theorem dX9_append_35 : decode cX9_append 35 = .ok (.sipush 255, 3) := by decide +kernel
theorem dX9_append_38 : decode cX9_append 38 = .ok (.iand, 1) := by decide +kernel
theorem dX9_append_39 : decode cX9_append 39 = .ok (.iastore, 1) := by decide +kernel
theorem dX9_append_40 : decode cX9_append 40 = .ok (.aload_n 0, 1) := by decide +kernel
theorem dX9_append_41 : decode cX9_append 41 = .ok (.dup, 1) := by decide +kernel
theorem dX9_append_42 : decode cX9_append 42 = .ok (.getfield 22, 3) := by decide +kernel
theorem dX9_append_45 : decode cX9_append 45 = .ok (.iconst 1, 1) := by decide +kernel
theorem dX9_append_46 : decode cX9_append 46 = .ok (.iadd, 1) := by decide +kernel
theorem dX9_append_47 : decode cX9_append 47 = .ok (.putfield 22, 3) := by decide +kernel
theorem dX9_append_50 : decode cX9_append 50 = .ok (.iinc 4 1, 3) := by decide +kernel
theorem dX9_append_53 : decode cX9_append 53 = .ok (.goto (-50), 3) := by decide +kernel
theorem dX9_append_56 : decode cX9_append 56 = .ok (.aload_n 0, 1) := by decide +kernel
theorem dX9_append_57 : decode cX9_append 57 = .ok (.getfield 22, 3) := by decide +kernel
theorem dX9_append_60 : decode cX9_append 60 = .ok (.ireturn, 1) := by decide +kernel
theorem dX9_empty_0 : decode cX9_empty 0 = .ok (.aload_n 0, 1) := by decide +kernel
theorem dX9_empty_1 : decode cX9_empty 1 = .ok (.getfield 22, 3) := by decide +kernel
theorem dX9_empty_4 : decode cX9_empty 4 = .ok (.istore_n 1, 1) := by decide +kernel
theorem dX9_empty_5 : decode cX9_empty 5 = .ok (.aload_n 0, 1) := by decide +kernel
theorem dX9_empty_6 : decode cX9_empty 6 = .ok (.iconst 0, 1) := by decide +kernel
theorem dX9_empty_7 : decode cX9_empty 7 = .ok (.putfield 22, 3) := by decide +kernel
theorem dX9_empty_10 : decode cX9_empty 10 = .ok (.iload_n 1, 1) := by decide +kernel
theorem dX9_empty_11 : decode cX9_empty 11 = .ok (.ireturn, 1) := by decide +kernel
theorem dX9_read_0 : decode cX9_read 0 = .ok (.aload_n 0, 1) := by decide +kernel
theorem dX9_read_1 : decode cX9_read 1 = .ok (.iconst 0, 1) := by decide +kernel
theorem dX9_read_2 : decode cX9_read 2 = .ok (.putfield 26, 3) := by decide +kernel
theorem dX9_read_5 : decode cX9_read 5 = .ok (.aload_n 0, 1) := by decide +kernel
theorem dX9_read_6 : decode cX9_read 6 = .ok (.iconst 0, 1) := by decide +kernel
theorem dX9_read_7 : decode cX9_read 7 = .ok (.putfield 29, 3) := by decide +kernel
theorem dX9_read_10 : decode cX9_read 10 = .ok (.aload_n 0, 1) := by decide +kernel
theorem dX9_read_11 : decode cX9_read 11 = .ok (.invokevirtual 32, 3) := by decide +kernel
theorem dX9_read_14 : decode cX9_read 14 = .ok (.iconst 0, 1) := by decide +kernel
theorem dX9_read_15 : decode cX9_read 15 = .ok (.istore_n 1, 1) := by decide +kernel
theorem dX9_read_16 : decode cX9_read 16 = .ok (.iload_n 1, 1) := by decide +kernel
theorem dX9_read_17 : decode cX9_read 17 = .ok (.bipush 10, 2) := by decide +kernel
theorem dX9_read_19 : decode cX9_read 19 = .ok (.if_icmp .ge 70, 3) := by decide +kernel
theorem dX9_read_22 : decode cX9_read 22 = .ok (.aload_n 0, 1) := by decide +kernel
theorem dX9_read_23 : decode cX9_read 23 = .ok (.aload_n 0, 1) := by decide +kernel
theorem dX9_read_24 : decode cX9_read 24 = .ok (.getfield 17, 3) := by decide +kernel
theorem dX9_read_27 : decode cX9_read 27 = .ok (.iload_n 1, 1) := by decide +kernel
theorem dX9_read_28 : decode cX9_read 28 = .ok (.aaload, 1) := by decide +kernel
theorem dX9_read_29 : decode cX9_read 29 = .ok (.invokevirtual 35, 3) := by decide +kernel
theorem dX9_read_32 : decode cX9_read 32 = .ok (.ifCond .ne 8, 3) := by decide +kernel
theorem dX9_read_35 : decode cX9_read 35 = .ok (.aload_n 0, 1) := by decide +kernel
theorem dX9_read_36 : decode cX9_read 36 = .ok (.getfield 39, 3) := by decide +kernel
theorem dX9_read_39 : decode cX9_read 39 = .ok (.ireturn, 1) := by decide +kernel
theorem dX9_read_40 : decode cX9_read 40 = .ok (.aload_n 0, 1) := by decide +kernel
theorem dX9_read_41 : decode cX9_read 41 = .ok (.iload_n 1, 1) := by decide +kernel
theorem dX9_read_42 : decode cX9_read 42 = .ok (.iconst 1, 1) := by decide +kernel
theorem dX9_read_43 : decode cX9_read 43 = .ok (.iadd, 1) := by decide +kernel
theorem dX9_read_44 : decode cX9_read 44 = .ok (.putfield 26, 3) := by decide +kernel
theorem dX9_read_47 : decode cX9_read 47 = .ok (.aload_n 0, 1) := by decide +kernel
theorem dX9_read_48 : decode cX9_read 48 = .ok (.getfield 42, 3) := by decide +kernel
theorem dX9_read_51 : decode cX9_read 51 = .ok (.ifCond .ne 5, 3) := by decide +kernel
theorem dX9_read_54 : decode cX9_read 54 = .ok (.iconst (-1), 1) := by decide +kernel
theorem dX9_read_55 : decode cX9_read 55 = .ok (.ireturn, 1) := by decide +kernel
theorem dX9_read_56 : decode cX9_read 56 = .ok (.aload_n 0, 1) := by decide +kernel
theorem dX9_read_57 : decode cX9_read 57 = .ok (.bipush 59, 2) := by decide +kernel
theorem dX9_read_59 : decode cX9_read 59 = .ok (.invokevirtual 45, 3) := by decide +kernel
theorem dX9_read_62 : decode cX9_read 62 = .ok (.ifCond .eq 12, 3) := by decide +kernel
theorem dX9_read_65 : decode cX9_read 65 = .ok (.aload_n 0, 1) := by decide +kernel
theorem dX9_read_66 : decode cX9_read 66 = .ok (.getfield 26, 3) := by decide +kernel
theorem dX9_read_69 : decode cX9_read 69 = .ok (.bipush 10, 2) := by decide +kernel
theorem dX9_read_71 : decode cX9_read 71 = .ok (.if_icmp .ne 8, 3) := by decide +kernel
theorem dX9_read_74 : decode cX9_read 74 = .ok (.aload_n 0, 1) := by decide +kernel
theorem dX9_read_75 : decode cX9_read 75 = .ok (.getfield 39, 3) := by decide +kernel
theorem dX9_read_78 : decode cX9_read 78 = .ok (.ireturn, 1) := by decide +kernel
theorem dX9_read_79 : decode cX9_read 79 = .ok (.aload_n 0, 1) := by decide +kernel
theorem dX9_read_80 : decode cX9_read 80 = .ok (.invokevirtual 32, 3) := by decide +kernel
theorem dX9_read_83 : decode cX9_read 83 = .ok (.iinc 1 1, 3) := by decide +kernel
theorem dX9_read_86 : decode cX9_read 86 = .ok (.goto (-70), 3) := by decide +kernel
theorem dX9_read_89 : decode cX9_read 89 = .ok (.aload_n 0, 1) := by decide +kernel
theorem dX9_read_90 : decode cX9_read 90 = .ok (.getfield 39, 3) := by decide +kernel
theorem dX9_read_93 : decode cX9_read 93 = .ok (.ireturn, 1) := by decide +kernel
theorem dX9_step_0 : decode cX9_step 0 = .ok (.aload_n 0, 1) := by decide +kernel
theorem dX9_step_1 : decode cX9_step 1 = .ok (.aload_n 0, 1) := by decide +kernel
theorem dX9_step_2 : decode cX9_step 2 = .ok (.getfield 29, 3) := by decide +kernel
theorem dX9_step_5 : decode cX9_step 5 = .ok (.putfield 39, 3) := by decide +kernel
theorem dX9_step_8 : decode cX9_step 8 = .ok (.aload_n 0, 1) := by decide +kernel
theorem dX9_step_9 : decode cX9_step 9 = .ok (.getfield 39, 3) := by decide +kernel
theorem dX9_step_12 : decode cX9_step 12 = .ok (.aload_n 0, 1) := by decide +kernel
theorem dX9_step_13 : decode cX9_step 13 = .ok (.getfield 22, 3) := by decide +kernel
theorem dX9_step_16 : decode cX9_step 16 = .ok (.if_icmp .ge 30, 3) := by decide +kernel
theorem dX9_step_19 : decode cX9_step 19 = .ok (.aload_n 0, 1) := by decide +kernel
theorem dX9_step_20 : decode cX9_step 20 = .ok (.getfield 9, 3) := by decide +kernel
theorem dX9_step_23 : decode cX9_step 23 = .ok (.aload_n 0, 1) := by decide +kernel
theorem dX9_step_24 : decode cX9_step 24 = .ok (.getfield 39, 3) := by decide +kernel
theorem dX9_step_27 : decode cX9_step 27 = .ok (.iaload, 1) := by decide +kernel
theorem dX9_step_28 : decode cX9_step 28 = .ok (.bipush 32, 2) := by decide +kernel
theorem dX9_step_30 : decode cX9_step 30 = .ok (.if_icmp .ne 16, 3) := by decide +kernel
theorem dX9_step_33 : decode cX9_step 33 = .ok (.aload_n 0, 1) := by decide +kernel
theorem dX9_step_34 : decode cX9_step 34 = .ok (.dup, 1) := by decide +kernel
theorem dX9_step_35 : decode cX9_step 35 = .ok (.getfield 39, 3) := by decide +kernel
theorem dX9_step_38 : decode cX9_step 38 = .ok (.iconst 1, 1) := by decide +kernel
theorem dX9_step_39 : decode cX9_step 39 = .ok (.iadd, 1) := by decide +kernel
theorem dX9_step_40 : decode cX9_step 40 = .ok (.putfield 39, 3) := by decide +kernel
theorem dX9_step_43 : decode cX9_step 43 = .ok (.goto (-35), 3) := by decide +kernel
theorem dX9_step_46 : decode cX9_step 46 = .ok (.aload_n 0, 1) := by decide +kernel
theorem dX9_step_47 : decode cX9_step 47 = .ok (.aload_n 0, 1) := by decide +kernel
theorem dX9_step_48 : decode cX9_step 48 = .ok (.getfield 39, 3) := by decide +kernel
theorem dX9_step_51 : decode cX9_step 51 = .ok (.putfield 29, 3) := by decide +kernel
theorem dX9_step_54 : decode cX9_step 54 = .ok (.aload_n 0, 1) := by decide +kernel
theorem dX9_step_55 : decode cX9_step 55 = .ok (.getfield 39, 3) := by decide +kernel
theorem dX9_step_58 : decode cX9_step 58 = .ok (.aload_n 0, 1) := by decide +kernel
theorem dX9_step_59 : decode cX9_step 59 = .ok (.getfield 22, 3) := by decide +kernel
theorem dX9_step_62 : decode cX9_step 62 = .ok (.if_icmp .lt 9, 3) := by decide +kernel
theorem dX9_step_65 : decode cX9_step 65 = .ok (.aload_n 0, 1) := by decide +kernel
theorem dX9_step_66 : decode cX9_step 66 = .ok (.iconst 0, 1) := by decide +kernel
theorem dX9_step_67 : decode cX9_step 67 = .ok (.putfield 42, 3) := by decide +kernel
theorem dX9_step_70 : decode cX9_step 70 = .ok (.return_, 1) := by decide +kernel
theorem dX9_step_71 : decode cX9_step 71 = .ok (.aload_n 0, 1) := by decide +kernel
theorem dX9_step_72 : decode cX9_step 72 = .ok (.aload_n 0, 1) := by decide +kernel
theorem dX9_step_73 : decode cX9_step 73 = .ok (.getfield 9, 3) := by decide +kernel
theorem dX9_step_76 : decode cX9_step 76 = .ok (.aload_n 0, 1) := by decide +kernel
theorem dX9_step_77 : decode cX9_step 77 = .ok (.getfield 39, 3) := by decide +kernel
theorem dX9_step_80 : decode cX9_step 80 = .ok (.iaload, 1) := by decide +kernel
theorem dX9_step_81 : decode cX9_step 81 = .ok (.invokestatic 49, 3) := by decide +kernel
theorem dX9_step_84 : decode cX9_step 84 = .ok (.putfield 42, 3) := by decide +kernel
theorem dX9_step_87 : decode cX9_step 87 = .ok (.aload_n 0, 1) := by decide +kernel
theorem dX9_step_88 : decode cX9_step 88 = .ok (.dup, 1) := by decide +kernel
theorem dX9_step_89 : decode cX9_step 89 = .ok (.getfield 29, 3) := by decide +kernel
theorem dX9_step_92 : decode cX9_step 92 = .ok (.iconst 1, 1) := by decide +kernel
theorem dX9_step_93 : decode cX9_step 93 = .ok (.iadd, 1) := by decide +kernel
theorem dX9_step_94 : decode cX9_step 94 = .ok (.putfield 29, 3) := by decide +kernel
theorem dX9_step_97 : decode cX9_step 97 = .ok (.aload_n 0, 1) := by decide +kernel
theorem dX9_step_98 : decode cX9_step 98 = .ok (.getfield 42, 3) := by decide +kernel
theorem dX9_step_101 : decode cX9_step 101 = .ok (.iconst 3, 1) := by decide +kernel
theorem dX9_step_102 : decode cX9_step 102 = .ok (.if_icmp .eq 46, 3) := by decide +kernel
theorem dX9_step_105 : decode cX9_step 105 = .ok (.aload_n 0, 1) := by decide +kernel
theorem dX9_step_106 : decode cX9_step 106 = .ok (.getfield 29, 3) := by decide +kernel
theorem dX9_step_109 : decode cX9_step 109 = .ok (.aload_n 0, 1) := by decide +kernel
theorem dX9_step_110 : decode cX9_step 110 = .ok (.getfield 22, 3) := by decide +kernel
theorem dX9_step_113 : decode cX9_step 113 = .ok (.if_icmp .ge 35, 3) := by decide +kernel
theorem dX9_step_116 : decode cX9_step 116 = .ok (.aload_n 0, 1) := by decide +kernel
theorem dX9_step_117 : decode cX9_step 117 = .ok (.getfield 9, 3) := by decide +kernel
theorem dX9_step_120 : decode cX9_step 120 = .ok (.aload_n 0, 1) := by decide +kernel
theorem dX9_step_121 : decode cX9_step 121 = .ok (.getfield 29, 3) := by decide +kernel
theorem dX9_step_124 : decode cX9_step 124 = .ok (.iaload, 1) := by decide +kernel
theorem dX9_step_125 : decode cX9_step 125 = .ok (.invokestatic 49, 3) := by decide +kernel
theorem dX9_step_128 : decode cX9_step 128 = .ok (.aload_n 0, 1) := by decide +kernel
theorem dX9_step_129 : decode cX9_step 129 = .ok (.getfield 42, 3) := by decide +kernel
theorem dX9_step_132 : decode cX9_step 132 = .ok (.if_icmp .ne 16, 3) := by decide +kernel
theorem dX9_step_135 : decode cX9_step 135 = .ok (.aload_n 0, 1) := by decide +kernel
theorem dX9_step_136 : decode cX9_step 136 = .ok (.dup, 1) := by decide +kernel
theorem dX9_step_137 : decode cX9_step 137 = .ok (.getfield 29, 3) := by decide +kernel
theorem dX9_step_140 : decode cX9_step 140 = .ok (.iconst 1, 1) := by decide +kernel
theorem dX9_step_141 : decode cX9_step 141 = .ok (.iadd, 1) := by decide +kernel
theorem dX9_step_142 : decode cX9_step 142 = .ok (.putfield 29, 3) := by decide +kernel
theorem dX9_step_145 : decode cX9_step 145 = .ok (.goto (-48), 3) := by decide +kernel
theorem dX9_step_148 : decode cX9_step 148 = .ok (.return_, 1) := by decide +kernel
theorem dX9_kindOf_0 : decode cX9_kindOf 0 = .ok (.iload_n 0, 1) := by decide +kernel
theorem dX9_kindOf_1 : decode cX9_kindOf 1 = .ok (.bipush 97, 2) := by decide +kernel
theorem dX9_kindOf_3 : decode cX9_kindOf 3 = .ok (.if_icmp .lt 11, 3) := by decide +kernel
theorem dX9_kindOf_6 : decode cX9_kindOf 6 = .ok (.iload_n 0, 1) := by decide +kernel
theorem dX9_kindOf_7 : decode cX9_kindOf 7 = .ok (.bipush 122, 2) := by decide +kernel
theorem dX9_kindOf_9 : decode cX9_kindOf 9 = .ok (.if_icmp .gt 5, 3) := by decide +kernel
theorem dX9_kindOf_12 : decode cX9_kindOf 12 = .ok (.iconst 1, 1) := by decide +kernel
theorem dX9_kindOf_13 : decode cX9_kindOf 13 = .ok (.ireturn, 1) := by decide +kernel
theorem dX9_kindOf_14 : decode cX9_kindOf 14 = .ok (.iload_n 0, 1) := by decide +kernel
theorem dX9_kindOf_15 : decode cX9_kindOf 15 = .ok (.bipush 48, 2) := by decide +kernel
theorem dX9_kindOf_17 : decode cX9_kindOf 17 = .ok (.if_icmp .lt 13, 3) := by decide +kernel
theorem dX9_kindOf_20 : decode cX9_kindOf 20 = .ok (.iload_n 0, 1) := by decide +kernel
theorem dX9_kindOf_21 : decode cX9_kindOf 21 = .ok (.bipush 57, 2) := by decide +kernel
theorem dX9_kindOf_23 : decode cX9_kindOf 23 = .ok (.if_icmp .gt 7, 3) := by decide +kernel
theorem dX9_kindOf_26 : decode cX9_kindOf 26 = .ok (.iconst 2, 1) := by decide +kernel
theorem dX9_kindOf_27 : decode cX9_kindOf 27 = .ok (.goto 4, 3) := by decide +kernel
theorem dX9_kindOf_30 : decode cX9_kindOf 30 = .ok (.iconst 3, 1) := by decide +kernel
theorem dX9_kindOf_31 : decode cX9_kindOf 31 = .ok (.ireturn, 1) := by decide +kernel
theorem dX9_readRow_0 : decode cX9_readRow 0 = .ok (.aload_n 1, 1) := by decide +kernel
theorem dX9_readRow_1 : decode cX9_readRow 1 = .ok (.iconst 0, 1) := by decide +kernel
theorem dX9_readRow_2 : decode cX9_readRow 2 = .ok (.putfield 53, 3) := by decide +kernel
theorem dX9_readRow_5 : decode cX9_readRow 5 = .ok (.aload_n 0, 1) := by decide +kernel
theorem dX9_readRow_6 : decode cX9_readRow 6 = .ok (.ldc 54, 2) := by decide +kernel
theorem dX9_readRow_8 : decode cX9_readRow 8 = .ok (.invokevirtual 56, 3) := by decide +kernel
theorem dX9_readRow_11 : decode cX9_readRow 11 = .ok (.ifCond .eq 41, 3) := by decide +kernel
theorem dX9_readRow_14 : decode cX9_readRow 14 = .ok (.aload_n 1, 1) := by decide +kernel
theorem dX9_readRow_15 : decode cX9_readRow 15 = .ok (.iconst 0, 1) := by decide +kernel
theorem dX9_readRow_16 : decode cX9_readRow 16 = .ok (.putfield 60, 3) := by decide +kernel
theorem dX9_readRow_19 : decode cX9_readRow 19 = .ok (.aload_n 0, 1) := by decide +kernel
theorem dX9_readRow_20 : decode cX9_readRow 20 = .ok (.aload_n 1, 1) := by decide +kernel
theorem dX9_readRow_21 : decode cX9_readRow 21 = .ok (.bipush 32, 2) := by decide +kernel
theorem dX9_readRow_23 : decode cX9_readRow 23 = .ok (.invokevirtual 61, 3) := by decide +kernel
theorem dX9_readRow_26 : decode cX9_readRow 26 = .ok (.ifCond .eq 24, 3) := by decide +kernel
theorem dX9_readRow_29 : decode cX9_readRow 29 = .ok (.aload_n 0, 1) := by decide +kernel
theorem dX9_readRow_30 : decode cX9_readRow 30 = .ok (.ldc 65, 2) := by decide +kernel
theorem dX9_readRow_32 : decode cX9_readRow 32 = .ok (.invokevirtual 56, 3) := by decide +kernel
theorem dX9_readRow_35 : decode cX9_readRow 35 = .ok (.ifCond .eq 15, 3) := by decide +kernel
theorem dX9_readRow_38 : decode cX9_readRow 38 = .ok (.aload_n 0, 1) := by decide +kernel
theorem dX9_readRow_39 : decode cX9_readRow 39 = .ok (.aload_n 1, 1) := by decide +kernel
theorem dX9_readRow_40 : decode cX9_readRow 40 = .ok (.invokevirtual 67, 3) := by decide +kernel
theorem dX9_readRow_43 : decode cX9_readRow 43 = .ok (.ifCond .eq 7, 3) := by decide +kernel
theorem dX9_readRow_46 : decode cX9_readRow 46 = .ok (.iconst 1, 1) := by decide +kernel
theorem dX9_readRow_47 : decode cX9_readRow 47 = .ok (.goto 4, 3) := by decide +kernel
theorem dX9_readRow_50 : decode cX9_readRow 50 = .ok (.iconst 0, 1) := by decide +kernel
theorem dX9_readRow_51 : decode cX9_readRow 51 = .ok (.ireturn, 1) := by decide +kernel
theorem dX9_readRow_52 : decode cX9_readRow 52 = .ok (.aload_n 0, 1) := by decide +kernel
theorem dX9_readRow_53 : decode cX9_readRow 53 = .ok (.ldc 70, 2) := by decide +kernel
theorem dX9_readRow_55 : decode cX9_readRow 55 = .ok (.invokevirtual 56, 3) := by decide +kernel
theorem dX9_readRow_58 : decode cX9_readRow 58 = .ok (.ifCond .eq 41, 3) := by decide +kernel
theorem dX9_readRow_61 : decode cX9_readRow 61 = .ok (.aload_n 1, 1) := by decide +kernel
theorem dX9_readRow_62 : decode cX9_readRow 62 = .ok (.iconst 1, 1) := by decide +kernel
theorem dX9_readRow_63 : decode cX9_readRow 63 = .ok (.putfield 60, 3) := by decide +kernel
theorem dX9_readRow_66 : decode cX9_readRow 66 = .ok (.aload_n 0, 1) := by decide +kernel
theorem dX9_readRow_67 : decode cX9_readRow 67 = .ok (.aload_n 1, 1) := by decide +kernel
theorem dX9_readRow_68 : decode cX9_readRow 68 = .ok (.bipush 8, 2) := by decide +kernel
theorem dX9_readRow_70 : decode cX9_readRow 70 = .ok (.invokevirtual 61, 3) := by decide +kernel
theorem dX9_readRow_73 : decode cX9_readRow 73 = .ok (.ifCond .eq 24, 3) := by decide +kernel
theorem dX9_readRow_76 : decode cX9_readRow 76 = .ok (.aload_n 0, 1) := by decide +kernel
theorem dX9_readRow_77 : decode cX9_readRow 77 = .ok (.ldc 65, 2) := by decide +kernel
theorem dX9_readRow_79 : decode cX9_readRow 79 = .ok (.invokevirtual 56, 3) := by decide +kernel
theorem dX9_readRow_82 : decode cX9_readRow 82 = .ok (.ifCond .eq 15, 3) := by decide +kernel
theorem dX9_readRow_85 : decode cX9_readRow 85 = .ok (.aload_n 0, 1) := by decide +kernel
theorem dX9_readRow_86 : decode cX9_readRow 86 = .ok (.aload_n 1, 1) := by decide +kernel
theorem dX9_readRow_87 : decode cX9_readRow 87 = .ok (.invokevirtual 72, 3) := by decide +kernel
theorem dX9_readRow_90 : decode cX9_readRow 90 = .ok (.ifCond .eq 7, 3) := by decide +kernel
theorem dX9_readRow_93 : decode cX9_readRow 93 = .ok (.iconst 1, 1) := by decide +kernel
theorem dX9_readRow_94 : decode cX9_readRow 94 = .ok (.goto 4, 3) := by decide +kernel
theorem dX9_readRow_97 : decode cX9_readRow 97 = .ok (.iconst 0, 1) := by decide +kernel
theorem dX9_readRow_98 : decode cX9_readRow 98 = .ok (.ireturn, 1) := by decide +kernel
theorem dX9_readRow_99 : decode cX9_readRow 99 = .ok (.aload_n 0, 1) := by decide +kernel
theorem dX9_readRow_100 : decode cX9_readRow 100 = .ok (.ldc 75, 2) := by decide +kernel
theorem dX9_readRow_102 : decode cX9_readRow 102 = .ok (.invokevirtual 56, 3) := by decide +kernel
theorem dX9_readRow_105 : decode cX9_readRow 105 = .ok (.ifCond .eq 16, 3) := by decide +kernel
theorem dX9_readRow_108 : decode cX9_readRow 108 = .ok (.aload_n 1, 1) := by decide +kernel
theorem dX9_readRow_109 : decode cX9_readRow 109 = .ok (.iconst 2, 1) := by decide +kernel
theorem dX9_readRow_110 : decode cX9_readRow 110 = .ok (.putfield 60, 3) := by decide +kernel
theorem dX9_readRow_113 : decode cX9_readRow 113 = .ok (.aload_n 0, 1) := by decide +kernel
theorem dX9_readRow_114 : decode cX9_readRow 114 = .ok (.aload_n 1, 1) := by decide +kernel
theorem dX9_readRow_115 : decode cX9_readRow 115 = .ok (.bipush 100, 2) := by decide +kernel
theorem dX9_readRow_117 : decode cX9_readRow 117 = .ok (.invokevirtual 61, 3) := by decide +kernel
theorem dX9_readRow_120 : decode cX9_readRow 120 = .ok (.ireturn, 1) := by decide +kernel
theorem dX9_readRow_121 : decode cX9_readRow 121 = .ok (.aload_n 0, 1) := by decide +kernel
theorem dX9_readRow_122 : decode cX9_readRow 122 = .ok (.ldc 77, 2) := by decide +kernel
theorem dX9_readRow_124 : decode cX9_readRow 124 = .ok (.invokevirtual 56, 3) := by decide +kernel
theorem dX9_readRow_127 : decode cX9_readRow 127 = .ok (.ifCond .eq 32, 3) := by decide +kernel
theorem dX9_readRow_130 : decode cX9_readRow 130 = .ok (.aload_n 1, 1) := by decide +kernel
theorem dX9_readRow_131 : decode cX9_readRow 131 = .ok (.iconst 3, 1) := by decide +kernel
theorem dX9_readRow_132 : decode cX9_readRow 132 = .ok (.putfield 60, 3) := by decide +kernel
theorem dX9_readRow_135 : decode cX9_readRow 135 = .ok (.aload_n 0, 1) := by decide +kernel
theorem dX9_readRow_136 : decode cX9_readRow 136 = .ok (.aload_n 1, 1) := by decide +kernel
theorem dX9_readRow_137 : decode cX9_readRow 137 = .ok (.bipush 6, 2) := by decide +kernel
theorem dX9_readRow_139 : decode cX9_readRow 139 = .ok (.invokevirtual 61, 3) := by decide +kernel
theorem dX9_readRow_142 : decode cX9_readRow 142 = .ok (.ifCond .eq 15, 3) := by decide +kernel
theorem dX9_readRow_145 : decode cX9_readRow 145 = .ok (.aload_n 0, 1) := by decide +kernel
theorem dX9_readRow_146 : decode cX9_readRow 146 = .ok (.aload_n 1, 1) := by decide +kernel
theorem dX9_readRow_147 : decode cX9_readRow 147 = .ok (.invokevirtual 79, 3) := by decide +kernel
theorem dX9_readRow_150 : decode cX9_readRow 150 = .ok (.ifCond .eq 7, 3) := by decide +kernel
theorem dX9_readRow_153 : decode cX9_readRow 153 = .ok (.iconst 1, 1) := by decide +kernel
theorem dX9_readRow_154 : decode cX9_readRow 154 = .ok (.goto 4, 3) := by decide +kernel
theorem dX9_readRow_157 : decode cX9_readRow 157 = .ok (.iconst 0, 1) := by decide +kernel
theorem dX9_readRow_158 : decode cX9_readRow 158 = .ok (.ireturn, 1) := by decide +kernel
theorem dX9_readRow_159 : decode cX9_readRow 159 = .ok (.aload_n 0, 1) := by decide +kernel
theorem dX9_readRow_160 : decode cX9_readRow 160 = .ok (.ldc 82, 2) := by decide +kernel
theorem dX9_readRow_162 : decode cX9_readRow 162 = .ok (.invokevirtual 56, 3) := by decide +kernel
theorem dX9_readRow_165 : decode cX9_readRow 165 = .ok (.ifCond .eq 32, 3) := by decide +kernel
theorem dX9_readRow_168 : decode cX9_readRow 168 = .ok (.aload_n 1, 1) := by decide +kernel
theorem dX9_readRow_169 : decode cX9_readRow 169 = .ok (.iconst 4, 1) := by decide +kernel
theorem dX9_readRow_170 : decode cX9_readRow 170 = .ok (.putfield 60, 3) := by decide +kernel
theorem dX9_readRow_173 : decode cX9_readRow 173 = .ok (.aload_n 0, 1) := by decide +kernel
theorem dX9_readRow_174 : decode cX9_readRow 174 = .ok (.aload_n 1, 1) := by decide +kernel
theorem dX9_readRow_175 : decode cX9_readRow 175 = .ok (.bipush 6, 2) := by decide +kernel
theorem dX9_readRow_177 : decode cX9_readRow 177 = .ok (.invokevirtual 61, 3) := by decide +kernel
theorem dX9_readRow_180 : decode cX9_readRow 180 = .ok (.ifCond .eq 15, 3) := by decide +kernel
theorem dX9_readRow_183 : decode cX9_readRow 183 = .ok (.aload_n 0, 1) := by decide +kernel
theorem dX9_readRow_184 : decode cX9_readRow 184 = .ok (.aload_n 1, 1) := by decide +kernel
theorem dX9_readRow_185 : decode cX9_readRow 185 = .ok (.invokevirtual 79, 3) := by decide +kernel
theorem dX9_readRow_188 : decode cX9_readRow 188 = .ok (.ifCond .eq 7, 3) := by decide +kernel
theorem dX9_readRow_191 : decode cX9_readRow 191 = .ok (.iconst 1, 1) := by decide +kernel
theorem dX9_readRow_192 : decode cX9_readRow 192 = .ok (.goto 4, 3) := by decide +kernel
theorem dX9_readRow_195 : decode cX9_readRow 195 = .ok (.iconst 0, 1) := by decide +kernel
theorem dX9_readRow_196 : decode cX9_readRow 196 = .ok (.ireturn, 1) := by decide +kernel
theorem dX9_readRow_197 : decode cX9_readRow 197 = .ok (.iconst 0, 1) := by decide +kernel
theorem dX9_readRow_198 : decode cX9_readRow 198 = .ok (.ireturn, 1) := by decide +kernel
theorem dX9_readSubject_0 : decode cX9_readSubject 0 = .ok (.aload_n 1, 1) := by decide +kernel
theorem dX9_readSubject_1 : decode cX9_readSubject 1 = .ok (.aload_n 0, 1) := by decide +kernel
theorem dX9_readSubject_2 : decode cX9_readSubject 2 = .ok (.invokevirtual 84, 3) := by decide +kernel
theorem dX9_readSubject_5 : decode cX9_readSubject 5 = .ok (.putfield 88, 3) := by decide +kernel
theorem dX9_readSubject_8 : decode cX9_readSubject 8 = .ok (.aload_n 1, 1) := by decide +kernel
theorem dX9_readSubject_9 : decode cX9_readSubject 9 = .ok (.getfield 88, 3) := by decide +kernel
theorem dX9_readSubject_12 : decode cX9_readSubject 12 = .ok (.iload_n 2, 1) := by decide +kernel
theorem dX9_readSubject_13 : decode cX9_readSubject 13 = .ok (.invokestatic 91, 3) := by decide +kernel
theorem dX9_readSubject_16 : decode cX9_readSubject 16 = .ok (.ifCond .ne 5, 3) := by decide +kernel
theorem dX9_readSubject_19 : decode cX9_readSubject 19 = .ok (.iconst 0, 1) := by decide +kernel
theorem dX9_readSubject_20 : decode cX9_readSubject 20 = .ok (.ireturn, 1) := by decide +kernel
theorem dX9_readSubject_21 : decode cX9_readSubject 21 = .ok (.aload_n 0, 1) := by decide +kernel
theorem dX9_readSubject_22 : decode cX9_readSubject 22 = .ok (.invokevirtual 32, 3) := by decide +kernel
theorem dX9_readSubject_25 : decode cX9_readSubject 25 = .ok (.iconst 1, 1) := by decide +kernel
theorem dX9_readSubject_26 : decode cX9_readSubject 26 = .ok (.ireturn, 1) := by decide +kernel
theorem dX9_readSounds_0 : decode cX9_readSounds 0 = .ok (.aload_n 0, 1) := by decide +kernel
theorem dX9_readSounds_1 : decode cX9_readSounds 1 = .ok (.getfield 42, 3) := by decide +kernel
theorem dX9_readSounds_4 : decode cX9_readSounds 4 = .ok (.iconst 1, 1) := by decide +kernel
theorem dX9_readSounds_5 : decode cX9_readSounds 5 = .ok (.if_icmp .ne 17, 3) := by decide +kernel
theorem dX9_readSounds_8 : decode cX9_readSounds 8 = .ok (.aload_n 0, 1) := by decide +kernel
theorem dX9_readSounds_9 : decode cX9_readSounds 9 = .ok (.getfield 29, 3) := by decide +kernel
theorem dX9_readSounds_12 : decode cX9_readSounds 12 = .ok (.aload_n 0, 1) := by decide +kernel
theorem dX9_readSounds_13 : decode cX9_readSounds 13 = .ok (.getfield 39, 3) := by decide +kernel
theorem dX9_readSounds_16 : decode cX9_readSounds 16 = .ok (.isub, 1) := by decide +kernel
theorem dX9_readSounds_17 : decode cX9_readSounds 17 = .ok (.bipush 8, 2) := by decide +kernel
theorem dX9_readSounds_19 : decode cX9_readSounds 19 = .ok (.if_icmp .le 5, 3) := by decide +kernel
theorem dX9_readSounds_22 : decode cX9_readSounds 22 = .ok (.iconst 0, 1) := by decide +kernel
theorem dX9_readSounds_23 : decode cX9_readSounds 23 = .ok (.ireturn, 1) := by decide +kernel
theorem dX9_readSounds_24 : decode cX9_readSounds 24 = .ok (.aload_n 0, 1) := by decide +kernel
theorem dX9_readSounds_25 : decode cX9_readSounds 25 = .ok (.getfield 39, 3) := by decide +kernel
theorem dX9_readSounds_28 : decode cX9_readSounds 28 = .ok (.istore_n 2, 1) := by decide +kernel
theorem dX9_readSounds_29 : decode cX9_readSounds 29 = .ok (.iload_n 2, 1) := by decide +kernel
theorem dX9_readSounds_30 : decode cX9_readSounds 30 = .ok (.aload_n 0, 1) := by decide +kernel
theorem dX9_readSounds_31 : decode cX9_readSounds 31 = .ok (.getfield 29, 3) := by decide +kernel
theorem dX9_readSounds_34 : decode cX9_readSounds 34 = .ok (.if_icmp .ge 50, 3) := by decide +kernel
theorem dX9_readSounds_37 : decode cX9_readSounds 37 = .ok (.aload_n 0, 1) := by decide +kernel
theorem dX9_readSounds_38 : decode cX9_readSounds 38 = .ok (.getfield 9, 3) := by decide +kernel
theorem dX9_readSounds_41 : decode cX9_readSounds 41 = .ok (.iload_n 2, 1) := by decide +kernel
theorem dX9_readSounds_42 : decode cX9_readSounds 42 = .ok (.iaload, 1) := by decide +kernel
theorem dX9_readSounds_43 : decode cX9_readSounds 43 = .ok (.bipush 112, 2) := by decide +kernel
theorem dX9_readSounds_45 : decode cX9_readSounds 45 = .ok (.if_icmp .le 5, 3) := by decide +kernel
theorem dX9_readSounds_48 : decode cX9_readSounds 48 = .ok (.iconst 0, 1) := by decide +kernel
theorem dX9_readSounds_49 : decode cX9_readSounds 49 = .ok (.ireturn, 1) := by decide +kernel
theorem dX9_readSounds_50 : decode cX9_readSounds 50 = .ok (.aload_n 1, 1) := by decide +kernel
theorem dX9_readSounds_51 : decode cX9_readSounds 51 = .ok (.getfield 95, 3) := by decide +kernel
theorem dX9_readSounds_54 : decode cX9_readSounds 54 = .ok (.aload_n 1, 1) := by decide +kernel
theorem dX9_readSounds_55 : decode cX9_readSounds 55 = .ok (.getfield 53, 3) := by decide +kernel
theorem dX9_readSounds_58 : decode cX9_readSounds 58 = .ok (.aload_n 0, 1) := by decide +kernel
theorem dX9_readSounds_59 : decode cX9_readSounds 59 = .ok (.getfield 9, 3) := by decide +kernel
theorem dX9_readSounds_62 : decode cX9_readSounds 62 = .ok (.iload_n 2, 1) := by decide +kernel
theorem dX9_readSounds_63 : decode cX9_readSounds 63 = .ok (.iaload, 1) := by decide +kernel
theorem dX9_readSounds_64 : decode cX9_readSounds 64 = .ok (.bipush 97, 2) := by decide +kernel
theorem dX9_readSounds_66 : decode cX9_readSounds 66 = .ok (.isub, 1) := by decide +kernel
theorem dX9_readSounds_67 : decode cX9_readSounds 67 = .ok (.iastore, 1) := by decide +kernel
theorem dX9_readSounds_68 : decode cX9_readSounds 68 = .ok (.aload_n 1, 1) := by decide +kernel
theorem dX9_readSounds_69 : decode cX9_readSounds 69 = .ok (.dup, 1) := by decide +kernel
theorem dX9_readSounds_70 : decode cX9_readSounds 70 = .ok (.getfield 53, 3) := by decide +kernel
theorem dX9_readSounds_73 : decode cX9_readSounds 73 = .ok (.iconst 1, 1) := by decide +kernel
theorem dX9_readSounds_74 : decode cX9_readSounds 74 = .ok (.iadd, 1) := by decide +kernel
theorem dX9_readSounds_75 : decode cX9_readSounds 75 = .ok (.putfield 53, 3) := by decide +kernel
theorem dX9_readSounds_78 : decode cX9_readSounds 78 = .ok (.iinc 2 1, 3) := by decide +kernel
theorem dX9_readSounds_81 : decode cX9_readSounds 81 = .ok (.goto (-52), 3) := by decide +kernel
theorem dX9_readSounds_84 : decode cX9_readSounds 84 = .ok (.aload_n 0, 1) := by decide +kernel
theorem dX9_readSounds_85 : decode cX9_readSounds 85 = .ok (.invokevirtual 32, 3) := by decide +kernel
theorem dX9_readSounds_88 : decode cX9_readSounds 88 = .ok (.iconst 1, 1) := by decide +kernel
theorem dX9_readSounds_89 : decode cX9_readSounds 89 = .ok (.ireturn, 1) := by decide +kernel
theorem dX9_readParts_0 : decode cX9_readParts 0 = .ok (.aload_n 1, 1) := by decide +kernel
theorem dX9_readParts_1 : decode cX9_readParts 1 = .ok (.getfield 53, 3) := by decide +kernel
theorem dX9_readParts_4 : decode cX9_readParts 4 = .ok (.bipush 8, 2) := by decide +kernel
theorem dX9_readParts_6 : decode cX9_readParts 6 = .ok (.if_icmp .ge 84, 3) := by decide +kernel
theorem dX9_readParts_9 : decode cX9_readParts 9 = .ok (.aload_n 0, 1) := by decide +kernel
theorem dX9_readParts_10 : decode cX9_readParts 10 = .ok (.bipush 35, 2) := by decide +kernel
theorem dX9_readParts_12 : decode cX9_readParts 12 = .ok (.invokevirtual 45, 3) := by decide +kernel
theorem dX9_readParts_15 : decode cX9_readParts 15 = .ok (.ifCond .eq 8, 3) := by decide +kernel
theorem dX9_readParts_18 : decode cX9_readParts 18 = .ok (.bipush 100, 2) := by decide +kernel
theorem dX9_readParts_20 : decode cX9_readParts 20 = .ok (.goto 7, 3) := by decide +kernel
theorem dX9_readParts_23 : decode cX9_readParts 23 = .ok (.aload_n 0, 1) := by decide +kernel
theorem dX9_readParts_24 : decode cX9_readParts 24 = .ok (.invokevirtual 84, 3) := by decide +kernel
theorem dX9_readParts_27 : decode cX9_readParts 27 = .ok (.istore_n 2, 1) := by decide +kernel
theorem dX9_readParts_28 : decode cX9_readParts 28 = .ok (.iload_n 2, 1) := by decide +kernel
theorem dX9_readParts_29 : decode cX9_readParts 29 = .ok (.bipush 100, 2) := by decide +kernel
theorem dX9_readParts_31 : decode cX9_readParts 31 = .ok (.if_icmp .eq 14, 3) := by decide +kernel
theorem dX9_readParts_34 : decode cX9_readParts 34 = .ok (.iload_n 2, 1) := by decide +kernel
theorem dX9_readParts_35 : decode cX9_readParts 35 = .ok (.bipush 32, 2) := by decide +kernel
theorem dX9_readParts_37 : decode cX9_readParts 37 = .ok (.invokestatic 91, 3) := by decide +kernel
theorem dX9_readParts_40 : decode cX9_readParts 40 = .ok (.ifCond .ne 5, 3) := by decide +kernel
theorem dX9_readParts_43 : decode cX9_readParts 43 = .ok (.iconst 0, 1) := by decide +kernel
theorem dX9_readParts_44 : decode cX9_readParts 44 = .ok (.ireturn, 1) := by decide +kernel
theorem dX9_readParts_45 : decode cX9_readParts 45 = .ok (.aload_n 1, 1) := by decide +kernel
theorem dX9_readParts_46 : decode cX9_readParts 46 = .ok (.getfield 95, 3) := by decide +kernel
theorem dX9_readParts_49 : decode cX9_readParts 49 = .ok (.aload_n 1, 1) := by decide +kernel
theorem dX9_readParts_50 : decode cX9_readParts 50 = .ok (.getfield 53, 3) := by decide +kernel
theorem dX9_readParts_53 : decode cX9_readParts 53 = .ok (.iload_n 2, 1) := by decide +kernel
theorem dX9_readParts_54 : decode cX9_readParts 54 = .ok (.iastore, 1) := by decide +kernel
theorem dX9_readParts_55 : decode cX9_readParts 55 = .ok (.aload_n 1, 1) := by decide +kernel
theorem dX9_readParts_56 : decode cX9_readParts 56 = .ok (.dup, 1) := by decide +kernel
theorem dX9_readParts_57 : decode cX9_readParts 57 = .ok (.getfield 53, 3) := by decide +kernel
theorem dX9_readParts_60 : decode cX9_readParts 60 = .ok (.iconst 1, 1) := by decide +kernel
theorem dX9_readParts_61 : decode cX9_readParts 61 = .ok (.iadd, 1) := by decide +kernel
theorem dX9_readParts_62 : decode cX9_readParts 62 = .ok (.putfield 53, 3) := by decide +kernel
theorem dX9_readParts_65 : decode cX9_readParts 65 = .ok (.aload_n 0, 1) := by decide +kernel
theorem dX9_readParts_66 : decode cX9_readParts 66 = .ok (.invokevirtual 32, 3) := by decide +kernel
theorem dX9_readParts_69 : decode cX9_readParts 69 = .ok (.aload_n 0, 1) := by decide +kernel
theorem dX9_readParts_70 : decode cX9_readParts 70 = .ok (.getfield 42, 3) := by decide +kernel
theorem dX9_readParts_73 : decode cX9_readParts 73 = .ok (.ifCond .eq 12, 3) := by decide +kernel
theorem dX9_readParts_76 : decode cX9_readParts 76 = .ok (.aload_n 0, 1) := by decide +kernel
theorem dX9_readParts_77 : decode cX9_readParts 77 = .ok (.bipush 59, 2) := by decide +kernel
theorem dX9_readParts_79 : decode cX9_readParts 79 = .ok (.invokevirtual 45, 3) := by decide +kernel
theorem dX9_readParts_82 : decode cX9_readParts 82 = .ok (.ifCond .eq 5, 3) := by decide +kernel
theorem dX9_readParts_85 : decode cX9_readParts 85 = .ok (.iconst 1, 1) := by decide +kernel
theorem dX9_readParts_86 : decode cX9_readParts 86 = .ok (.ireturn, 1) := by decide +kernel
theorem dX9_readParts_87 : decode cX9_readParts 87 = .ok (.goto (-87), 3) := by decide +kernel
theorem dX9_readParts_90 : decode cX9_readParts 90 = .ok (.iconst 1, 1) := by decide +kernel
theorem dX9_readParts_91 : decode cX9_readParts 91 = .ok (.ireturn, 1) := by decide +kernel
theorem dX9_readOther_0 : decode cX9_readOther 0 = .ok (.aload_n 0, 1) := by decide +kernel
theorem dX9_readOther_1 : decode cX9_readOther 1 = .ok (.invokevirtual 84, 3) := by decide +kernel
theorem dX9_readOther_4 : decode cX9_readOther 4 = .ok (.istore_n 2, 1) := by decide +kernel
theorem dX9_readOther_5 : decode cX9_readOther 5 = .ok (.iload_n 2, 1) := by decide +kernel
theorem dX9_readOther_6 : decode cX9_readOther 6 = .ok (.bipush 6, 2) := by decide +kernel
theorem dX9_readOther_8 : decode cX9_readOther 8 = .ok (.invokestatic 91, 3) := by decide +kernel
theorem dX9_readOther_11 : decode cX9_readOther 11 = .ok (.ifCond .eq 11, 3) := by decide +kernel
theorem dX9_readOther_14 : decode cX9_readOther 14 = .ok (.iload_n 2, 1) := by decide +kernel
theorem dX9_readOther_15 : decode cX9_readOther 15 = .ok (.aload_n 1, 1) := by decide +kernel
theorem dX9_readOther_16 : decode cX9_readOther 16 = .ok (.getfield 88, 3) := by decide +kernel
theorem dX9_readOther_19 : decode cX9_readOther 19 = .ok (.if_icmp .ne 5, 3) := by decide +kernel
theorem dX9_readOther_22 : decode cX9_readOther 22 = .ok (.iconst 0, 1) := by decide +kernel
theorem dX9_readOther_23 : decode cX9_readOther 23 = .ok (.ireturn, 1) := by decide +kernel
theorem dX9_readOther_24 : decode cX9_readOther 24 = .ok (.aload_n 1, 1) := by decide +kernel
theorem dX9_readOther_25 : decode cX9_readOther 25 = .ok (.getfield 95, 3) := by decide +kernel
theorem dX9_readOther_28 : decode cX9_readOther 28 = .ok (.iconst 0, 1) := by decide +kernel
theorem dX9_readOther_29 : decode cX9_readOther 29 = .ok (.iload_n 2, 1) := by decide +kernel
theorem dX9_readOther_30 : decode cX9_readOther 30 = .ok (.iastore, 1) := by decide +kernel
theorem dX9_readOther_31 : decode cX9_readOther 31 = .ok (.aload_n 1, 1) := by decide +kernel
theorem dX9_readOther_32 : decode cX9_readOther 32 = .ok (.iconst 1, 1) := by decide +kernel
theorem dX9_readOther_33 : decode cX9_readOther 33 = .ok (.putfield 53, 3) := by decide +kernel
theorem dX9_readOther_36 : decode cX9_readOther 36 = .ok (.aload_n 0, 1) := by decide +kernel
theorem dX9_readOther_37 : decode cX9_readOther 37 = .ok (.invokevirtual 32, 3) := by decide +kernel
theorem dX9_readOther_40 : decode cX9_readOther 40 = .ok (.iconst 1, 1) := by decide +kernel
theorem dX9_readOther_41 : decode cX9_readOther 41 = .ok (.ireturn, 1) := by decide +kernel
theorem dX9_number_0 : decode cX9_number 0 = .ok (.aload_n 0, 1) := by decide +kernel
theorem dX9_number_1 : decode cX9_number 1 = .ok (.getfield 42, 3) := by decide +kernel
theorem dX9_number_4 : decode cX9_number 4 = .ok (.iconst 2, 1) := by decide +kernel
theorem dX9_number_5 : decode cX9_number 5 = .ok (.if_icmp .ne 16, 3) := by decide +kernel
theorem dX9_number_8 : decode cX9_number 8 = .ok (.aload_n 0, 1) := by decide +kernel
theorem dX9_number_9 : decode cX9_number 9 = .ok (.getfield 29, 3) := by decide +kernel
theorem dX9_number_12 : decode cX9_number 12 = .ok (.aload_n 0, 1) := by decide +kernel
theorem dX9_number_13 : decode cX9_number 13 = .ok (.getfield 39, 3) := by decide +kernel
theorem dX9_number_16 : decode cX9_number 16 = .ok (.isub, 1) := by decide +kernel
theorem dX9_number_17 : decode cX9_number 17 = .ok (.iconst 2, 1) := by decide +kernel
theorem dX9_number_18 : decode cX9_number 18 = .ok (.if_icmp .le 5, 3) := by decide +kernel
theorem dX9_number_21 : decode cX9_number 21 = .ok (.iconst (-1), 1) := by decide +kernel
theorem dX9_number_22 : decode cX9_number 22 = .ok (.ireturn, 1) := by decide +kernel
theorem dX9_number_23 : decode cX9_number 23 = .ok (.iconst 0, 1) := by decide +kernel
theorem dX9_number_24 : decode cX9_number 24 = .ok (.istore_n 1, 1) := by decide +kernel
theorem dX9_number_25 : decode cX9_number 25 = .ok (.aload_n 0, 1) := by decide +kernel
theorem dX9_number_26 : decode cX9_number 26 = .ok (.getfield 39, 3) := by decide +kernel
theorem dX9_number_29 : decode cX9_number 29 = .ok (.istore_n 2, 1) := by decide +kernel
theorem dX9_number_30 : decode cX9_number 30 = .ok (.iload_n 2, 1) := by decide +kernel
theorem dX9_number_31 : decode cX9_number 31 = .ok (.aload_n 0, 1) := by decide +kernel
theorem dX9_number_32 : decode cX9_number 32 = .ok (.getfield 29, 3) := by decide +kernel
theorem dX9_number_35 : decode cX9_number 35 = .ok (.if_icmp .ge 24, 3) := by decide +kernel
theorem dX9_number_38 : decode cX9_number 38 = .ok (.bipush 10, 2) := by decide +kernel
theorem dX9_number_40 : decode cX9_number 40 = .ok (.iload_n 1, 1) := by decide +kernel
theorem dX9_number_41 : decode cX9_number 41 = .ok (.imul, 1) := by decide +kernel
theorem dX9_number_42 : decode cX9_number 42 = .ok (.aload_n 0, 1) := by decide +kernel
theorem dX9_number_43 : decode cX9_number 43 = .ok (.getfield 9, 3) := by decide +kernel
theorem dX9_number_46 : decode cX9_number 46 = .ok (.iload_n 2, 1) := by decide +kernel
theorem dX9_number_47 : decode cX9_number 47 = .ok (.iaload, 1) := by decide +kernel
theorem dX9_number_48 : decode cX9_number 48 = .ok (.iadd, 1) := by decide +kernel
theorem dX9_number_49 : decode cX9_number 49 = .ok (.bipush 48, 2) := by decide +kernel
theorem dX9_number_51 : decode cX9_number 51 = .ok (.isub, 1) := by decide +kernel
theorem dX9_number_52 : decode cX9_number 52 = .ok (.istore_n 1, 1) := by decide +kernel
theorem dX9_number_53 : decode cX9_number 53 = .ok (.iinc 2 1, 3) := by decide +kernel
theorem dX9_number_56 : decode cX9_number 56 = .ok (.goto (-26), 3) := by decide +kernel
theorem dX9_number_59 : decode cX9_number 59 = .ok (.iload_n 1, 1) := by decide +kernel
theorem dX9_number_60 : decode cX9_number 60 = .ok (.ireturn, 1) := by decide +kernel
theorem dX9_isSign_0 : decode cX9_isSign 0 = .ok (.aload_n 0, 1) := by decide +kernel
theorem dX9_isSign_1 : decode cX9_isSign 1 = .ok (.getfield 42, 3) := by decide +kernel
theorem dX9_isSign_4 : decode cX9_isSign 4 = .ok (.iconst 3, 1) := by decide +kernel
theorem dX9_isSign_5 : decode cX9_isSign 5 = .ok (.if_icmp .ne 20, 3) := by decide +kernel
theorem dX9_isSign_8 : decode cX9_isSign 8 = .ok (.aload_n 0, 1) := by decide +kernel
theorem dX9_isSign_9 : decode cX9_isSign 9 = .ok (.getfield 9, 3) := by decide +kernel
theorem dX9_isSign_12 : decode cX9_isSign 12 = .ok (.aload_n 0, 1) := by decide +kernel
theorem dX9_isSign_13 : decode cX9_isSign 13 = .ok (.getfield 39, 3) := by decide +kernel
theorem dX9_isSign_16 : decode cX9_isSign 16 = .ok (.iaload, 1) := by decide +kernel
theorem dX9_isSign_17 : decode cX9_isSign 17 = .ok (.iload_n 1, 1) := by decide +kernel
theorem dX9_isSign_18 : decode cX9_isSign 18 = .ok (.if_icmp .ne 7, 3) := by decide +kernel
theorem dX9_isSign_21 : decode cX9_isSign 21 = .ok (.iconst 1, 1) := by decide +kernel
theorem dX9_isSign_22 : decode cX9_isSign 22 = .ok (.goto 4, 3) := by decide +kernel
theorem dX9_isSign_25 : decode cX9_isSign 25 = .ok (.iconst 0, 1) := by decide +kernel
theorem dX9_isSign_26 : decode cX9_isSign 26 = .ok (.ireturn, 1) := by decide +kernel
theorem dX9_takes_0 : decode cX9_takes 0 = .ok (.aload_n 0, 1) := by decide +kernel
theorem dX9_takes_1 : decode cX9_takes 1 = .ok (.getfield 29, 3) := by decide +kernel
theorem dX9_takes_4 : decode cX9_takes 4 = .ok (.aload_n 0, 1) := by decide +kernel
theorem dX9_takes_5 : decode cX9_takes 5 = .ok (.getfield 39, 3) := by decide +kernel
theorem dX9_takes_8 : decode cX9_takes 8 = .ok (.isub, 1) := by decide +kernel
theorem dX9_takes_9 : decode cX9_takes 9 = .ok (.aload_n 1, 1) := by decide +kernel
theorem dX9_takes_10 : decode cX9_takes 10 = .ok (.invokevirtual 98, 3) := by decide +kernel
theorem dX9_takes_13 : decode cX9_takes 13 = .ok (.if_icmp .eq 5, 3) := by decide +kernel
theorem dX9_takes_16 : decode cX9_takes 16 = .ok (.iconst 0, 1) := by decide +kernel
theorem dX9_takes_17 : decode cX9_takes 17 = .ok (.ireturn, 1) := by decide +kernel
theorem dX9_takes_18 : decode cX9_takes 18 = .ok (.iconst 0, 1) := by decide +kernel
theorem dX9_takes_19 : decode cX9_takes 19 = .ok (.istore_n 2, 1) := by decide +kernel
theorem dX9_takes_20 : decode cX9_takes 20 = .ok (.iload_n 2, 1) := by decide +kernel
theorem dX9_takes_21 : decode cX9_takes 21 = .ok (.aload_n 1, 1) := by decide +kernel
theorem dX9_takes_22 : decode cX9_takes 22 = .ok (.invokevirtual 98, 3) := by decide +kernel
theorem dX9_takes_25 : decode cX9_takes 25 = .ok (.if_icmp .ge 30, 3) := by decide +kernel
theorem dX9_takes_28 : decode cX9_takes 28 = .ok (.aload_n 0, 1) := by decide +kernel
theorem dX9_takes_29 : decode cX9_takes 29 = .ok (.getfield 9, 3) := by decide +kernel
theorem dX9_takes_32 : decode cX9_takes 32 = .ok (.aload_n 0, 1) := by decide +kernel
theorem dX9_takes_33 : decode cX9_takes 33 = .ok (.getfield 39, 3) := by decide +kernel
theorem dX9_takes_36 : decode cX9_takes 36 = .ok (.iload_n 2, 1) := by decide +kernel
theorem dX9_takes_37 : decode cX9_takes 37 = .ok (.iadd, 1) := by decide +kernel
theorem dX9_takes_38 : decode cX9_takes 38 = .ok (.iaload, 1) := by decide +kernel
theorem dX9_takes_39 : decode cX9_takes 39 = .ok (.aload_n 1, 1) := by decide +kernel
theorem dX9_takes_40 : decode cX9_takes 40 = .ok (.iload_n 2, 1) := by decide +kernel
theorem dX9_takes_41 : decode cX9_takes 41 = .ok (.invokevirtual 103, 3) := by decide +kernel
theorem dX9_takes_44 : decode cX9_takes 44 = .ok (.if_icmp .eq 5, 3) := by decide +kernel
theorem dX9_takes_47 : decode cX9_takes 47 = .ok (.iconst 0, 1) := by decide +kernel
theorem dX9_takes_48 : decode cX9_takes 48 = .ok (.ireturn, 1) := by decide +kernel
theorem dX9_takes_49 : decode cX9_takes 49 = .ok (.iinc 2 1, 3) := by decide +kernel
theorem dX9_takes_52 : decode cX9_takes 52 = .ok (.goto (-32), 3) := by decide +kernel
theorem dX9_takes_55 : decode cX9_takes 55 = .ok (.aload_n 0, 1) := by decide +kernel
theorem dX9_takes_56 : decode cX9_takes 56 = .ok (.invokevirtual 32, 3) := by decide +kernel
theorem dX9_takes_59 : decode cX9_takes 59 = .ok (.iconst 1, 1) := by decide +kernel
theorem dX9_takes_60 : decode cX9_takes 60 = .ok (.ireturn, 1) := by decide +kernel
theorem dX10_init_0 : decode cX10_init 0 = .ok (.aload_n 0, 1) := by decide +kernel
theorem dX10_init_1 : decode cX10_init 1 = .ok (.invokespecial 1, 3) := by decide +kernel
theorem dX10_init_4 : decode cX10_init 4 = .ok (.new 7, 3) := by decide +kernel
theorem dX10_init_7 : decode cX10_init 7 = .ok (.dup, 1) := by decide +kernel
theorem dX10_init_8 : decode cX10_init 8 = .ok (.invokespecial 9, 3) := by decide +kernel
theorem dX10_init_11 : decode cX10_init 11 = .ok (.astore_n 1, 1) := by decide +kernel
theorem dX10_init_12 : decode cX10_init 12 = .ok (.new 10, 3) := by decide +kernel
theorem dX10_init_15 : decode cX10_init 15 = .ok (.dup, 1) := by decide +kernel
theorem dX10_init_16 : decode cX10_init 16 = .ok (.aload_n 1, 1) := by decide +kernel
theorem dX10_init_17 : decode cX10_init 17 = .ok (.invokespecial 12, 3) := by decide +kernel
theorem dX10_init_20 : decode cX10_init 20 = .ok (.astore_n 2, 1) := by decide +kernel
theorem dX10_init_21 : decode cX10_init 21 = .ok (.new 15, 3) := by decide +kernel
theorem dX10_init_24 : decode cX10_init 24 = .ok (.dup, 1) := by decide +kernel
theorem dX10_init_25 : decode cX10_init 25 = .ok (.invokespecial 17, 3) := by decide +kernel
theorem dX10_init_28 : decode cX10_init 28 = .ok (.astore_n 3, 1) := by decide +kernel
theorem dX10_init_29 : decode cX10_init 29 = .ok (.aload_n 0, 1) := by decide +kernel
theorem dX10_init_30 : decode cX10_init 30 = .ok (.aload_n 1, 1) := by decide +kernel
theorem dX10_init_31 : decode cX10_init 31 = .ok (.putfield 18, 3) := by decide +kernel
theorem dX10_init_34 : decode cX10_init 34 = .ok (.aload_n 0, 1) := by decide +kernel
theorem dX10_init_35 : decode cX10_init 35 = .ok (.aload_n 2, 1) := by decide +kernel
theorem dX10_init_36 : decode cX10_init 36 = .ok (.putfield 24, 3) := by decide +kernel
theorem dX10_init_39 : decode cX10_init 39 = .ok (.aload_n 0, 1) := by decide +kernel
theorem dX10_init_40 : decode cX10_init 40 = .ok (.aload_n 3, 1) := by decide +kernel
theorem dX10_init_41 : decode cX10_init 41 = .ok (.putfield 28, 3) := by decide +kernel
theorem dX10_init_44 : decode cX10_init 44 = .ok (.aload_n 0, 1) := by decide +kernel
theorem dX10_init_45 : decode cX10_init 45 = .ok (.new 32, 3) := by decide +kernel
theorem dX10_init_48 : decode cX10_init 48 = .ok (.dup, 1) := by decide +kernel
theorem dX10_init_49 : decode cX10_init 49 = .ok (.invokespecial 34, 3) := by decide +kernel
theorem dX10_init_52 : decode cX10_init 52 = .ok (.putfield 35, 3) := by decide +kernel
theorem dX10_init_55 : decode cX10_init 55 = .ok (.aload_n 0, 1) := by decide +kernel
theorem dX10_init_56 : decode cX10_init 56 = .ok (.new 39, 3) := by decide +kernel
theorem dX10_init_59 : decode cX10_init 59 = .ok (.dup, 1) := by decide +kernel
theorem dX10_init_60 : decode cX10_init 60 = .ok (.aload_n 3, 1) := by decide +kernel
theorem dX10_init_61 : decode cX10_init 61 = .ok (.aload_n 2, 1) := by decide +kernel
theorem dX10_init_62 : decode cX10_init 62 = .ok (.invokespecial 41, 3) := by decide +kernel
theorem dX10_init_65 : decode cX10_init 65 = .ok (.putfield 44, 3) := by decide +kernel
theorem dX10_init_68 : decode cX10_init 68 = .ok (.aload_n 0, 1) := by decide +kernel
theorem dX10_init_69 : decode cX10_init 69 = .ok (.new 48, 3) := by decide +kernel
theorem dX10_init_72 : decode cX10_init 72 = .ok (.dup, 1) := by decide +kernel
theorem dX10_init_73 : decode cX10_init 73 = .ok (.aload_n 3, 1) := by decide +kernel
theorem dX10_init_74 : decode cX10_init 74 = .ok (.invokespecial 50, 3) := by decide +kernel
theorem dX10_init_77 : decode cX10_init 77 = .ok (.putfield 53, 3) := by decide +kernel
theorem dX10_init_80 : decode cX10_init 80 = .ok (.aload_n 0, 1) := by decide +kernel
theorem dX10_init_81 : decode cX10_init 81 = .ok (.new 57, 3) := by decide +kernel
theorem dX10_init_84 : decode cX10_init 84 = .ok (.dup, 1) := by decide +kernel
theorem dX10_init_85 : decode cX10_init 85 = .ok (.invokespecial 59, 3) := by decide +kernel
theorem dX10_init_88 : decode cX10_init 88 = .ok (.putfield 60, 3) := by decide +kernel
theorem dX10_init_91 : decode cX10_init 91 = .ok (.return_, 1) := by decide +kernel
theorem dX10_piece_0 : decode cX10_piece 0 = .ok (.iload_n 2, 1) := by decide +kernel
theorem dX10_piece_1 : decode cX10_piece 1 = .ok (.iconst 1, 1) := by decide +kernel
theorem dX10_piece_2 : decode cX10_piece 2 = .ok (.bipush 8, 2) := by decide +kernel
theorem dX10_piece_4 : decode cX10_piece 4 = .ok (.invokestatic 64, 3) := by decide +kernel
theorem dX10_piece_7 : decode cX10_piece 7 = .ok (.ifCond .eq 31, 3) := by decide +kernel
theorem dX10_piece_10 : decode cX10_piece 10 = .ok (.iload_n 3, 1) := by decide +kernel
theorem dX10_piece_11 : decode cX10_piece 11 = .ok (.bipush 100, 2) := by decide +kernel
theorem dX10_piece_13 : decode cX10_piece 13 = .ok (.invokestatic 68, 3) := by decide +kernel
theorem dX10_piece_16 : decode cX10_piece 16 = .ok (.ifCond .eq 22, 3) := by decide +kernel
theorem dX10_piece_19 : decode cX10_piece 19 = .ok (.iload 4, 2) := by decide +kernel
theorem dX10_piece_21 : decode cX10_piece 21 = .ok (.bipush 100, 2) := by decide +kernel
theorem dX10_piece_23 : decode cX10_piece 23 = .ok (.invokestatic 68, 3) := by decide +kernel
theorem dX10_piece_26 : decode cX10_piece 26 = .ok (.ifCond .eq 12, 3) := by decide +kernel
theorem dX10_piece_29 : decode cX10_piece 29 = .ok (.iload 5, 2) := by decide +kernel
theorem dX10_piece_31 : decode cX10_piece 31 = .ok (.iconst 4, 1) := by decide +kernel
theorem dX10_piece_32 : decode cX10_piece 32 = .ok (.invokestatic 68, 3) := by decide +kernel
theorem dX10_piece_35 : decode cX10_piece 35 = .ok (.ifCond .ne 6, 3) := by decide +kernel
theorem dX10_piece_38 : decode cX10_piece 38 = .ok (.bipush (-3), 2) := by decide +kernel
theorem dX10_piece_40 : decode cX10_piece 40 = .ok (.ireturn, 1) := by decide +kernel
theorem dX10_piece_41 : decode cX10_piece 41 = .ok (.aload_n 0, 1) := by decide +kernel
theorem dX10_piece_42 : decode cX10_piece 42 = .ok (.getfield 18, 3) := by decide +kernel
theorem dX10_piece_45 : decode cX10_piece 45 = .ok (.getfield 72, 3) := by decide +kernel
theorem dX10_piece_48 : decode cX10_piece 48 = .ok (.bipush 16, 2) := by decide +kernel
theorem dX10_piece_50 : decode cX10_piece 50 = .ok (.if_icmp .lt 6, 3) := by decide +kernel
theorem dX10_piece_53 : decode cX10_piece 53 = .ok (.bipush (-5), 2) := by decide +kernel
theorem dX10_piece_55 : decode cX10_piece 55 = .ok (.ireturn, 1) := by decide +kernel
theorem dX10_piece_56 : decode cX10_piece 56 = .ok (.aload_n 0, 1) := by decide +kernel
theorem dX10_piece_57 : decode cX10_piece 57 = .ok (.getfield 18, 3) := by decide +kernel
theorem dX10_piece_60 : decode cX10_piece 60 = .ok (.new 76, 3) := by decide +kernel
theorem dX10_piece_63 : decode cX10_piece 63 = .ok (.dup, 1) := by decide +kernel
theorem dX10_piece_64 : decode cX10_piece 64 = .ok (.iload_n 1, 1) := by decide +kernel
theorem dX10_piece_65 : decode cX10_piece 65 = .ok (.iload_n 2, 1) := by decide +kernel
theorem dX10_piece_66 : decode cX10_piece 66 = .ok (.iload_n 3, 1) := by decide +kernel
theorem dX10_piece_67 : decode cX10_piece 67 = .ok (.iload 4, 2) := by decide +kernel
theorem dX10_piece_69 : decode cX10_piece 69 = .ok (.iload 5, 2) := by decide +kernel
theorem dX10_piece_71 : decode cX10_piece 71 = .ok (.invokespecial 78, 3) := by decide +kernel
theorem dX10_piece_74 : decode cX10_piece 74 = .ok (.invokevirtual 81, 3) := by decide +kernel
theorem dX10_piece_77 : decode cX10_piece 77 = .ok (.ireturn, 1) := by decide +kernel
theorem dX10_worn_0 : decode cX10_worn 0 = .ok (.iload_n 1, 1) := by decide +kernel
theorem dX10_worn_1 : decode cX10_worn 1 = .ok (.aload_n 0, 1) := by decide +kernel
theorem dX10_worn_2 : decode cX10_worn 2 = .ok (.getfield 18, 3) := by decide +kernel
theorem dX10_worn_5 : decode cX10_worn 5 = .ok (.getfield 72, 3) := by decide +kernel
theorem dX10_worn_8 : decode cX10_worn 8 = .ok (.invokestatic 68, 3) := by decide +kernel
theorem dX10_worn_11 : decode cX10_worn 11 = .ok (.ifCond .ne 6, 3) := by decide +kernel
theorem dX10_worn_14 : decode cX10_worn 14 = .ok (.bipush (-2), 2) := by decide +kernel
theorem dX10_worn_16 : decode cX10_worn 16 = .ok (.ireturn, 1) := by decide +kernel
theorem dX10_worn_17 : decode cX10_worn 17 = .ok (.iload_n 2, 1) := by decide +kernel
theorem dX10_worn_18 : decode cX10_worn 18 = .ok (.iconst 1, 1) := by decide +kernel
theorem dX10_worn_19 : decode cX10_worn 19 = .ok (.aload_n 0, 1) := by decide +kernel
theorem dX10_worn_20 : decode cX10_worn 20 = .ok (.getfield 18, 3) := by decide +kernel
theorem dX10_worn_23 : decode cX10_worn 23 = .ok (.getfield 85, 3) := by decide +kernel
theorem dX10_worn_26 : decode cX10_worn 26 = .ok (.iload_n 1, 1) := by decide +kernel
theorem dX10_worn_27 : decode cX10_worn 27 = .ok (.aaload, 1) := by decide +kernel
theorem dX10_worn_28 : decode cX10_worn 28 = .ok (.getfield 89, 3) := by decide +kernel
theorem dX10_worn_31 : decode cX10_worn 31 = .ok (.ishl, 1) := by decide +kernel
theorem dX10_worn_32 : decode cX10_worn 32 = .ok (.invokestatic 68, 3) := by decide +kernel
theorem dX10_worn_35 : decode cX10_worn 35 = .ok (.ifCond .ne 6, 3) := by decide +kernel
theorem dX10_worn_38 : decode cX10_worn 38 = .ok (.bipush (-3), 2) := by decide +kernel
theorem dX10_worn_40 : decode cX10_worn 40 = .ok (.ireturn, 1) := by decide +kernel
theorem dX10_worn_41 : decode cX10_worn 41 = .ok (.aload_n 0, 1) := by decide +kernel
theorem dX10_worn_42 : decode cX10_worn 42 = .ok (.getfield 18, 3) := by decide +kernel
theorem dX10_worn_45 : decode cX10_worn 45 = .ok (.iload_n 1, 1) := by decide +kernel
theorem dX10_worn_46 : decode cX10_worn 46 = .ok (.iload_n 2, 1) := by decide +kernel
theorem dX10_worn_47 : decode cX10_worn 47 = .ok (.invokevirtual 90, 3) := by decide +kernel
theorem dX10_worn_50 : decode cX10_worn 50 = .ok (.ireturn, 1) := by decide +kernel
theorem dX10_of_0 : decode cX10_of 0 = .ok (.iload_n 1, 1) := by decide +kernel
theorem dX10_of_1 : decode cX10_of 1 = .ok (.aload_n 0, 1) := by decide +kernel
theorem dX10_of_2 : decode cX10_of 2 = .ok (.getfield 18, 3) := by decide +kernel
theorem dX10_of_5 : decode cX10_of 5 = .ok (.getfield 72, 3) := by decide +kernel
theorem dX10_of_8 : decode cX10_of 8 = .ok (.invokestatic 68, 3) := by decide +kernel
theorem dX10_of_11 : decode cX10_of 11 = .ok (.ifCond .eq 22, 3) := by decide +kernel
theorem dX10_of_14 : decode cX10_of 14 = .ok (.iload_n 2, 1) := by decide +kernel
theorem dX10_of_15 : decode cX10_of 15 = .ok (.aload_n 0, 1) := by decide +kernel
theorem dX10_of_16 : decode cX10_of 16 = .ok (.getfield 18, 3) := by decide +kernel
theorem dX10_of_19 : decode cX10_of 19 = .ok (.getfield 85, 3) := by decide +kernel
theorem dX10_of_22 : decode cX10_of 22 = .ok (.iload_n 1, 1) := by decide +kernel
theorem dX10_of_23 : decode cX10_of 23 = .ok (.aaload, 1) := by decide +kernel
theorem dX10_of_24 : decode cX10_of 24 = .ok (.getfield 89, 3) := by decide +kernel
theorem dX10_of_27 : decode cX10_of 27 = .ok (.invokestatic 68, 3) := by decide +kernel
theorem dX10_of_30 : decode cX10_of 30 = .ok (.ifCond .ne 6, 3) := by decide +kernel
theorem dX10_of_33 : decode cX10_of 33 = .ok (.bipush (-2), 2) := by decide +kernel
theorem dX10_of_35 : decode cX10_of 35 = .ok (.ireturn, 1) := by decide +kernel
theorem dX10_of_36 : decode cX10_of 36 = .ok (.aload_n 0, 1) := by decide +kernel
theorem dX10_of_37 : decode cX10_of 37 = .ok (.getfield 18, 3) := by decide +kernel
theorem dX10_of_40 : decode cX10_of 40 = .ok (.getfield 85, 3) := by decide +kernel
theorem dX10_of_43 : decode cX10_of 43 = .ok (.iload_n 1, 1) := by decide +kernel
theorem dX10_of_44 : decode cX10_of 44 = .ok (.aaload, 1) := by decide +kernel
theorem dX10_of_45 : decode cX10_of 45 = .ok (.astore 4, 2) := by decide +kernel
theorem dX10_of_47 : decode cX10_of 47 = .ok (.iload_n 3, 1) := by decide +kernel
theorem dX10_of_48 : decode cX10_of 48 = .ok (.tableswitch 50 0 2 #[28, 35, 43], 28) := by decide +kernel
theorem dX10_of_76 : decode cX10_of 76 = .ok (.aload 4, 2) := by decide +kernel
theorem dX10_of_78 : decode cX10_of 78 = .ok (.iload_n 2, 1) := by decide +kernel
theorem dX10_of_79 : decode cX10_of 79 = .ok (.invokevirtual 94, 3) := by decide +kernel
theorem dX10_of_82 : decode cX10_of 82 = .ok (.ireturn, 1) := by decide +kernel
theorem dX10_of_83 : decode cX10_of 83 = .ok (.aload 4, 2) := by decide +kernel
theorem dX10_of_85 : decode cX10_of 85 = .ok (.getfield 98, 3) := by decide +kernel
theorem dX10_of_88 : decode cX10_of 88 = .ok (.iload_n 2, 1) := by decide +kernel
theorem dX10_of_89 : decode cX10_of 89 = .ok (.iaload, 1) := by decide +kernel
theorem dX10_of_90 : decode cX10_of 90 = .ok (.ireturn, 1) := by decide +kernel
theorem dX10_of_91 : decode cX10_of 91 = .ok (.aload 4, 2) := by decide +kernel
theorem dX10_of_93 : decode cX10_of 93 = .ok (.iload_n 2, 1) := by decide +kernel
theorem dX10_of_94 : decode cX10_of 94 = .ok (.invokevirtual 102, 3) := by decide +kernel
theorem dX10_of_97 : decode cX10_of 97 = .ok (.ireturn, 1) := by decide +kernel
theorem dX10_of_98 : decode cX10_of 98 = .ok (.bipush (-3), 2) := by decide +kernel
theorem dX10_of_100 : decode cX10_of 100 = .ok (.ireturn, 1) := by decide +kernel
theorem dX10_lost_0 : decode cX10_lost 0 = .ok (.aload_n 0, 1) := by decide +kernel
theorem dX10_lost_1 : decode cX10_lost 1 = .ok (.getfield 18, 3) := by decide +kernel
theorem dX10_lost_4 : decode cX10_lost 4 = .ok (.invokevirtual 105, 3) := by decide +kernel
theorem dX10_lost_7 : decode cX10_lost 7 = .ok (.ireturn, 1) := by decide +kernel
theorem dX10_said_0 : decode cX10_said 0 = .ok (.iload_n 1, 1) := by decide +kernel
theorem dX10_said_1 : decode cX10_said 1 = .ok (.iconst 4, 1) := by decide +kernel
theorem dX10_said_2 : decode cX10_said 2 = .ok (.invokestatic 68, 3) := by decide +kernel
theorem dX10_said_5 : decode cX10_said 5 = .ok (.ifCond .eq 23, 3) := by decide +kernel
theorem dX10_said_8 : decode cX10_said 8 = .ok (.iload 4, 2) := by decide +kernel
theorem dX10_said_10 : decode cX10_said 10 = .ok (.iconst 1, 1) := by decide +kernel
theorem dX10_said_11 : decode cX10_said 11 = .ok (.bipush 16, 2) := by decide +kernel
theorem dX10_said_13 : decode cX10_said 13 = .ok (.invokestatic 64, 3) := by decide +kernel
theorem dX10_said_16 : decode cX10_said 16 = .ok (.ifCond .eq 12, 3) := by decide +kernel
theorem dX10_said_19 : decode cX10_said 19 = .ok (.iload 5, 2) := by decide +kernel
theorem dX10_said_21 : decode cX10_said 21 = .ok (.iconst 2, 1) := by decide +kernel
theorem dX10_said_22 : decode cX10_said 22 = .ok (.invokestatic 68, 3) := by decide +kernel
theorem dX10_said_25 : decode cX10_said 25 = .ok (.ifCond .ne 6, 3) := by decide +kernel
theorem dX10_said_28 : decode cX10_said 28 = .ok (.bipush (-3), 2) := by decide +kernel
theorem dX10_said_30 : decode cX10_said 30 = .ok (.ireturn, 1) := by decide +kernel
theorem dX10_said_31 : decode cX10_said 31 = .ok (.aload_n 0, 1) := by decide +kernel
theorem dX10_said_32 : decode cX10_said 32 = .ok (.getfield 24, 3) := by decide +kernel
theorem dX10_said_35 : decode cX10_said 35 = .ok (.iload_n 1, 1) := by decide +kernel
theorem dX10_said_36 : decode cX10_said 36 = .ok (.lload_n 2, 1) := by decide +kernel
theorem dX10_said_37 : decode cX10_said 37 = .ok (.iload 4, 2) := by decide +kernel
theorem dX10_said_39 : decode cX10_said 39 = .ok (.invokevirtual 109, 3) := by decide +kernel
theorem dX10_said_42 : decode cX10_said 42 = .ok (.iload 5, 2) := by decide +kernel
theorem dX10_said_44 : decode cX10_said 44 = .ok (.ifCond .ne 13, 3) := by decide +kernel
theorem dX10_said_47 : decode cX10_said 47 = .ok (.aload_n 0, 1) := by decide +kernel
theorem dX10_said_48 : decode cX10_said 48 = .ok (.getfield 24, 3) := by decide +kernel
theorem dX10_said_51 : decode cX10_said 51 = .ok (.invokevirtual 113, 3) := by decide +kernel
theorem dX10_said_54 : decode cX10_said 54 = .ok (.goto 10, 3) := by decide +kernel
theorem dX10_said_57 : decode cX10_said 57 = .ok (.aload_n 0, 1) := by decide +kernel
theorem dX10_said_58 : decode cX10_said 58 = .ok (.getfield 24, 3) := by decide +kernel
theorem dX10_said_61 : decode cX10_said 61 = .ok (.getfield 116, 3) := by decide +kernel
theorem dX10_said_64 : decode cX10_said 64 = .ok (.ireturn, 1) := by decide +kernel
theorem dX10_bit_0 : decode cX10_bit 0 = .ok (.iload_n 1, 1) := by decide +kernel
theorem dX10_bit_1 : decode cX10_bit 1 = .ok (.iconst 4, 1) := by decide +kernel
theorem dX10_bit_2 : decode cX10_bit 2 = .ok (.invokestatic 68, 3) := by decide +kernel
theorem dX10_bit_5 : decode cX10_bit 5 = .ok (.ifCond .eq 20, 3) := by decide +kernel
theorem dX10_bit_8 : decode cX10_bit 8 = .ok (.iload 4, 2) := by decide +kernel
theorem dX10_bit_10 : decode cX10_bit 10 = .ok (.iconst 1, 1) := by decide +kernel
theorem dX10_bit_11 : decode cX10_bit 11 = .ok (.bipush 16, 2) := by decide +kernel
theorem dX10_bit_13 : decode cX10_bit 13 = .ok (.invokestatic 64, 3) := by decide +kernel
theorem dX10_bit_16 : decode cX10_bit 16 = .ok (.ifCond .eq 9, 3) := by decide +kernel
theorem dX10_bit_19 : decode cX10_bit 19 = .ok (.iload 5, 2) := by decide +kernel
theorem dX10_bit_21 : decode cX10_bit 21 = .ok (.iconst (-1), 1) := by decide +kernel
theorem dX10_bit_22 : decode cX10_bit 22 = .ok (.if_icmp .ge 6, 3) := by decide +kernel
theorem dX10_bit_25 : decode cX10_bit 25 = .ok (.bipush (-3), 2) := by decide +kernel
theorem dX10_bit_27 : decode cX10_bit 27 = .ok (.ireturn, 1) := by decide +kernel
theorem dX10_bit_28 : decode cX10_bit 28 = .ok (.aload_n 0, 1) := by decide +kernel
theorem dX10_bit_29 : decode cX10_bit 29 = .ok (.getfield 24, 3) := by decide +kernel
theorem dX10_bit_32 : decode cX10_bit 32 = .ok (.iload_n 1, 1) := by decide +kernel
theorem dX10_bit_33 : decode cX10_bit 33 = .ok (.lload_n 2, 1) := by decide +kernel
theorem dX10_bit_34 : decode cX10_bit 34 = .ok (.iload 4, 2) := by decide +kernel
theorem dX10_bit_36 : decode cX10_bit 36 = .ok (.invokevirtual 109, 3) := by decide +kernel
theorem dX10_bit_39 : decode cX10_bit 39 = .ok (.aload_n 0, 1) := by decide +kernel
theorem dX10_bit_40 : decode cX10_bit 40 = .ok (.getfield 24, 3) := by decide +kernel
theorem dX10_bit_43 : decode cX10_bit 43 = .ok (.invokevirtual 119, 3) := by decide +kernel
theorem dX10_bit_46 : decode cX10_bit 46 = .ok (.aload_n 0, 1) := by decide +kernel
theorem dX10_bit_47 : decode cX10_bit 47 = .ok (.getfield 24, 3) := by decide +kernel
theorem dX10_bit_50 : decode cX10_bit 50 = .ok (.getfield 122, 3) := by decide +kernel
theorem dX10_bit_53 : decode cX10_bit 53 = .ok (.ifCond .ne 5, 3) := by decide +kernel
theorem dX10_bit_56 : decode cX10_bit 56 = .ok (.iconst (-1), 1) := by decide +kernel
theorem dX10_bit_57 : decode cX10_bit 57 = .ok (.ireturn, 1) := by decide +kernel
theorem dX10_bit_58 : decode cX10_bit 58 = .ok (.iload 5, 2) := by decide +kernel
theorem dX10_bit_60 : decode cX10_bit 60 = .ok (.iconst (-1), 1) := by decide +kernel
theorem dX10_bit_61 : decode cX10_bit 61 = .ok (.if_icmp .ne 11, 3) := by decide +kernel
theorem dX10_bit_64 : decode cX10_bit 64 = .ok (.aload_n 0, 1) := by decide +kernel
theorem dX10_bit_65 : decode cX10_bit 65 = .ok (.getfield 24, 3) := by decide +kernel
theorem dX10_bit_68 : decode cX10_bit 68 = .ok (.getfield 122, 3) := by decide +kernel
theorem dX10_bit_71 : decode cX10_bit 71 = .ok (.ireturn, 1) := by decide +kernel
theorem dX10_bit_72 : decode cX10_bit 72 = .ok (.iload 5, 2) := by decide +kernel
theorem dX10_bit_74 : decode cX10_bit 74 = .ok (.aload_n 0, 1) := by decide +kernel
theorem dX10_bit_75 : decode cX10_bit 75 = .ok (.getfield 24, 3) := by decide +kernel
theorem dX10_bit_78 : decode cX10_bit 78 = .ok (.getfield 122, 3) := by decide +kernel
theorem dX10_bit_81 : decode cX10_bit 81 = .ok (.if_icmp .ge 16, 3) := by decide +kernel
theorem dX10_bit_84 : decode cX10_bit 84 = .ok (.aload_n 0, 1) := by decide +kernel
theorem dX10_bit_85 : decode cX10_bit 85 = .ok (.getfield 24, 3) := by decide +kernel
theorem dX10_bit_88 : decode cX10_bit 88 = .ok (.getfield 125, 3) := by decide +kernel
theorem dX10_bit_91 : decode cX10_bit 91 = .ok (.iload 5, 2) := by decide +kernel
theorem dX10_bit_93 : decode cX10_bit 93 = .ok (.iaload, 1) := by decide +kernel
theorem dX10_bit_94 : decode cX10_bit 94 = .ok (.goto 4, 3) := by decide +kernel
theorem dX10_bit_97 : decode cX10_bit 97 = .ok (.iconst (-1), 1) := by decide +kernel
theorem dX10_bit_98 : decode cX10_bit 98 = .ok (.ireturn, 1) := by decide +kernel
theorem dX10_write_0 : decode cX10_write 0 = .ok (.iload_n 3, 1) := by decide +kernel
theorem dX10_write_1 : decode cX10_write 1 = .ok (.iconst 1, 1) := by decide +kernel
theorem dX10_write_2 : decode cX10_write 2 = .ok (.bipush 8, 2) := by decide +kernel
theorem dX10_write_4 : decode cX10_write 4 = .ok (.invokestatic 64, 3) := by decide +kernel
theorem dX10_write_7 : decode cX10_write 7 = .ok (.ifCond .ne 6, 3) := by decide +kernel
theorem dX10_write_10 : decode cX10_write 10 = .ok (.bipush (-3), 2) := by decide +kernel
theorem dX10_write_12 : decode cX10_write 12 = .ok (.ireturn, 1) := by decide +kernel
theorem dX10_write_13 : decode cX10_write 13 = .ok (.aload_n 0, 1) := by decide +kernel
theorem dX10_write_14 : decode cX10_write 14 = .ok (.getfield 35, 3) := by decide +kernel
theorem dX10_write_17 : decode cX10_write 17 = .ok (.getfield 128, 3) := by decide +kernel
theorem dX10_write_20 : decode cX10_write 20 = .ok (.iload_n 3, 1) := by decide +kernel
theorem dX10_write_21 : decode cX10_write 21 = .ok (.iadd, 1) := by decide +kernel
theorem dX10_write_22 : decode cX10_write 22 = .ok (.sipush 200, 3) := by decide +kernel
theorem dX10_write_25 : decode cX10_write 25 = .ok (.if_icmp .le 6, 3) := by decide +kernel
theorem dX10_write_28 : decode cX10_write 28 = .ok (.bipush (-5), 2) := by decide +kernel
theorem dX10_write_30 : decode cX10_write 30 = .ok (.ireturn, 1) := by decide +kernel
theorem dX10_write_31 : decode cX10_write 31 = .ok (.aload_n 0, 1) := by decide +kernel
theorem dX10_write_32 : decode cX10_write 32 = .ok (.getfield 35, 3) := by decide +kernel
theorem dX10_write_35 : decode cX10_write 35 = .ok (.lload_n 1, 1) := by decide +kernel
theorem dX10_write_36 : decode cX10_write 36 = .ok (.iload_n 3, 1) := by decide +kernel
theorem dX10_write_37 : decode cX10_write 37 = .ok (.invokevirtual 129, 3) := by decide +kernel
theorem dX10_write_40 : decode cX10_write 40 = .ok (.ireturn, 1) := by decide +kernel
theorem dX10_erase_0 : decode cX10_erase 0 = .ok (.aload_n 0, 1) := by decide +kernel
theorem dX10_erase_1 : decode cX10_erase 1 = .ok (.getfield 35, 3) := by decide +kernel
theorem dX10_erase_4 : decode cX10_erase 4 = .ok (.invokevirtual 133, 3) := by decide +kernel
theorem dX10_erase_7 : decode cX10_erase 7 = .ok (.ireturn, 1) := by decide +kernel
theorem dX10_fault_0 : decode cX10_fault 0 = .ok (.aload_n 0, 1) := by decide +kernel
theorem dX10_fault_1 : decode cX10_fault 1 = .ok (.getfield 35, 3) := by decide +kernel
theorem dX10_fault_4 : decode cX10_fault 4 = .ok (.invokevirtual 136, 3) := by decide +kernel
theorem dX10_fault_7 : decode cX10_fault 7 = .ok (.ireturn, 1) := by decide +kernel
theorem dX10_told_0 : decode cX10_told 0 = .ok (.aload_n 0, 1) := by decide +kernel
theorem dX10_told_1 : decode cX10_told 1 = .ok (.getfield 35, 3) := by decide +kernel
theorem dX10_told_4 : decode cX10_told 4 = .ok (.invokevirtual 136, 3) := by decide +kernel
theorem dX10_told_7 : decode cX10_told 7 = .ok (.iconst (-1), 1) := by decide +kernel
theorem dX10_told_8 : decode cX10_told 8 = .ok (.if_icmp .eq 6, 3) := by decide +kernel
theorem dX10_told_11 : decode cX10_told 11 = .ok (.bipush (-4), 2) := by decide +kernel
theorem dX10_told_13 : decode cX10_told 13 = .ok (.ireturn, 1) := by decide +kernel
theorem dX10_told_14 : decode cX10_told 14 = .ok (.aload_n 0, 1) := by decide +kernel
theorem dX10_told_15 : decode cX10_told 15 = .ok (.getfield 35, 3) := by decide +kernel
theorem dX10_told_18 : decode cX10_told 18 = .ok (.getfield 139, 3) := by decide +kernel
theorem dX10_told_21 : decode cX10_told 21 = .ok (.istore_n 1, 1) := by decide +kernel
theorem dX10_told_22 : decode cX10_told 22 = .ok (.iconst 0, 1) := by decide +kernel
theorem dX10_told_23 : decode cX10_told 23 = .ok (.istore_n 2, 1) := by decide +kernel
theorem dX10_told_24 : decode cX10_told 24 = .ok (.iload_n 2, 1) := by decide +kernel
theorem dX10_told_25 : decode cX10_told 25 = .ok (.iload_n 1, 1) := by decide +kernel
theorem dX10_told_26 : decode cX10_told 26 = .ok (.if_icmp .ge 22, 3) := by decide +kernel
theorem dX10_told_29 : decode cX10_told 29 = .ok (.aload_n 0, 1) := by decide +kernel
theorem dX10_told_30 : decode cX10_told 30 = .ok (.aload_n 0, 1) := by decide +kernel
theorem dX10_told_31 : decode cX10_told 31 = .ok (.getfield 35, 3) := by decide +kernel
theorem dX10_told_34 : decode cX10_told 34 = .ok (.getfield 142, 3) := by decide +kernel
theorem dX10_told_37 : decode cX10_told 37 = .ok (.iload_n 2, 1) := by decide +kernel
theorem dX10_told_38 : decode cX10_told 38 = .ok (.aaload, 1) := by decide +kernel
theorem dX10_told_39 : decode cX10_told 39 = .ok (.invokevirtual 146, 3) := by decide +kernel
theorem dX10_told_42 : decode cX10_told 42 = .ok (.iinc 2 1, 3) := by decide +kernel
theorem dX10_told_45 : decode cX10_told 45 = .ok (.goto (-21), 3) := by decide +kernel
theorem dX10_told_48 : decode cX10_told 48 = .ok (.aload_n 0, 1) := by decide +kernel
theorem dX10_told_49 : decode cX10_told 49 = .ok (.getfield 35, 3) := by decide +kernel
theorem dX10_told_52 : decode cX10_told 52 = .ok (.invokevirtual 133, 3) := by decide +kernel
theorem dX10_told_55 : decode cX10_told 55 = .ok (.pop, 1) := by decide +kernel
theorem dX10_told_56 : decode cX10_told 56 = .ok (.iload_n 1, 1) := by decide +kernel
theorem dX10_told_57 : decode cX10_told 57 = .ok (.ireturn, 1) := by decide +kernel
theorem dX10_word_0 : decode cX10_word 0 = .ok (.iload_n 1, 1) := by decide +kernel
theorem dX10_word_1 : decode cX10_word 1 = .ok (.bipush 32, 2) := by decide +kernel
theorem dX10_word_3 : decode cX10_word 3 = .ok (.invokestatic 68, 3) := by decide +kernel
theorem dX10_word_6 : decode cX10_word 6 = .ok (.ifCond .ne 6, 3) := by decide +kernel
theorem dX10_word_9 : decode cX10_word 9 = .ok (.bipush (-2), 2) := by decide +kernel
theorem dX10_word_11 : decode cX10_word 11 = .ok (.ireturn, 1) := by decide +kernel
theorem dX10_word_12 : decode cX10_word 12 = .ok (.iload_n 2, 1) := by decide +kernel
theorem dX10_word_13 : decode cX10_word 13 = .ok (.iconst (-1), 1) := by decide +kernel
theorem dX10_word_14 : decode cX10_word 14 = .ok (.if_icmp .ge 6, 3) := by decide +kernel
theorem dX10_word_17 : decode cX10_word 17 = .ok (.bipush (-3), 2) := by decide +kernel
theorem dX10_word_19 : decode cX10_word 19 = .ok (.ireturn, 1) := by decide +kernel
theorem dX10_word_20 : decode cX10_word 20 = .ok (.iload_n 2, 1) := by decide +kernel
theorem dX10_word_21 : decode cX10_word 21 = .ok (.iconst (-1), 1) := by decide +kernel
theorem dX10_word_22 : decode cX10_word 22 = .ok (.if_icmp .ne 13, 3) := by decide +kernel
theorem dX10_word_25 : decode cX10_word 25 = .ok (.aload_n 0, 1) := by decide +kernel
theorem dX10_word_26 : decode cX10_word 26 = .ok (.getfield 28, 3) := by decide +kernel
theorem dX10_word_29 : decode cX10_word 29 = .ok (.getfield 150, 3) := by decide +kernel
theorem dX10_word_32 : decode cX10_word 32 = .ok (.iload_n 1, 1) := by decide +kernel
theorem dX10_word_33 : decode cX10_word 33 = .ok (.iaload, 1) := by decide +kernel
theorem dX10_word_34 : decode cX10_word 34 = .ok (.ireturn, 1) := by decide +kernel
theorem dX10_word_35 : decode cX10_word 35 = .ok (.iload_n 2, 1) := by decide +kernel
theorem dX10_word_36 : decode cX10_word 36 = .ok (.aload_n 0, 1) := by decide +kernel
theorem dX10_word_37 : decode cX10_word 37 = .ok (.getfield 28, 3) := by decide +kernel
theorem dX10_word_40 : decode cX10_word 40 = .ok (.getfield 150, 3) := by decide +kernel
theorem dX10_word_43 : decode cX10_word 43 = .ok (.iload_n 1, 1) := by decide +kernel
theorem dX10_word_44 : decode cX10_word 44 = .ok (.iaload, 1) := by decide +kernel
theorem dX10_word_45 : decode cX10_word 45 = .ok (.if_icmp .ge 15, 3) := by decide +kernel
theorem dX10_word_48 : decode cX10_word 48 = .ok (.aload_n 0, 1) := by decide +kernel
theorem dX10_word_49 : decode cX10_word 49 = .ok (.getfield 28, 3) := by decide +kernel
theorem dX10_word_52 : decode cX10_word 52 = .ok (.iload_n 1, 1) := by decide +kernel
theorem dX10_word_53 : decode cX10_word 53 = .ok (.iload_n 2, 1) := by decide +kernel
theorem dX10_word_54 : decode cX10_word 54 = .ok (.invokevirtual 153, 3) := by decide +kernel
theorem dX10_word_57 : decode cX10_word 57 = .ok (.goto 4, 3) := by decide +kernel
theorem dX10_word_60 : decode cX10_word 60 = .ok (.iconst (-1), 1) := by decide +kernel
theorem dX10_word_61 : decode cX10_word 61 = .ok (.ireturn, 1) := by decide +kernel
theorem dX10_line_0 : decode cX10_line 0 = .ok (.aload_n 0, 1) := by decide +kernel
theorem dX10_line_1 : decode cX10_line 1 = .ok (.getfield 28, 3) := by decide +kernel
theorem dX10_line_4 : decode cX10_line 4 = .ok (.iload_n 1, 1) := by decide +kernel
theorem dX10_line_5 : decode cX10_line 5 = .ok (.invokevirtual 156, 3) := by decide +kernel
theorem dX10_line_8 : decode cX10_line 8 = .ok (.ifCond .ne 6, 3) := by decide +kernel
theorem dX10_line_11 : decode cX10_line 11 = .ok (.bipush (-2), 2) := by decide +kernel
theorem dX10_line_13 : decode cX10_line 13 = .ok (.ireturn, 1) := by decide +kernel
theorem dX10_line_14 : decode cX10_line 14 = .ok (.iload_n 2, 1) := by decide +kernel
theorem dX10_line_15 : decode cX10_line 15 = .ok (.bipush 100, 2) := by decide +kernel
theorem dX10_line_17 : decode cX10_line 17 = .ok (.invokestatic 68, 3) := by decide +kernel
theorem dX10_line_20 : decode cX10_line 20 = .ok (.ifCond .eq 8, 3) := by decide +kernel
theorem dX10_line_23 : decode cX10_line 23 = .ok (.iload_n 3, 1) := by decide +kernel
theorem dX10_line_24 : decode cX10_line 24 = .ok (.iconst (-1), 1) := by decide +kernel
theorem dX10_line_25 : decode cX10_line 25 = .ok (.if_icmp .ge 6, 3) := by decide +kernel
theorem dX10_line_28 : decode cX10_line 28 = .ok (.bipush (-3), 2) := by decide +kernel
theorem dX10_line_30 : decode cX10_line 30 = .ok (.ireturn, 1) := by decide +kernel
theorem dX10_line_31 : decode cX10_line 31 = .ok (.aload_n 0, 1) := by decide +kernel
theorem dX10_line_32 : decode cX10_line 32 = .ok (.getfield 28, 3) := by decide +kernel
theorem dX10_line_35 : decode cX10_line 35 = .ok (.iload_n 1, 1) := by decide +kernel
theorem dX10_line_36 : decode cX10_line 36 = .ok (.iload_n 2, 1) := by decide +kernel
theorem dX10_line_37 : decode cX10_line 37 = .ok (.invokevirtual 160, 3) := by decide +kernel
theorem dX10_line_40 : decode cX10_line 40 = .ok (.ifCond .ne 6, 3) := by decide +kernel
theorem dX10_line_43 : decode cX10_line 43 = .ok (.bipush (-4), 2) := by decide +kernel
theorem dX10_line_45 : decode cX10_line 45 = .ok (.ireturn, 1) := by decide +kernel
theorem dX10_line_46 : decode cX10_line 46 = .ok (.iload_n 3, 1) := by decide +kernel
theorem dX10_line_47 : decode cX10_line 47 = .ok (.iconst (-1), 1) := by decide +kernel
theorem dX10_line_48 : decode cX10_line 48 = .ok (.if_icmp .ne 13, 3) := by decide +kernel
theorem dX10_line_51 : decode cX10_line 51 = .ok (.aload_n 0, 1) := by decide +kernel
theorem dX10_line_52 : decode cX10_line 52 = .ok (.getfield 28, 3) := by decide +kernel
theorem dX10_line_55 : decode cX10_line 55 = .ok (.invokevirtual 163, 3) := by decide +kernel
theorem dX10_line_58 : decode cX10_line 58 = .ok (.goto 11, 3) := by decide +kernel
theorem dX10_line_61 : decode cX10_line 61 = .ok (.aload_n 0, 1) := by decide +kernel
theorem dX10_line_62 : decode cX10_line 62 = .ok (.getfield 28, 3) := by decide +kernel
theorem dX10_line_65 : decode cX10_line 65 = .ok (.iload_n 3, 1) := by decide +kernel
theorem dX10_line_66 : decode cX10_line 66 = .ok (.invokevirtual 166, 3) := by decide +kernel
theorem dX10_line_69 : decode cX10_line 69 = .ok (.ireturn, 1) := by decide +kernel
theorem dX10_jar_0 : decode cX10_jar 0 = .ok (.aload_n 0, 1) := by decide +kernel
theorem dX10_jar_1 : decode cX10_jar 1 = .ok (.getfield 28, 3) := by decide +kernel
theorem dX10_jar_4 : decode cX10_jar 4 = .ok (.iload_n 1, 1) := by decide +kernel
theorem dX10_jar_5 : decode cX10_jar 5 = .ok (.invokevirtual 156, 3) := by decide +kernel
theorem dX10_jar_8 : decode cX10_jar 8 = .ok (.ifCond .ne 6, 3) := by decide +kernel
theorem dX10_jar_11 : decode cX10_jar 11 = .ok (.bipush (-2), 2) := by decide +kernel
theorem dX10_jar_13 : decode cX10_jar 13 = .ok (.ireturn, 1) := by decide +kernel
theorem dX10_jar_14 : decode cX10_jar 14 = .ok (.iload_n 2, 1) := by decide +kernel
theorem dX10_jar_15 : decode cX10_jar 15 = .ok (.bipush 100, 2) := by decide +kernel
theorem dX10_jar_17 : decode cX10_jar 17 = .ok (.invokestatic 68, 3) := by decide +kernel
theorem dX10_jar_20 : decode cX10_jar 20 = .ok (.ifCond .eq 11, 3) := by decide +kernel
theorem dX10_jar_23 : decode cX10_jar 23 = .ok (.iload_n 3, 1) := by decide +kernel
theorem dX10_jar_24 : decode cX10_jar 24 = .ok (.iconst 4, 1) := by decide +kernel
theorem dX10_jar_25 : decode cX10_jar 25 = .ok (.invokestatic 68, 3) := by decide +kernel
theorem dX10_jar_28 : decode cX10_jar 28 = .ok (.ifCond .ne 6, 3) := by decide +kernel
theorem dX10_jar_31 : decode cX10_jar 31 = .ok (.bipush (-3), 2) := by decide +kernel
theorem dX10_jar_33 : decode cX10_jar 33 = .ok (.ireturn, 1) := by decide +kernel
theorem dX10_jar_34 : decode cX10_jar 34 = .ok (.aload_n 0, 1) := by decide +kernel
theorem dX10_jar_35 : decode cX10_jar 35 = .ok (.getfield 28, 3) := by decide +kernel
theorem dX10_jar_38 : decode cX10_jar 38 = .ok (.iload_n 1, 1) := by decide +kernel
theorem dX10_jar_39 : decode cX10_jar 39 = .ok (.iload_n 2, 1) := by decide +kernel
theorem dX10_jar_40 : decode cX10_jar 40 = .ok (.invokevirtual 160, 3) := by decide +kernel
theorem dX10_jar_43 : decode cX10_jar 43 = .ok (.ifCond .ne 6, 3) := by decide +kernel
theorem dX10_jar_46 : decode cX10_jar 46 = .ok (.bipush (-4), 2) := by decide +kernel
theorem dX10_jar_48 : decode cX10_jar 48 = .ok (.ireturn, 1) := by decide +kernel
theorem dX10_jar_49 : decode cX10_jar 49 = .ok (.aload_n 0, 1) := by decide +kernel
theorem dX10_jar_50 : decode cX10_jar 50 = .ok (.getfield 24, 3) := by decide +kernel
theorem dX10_jar_53 : decode cX10_jar 53 = .ok (.aload_n 0, 1) := by decide +kernel
theorem dX10_jar_54 : decode cX10_jar 54 = .ok (.getfield 28, 3) := by decide +kernel
theorem dX10_jar_57 : decode cX10_jar 57 = .ok (.iload_n 3, 1) := by decide +kernel
theorem dX10_jar_58 : decode cX10_jar 58 = .ok (.invokevirtual 169, 3) := by decide +kernel
theorem dX10_jar_61 : decode cX10_jar 61 = .ok (.ireturn, 1) := by decide +kernel
theorem dX10_call_0 : decode cX10_call 0 = .ok (.iload_n 1, 1) := by decide +kernel
theorem dX10_call_1 : decode cX10_call 1 = .ok (.bipush 6, 2) := by decide +kernel
theorem dX10_call_3 : decode cX10_call 3 = .ok (.invokestatic 68, 3) := by decide +kernel
theorem dX10_call_6 : decode cX10_call 6 = .ok (.ifCond .eq 14, 3) := by decide +kernel
theorem dX10_call_9 : decode cX10_call 9 = .ok (.aload_n 0, 1) := by decide +kernel
theorem dX10_call_10 : decode cX10_call 10 = .ok (.getfield 28, 3) := by decide +kernel
theorem dX10_call_13 : decode cX10_call 13 = .ok (.iload_n 2, 1) := by decide +kernel
theorem dX10_call_14 : decode cX10_call 14 = .ok (.invokevirtual 156, 3) := by decide +kernel
theorem dX10_call_17 : decode cX10_call 17 = .ok (.ifCond .ne 6, 3) := by decide +kernel
theorem dX10_call_20 : decode cX10_call 20 = .ok (.bipush (-2), 2) := by decide +kernel
theorem dX10_call_22 : decode cX10_call 22 = .ok (.ireturn, 1) := by decide +kernel
theorem dX10_call_23 : decode cX10_call 23 = .ok (.iload_n 3, 1) := by decide +kernel
theorem dX10_call_24 : decode cX10_call 24 = .ok (.bipush 100, 2) := by decide +kernel
theorem dX10_call_26 : decode cX10_call 26 = .ok (.invokestatic 68, 3) := by decide +kernel
theorem dX10_call_29 : decode cX10_call 29 = .ok (.ifCond .eq 30, 3) := by decide +kernel
theorem dX10_call_32 : decode cX10_call 32 = .ok (.iload 4, 2) := by decide +kernel
theorem dX10_call_34 : decode cX10_call 34 = .ok (.iconst 0, 1) := by decide +kernel
theorem dX10_call_35 : decode cX10_call 35 = .ok (.sipush 2000, 3) := by decide +kernel
theorem dX10_call_38 : decode cX10_call 38 = .ok (.invokestatic 64, 3) := by decide +kernel
theorem dX10_call_41 : decode cX10_call 41 = .ok (.ifCond .eq 18, 3) := by decide +kernel
theorem dX10_call_44 : decode cX10_call 44 = .ok (.iload 5, 2) := by decide +kernel
theorem dX10_call_46 : decode cX10_call 46 = .ok (.iload 4, 2) := by decide +kernel
theorem dX10_call_48 : decode cX10_call 48 = .ok (.iconst 1, 1) := by decide +kernel
theorem dX10_call_49 : decode cX10_call 49 = .ok (.iadd, 1) := by decide +kernel
theorem dX10_call_50 : decode cX10_call 50 = .ok (.sipush 3000, 3) := by decide +kernel
theorem dX10_call_53 : decode cX10_call 53 = .ok (.invokestatic 64, 3) := by decide +kernel
theorem dX10_call_56 : decode cX10_call 56 = .ok (.ifCond .ne 6, 3) := by decide +kernel
theorem dX10_call_59 : decode cX10_call 59 = .ok (.bipush (-3), 2) := by decide +kernel
theorem dX10_call_61 : decode cX10_call 61 = .ok (.ireturn, 1) := by decide +kernel
theorem dX10_call_62 : decode cX10_call 62 = .ok (.aload_n 0, 1) := by decide +kernel
theorem dX10_call_63 : decode cX10_call 63 = .ok (.getfield 44, 3) := by decide +kernel
theorem dX10_call_66 : decode cX10_call 66 = .ok (.getfield 173, 3) := by decide +kernel
theorem dX10_call_69 : decode cX10_call 69 = .ok (.bipush 24, 2) := by decide +kernel
theorem dX10_call_71 : decode cX10_call 71 = .ok (.if_icmp .lt 6, 3) := by decide +kernel
theorem dX10_call_74 : decode cX10_call 74 = .ok (.bipush (-5), 2) := by decide +kernel
theorem dX10_call_76 : decode cX10_call 76 = .ok (.ireturn, 1) := by decide +kernel
theorem dX10_call_77 : decode cX10_call 77 = .ok (.new 174, 3) := by decide +kernel
theorem dX10_call_80 : decode cX10_call 80 = .ok (.dup, 1) := by decide +kernel
theorem dX10_call_81 : decode cX10_call 81 = .ok (.iload_n 1, 1) := by decide +kernel
theorem dX10_call_82 : decode cX10_call 82 = .ok (.iload_n 2, 1) := by decide +kernel
theorem dX10_call_83 : decode cX10_call 83 = .ok (.iload_n 3, 1) := by decide +kernel
theorem dX10_call_84 : decode cX10_call 84 = .ok (.iload 6, 2) := by decide +kernel
theorem dX10_call_86 : decode cX10_call 86 = .ok (.invokespecial 176, 3) := by decide +kernel
theorem dX10_call_89 : decode cX10_call 89 = .ok (.astore 7, 2) := by decide +kernel
theorem dX10_call_91 : decode cX10_call 91 = .ok (.aload 7, 2) := by decide +kernel
theorem dX10_call_93 : decode cX10_call 93 = .ok (.iload 4, 2) := by decide +kernel
theorem dX10_call_95 : decode cX10_call 95 = .ok (.putfield 179, 3) := by decide +kernel
theorem dX10_call_98 : decode cX10_call 98 = .ok (.aload 7, 2) := by decide +kernel
theorem dX10_call_100 : decode cX10_call 100 = .ok (.iload 5, 2) := by decide +kernel
theorem dX10_call_102 : decode cX10_call 102 = .ok (.putfield 182, 3) := by decide +kernel
theorem dX10_call_105 : decode cX10_call 105 = .ok (.aload_n 0, 1) := by decide +kernel
theorem dX10_call_106 : decode cX10_call 106 = .ok (.getfield 44, 3) := by decide +kernel
theorem dX10_call_109 : decode cX10_call 109 = .ok (.aload 7, 2) := by decide +kernel
theorem dX10_call_111 : decode cX10_call 111 = .ok (.invokevirtual 185, 3) := by decide +kernel
theorem dX10_call_114 : decode cX10_call 114 = .ok (.ireturn, 1) := by decide +kernel
theorem dX10_run_0 : decode cX10_run 0 = .ok (.iload_n 1, 1) := by decide +kernel
theorem dX10_run_1 : decode cX10_run 1 = .ok (.iconst 1, 1) := by decide +kernel
theorem dX10_run_2 : decode cX10_run 2 = .ok (.bipush 100, 2) := by decide +kernel
theorem dX10_run_4 : decode cX10_run 4 = .ok (.invokestatic 64, 3) := by decide +kernel
theorem dX10_run_7 : decode cX10_run 7 = .ok (.ifCond .eq 18, 3) := by decide +kernel
theorem dX10_run_10 : decode cX10_run 10 = .ok (.aload_n 0, 1) := by decide +kernel
theorem dX10_run_11 : decode cX10_run 11 = .ok (.getfield 44, 3) := by decide +kernel
theorem dX10_run_14 : decode cX10_run 14 = .ok (.getfield 188, 3) := by decide +kernel
theorem dX10_run_17 : decode cX10_run 17 = .ok (.iload_n 1, 1) := by decide +kernel
theorem dX10_run_18 : decode cX10_run 18 = .ok (.iadd, 1) := by decide +kernel
theorem dX10_run_19 : decode cX10_run 19 = .ok (.sipush 2000, 3) := by decide +kernel
theorem dX10_run_22 : decode cX10_run 22 = .ok (.if_icmp .le 6, 3) := by decide +kernel
theorem dX10_run_25 : decode cX10_run 25 = .ok (.bipush (-3), 2) := by decide +kernel
theorem dX10_run_27 : decode cX10_run 27 = .ok (.ireturn, 1) := by decide +kernel
theorem dX10_run_28 : decode cX10_run 28 = .ok (.iconst 0, 1) := by decide +kernel
theorem dX10_run_29 : decode cX10_run 29 = .ok (.istore_n 2, 1) := by decide +kernel
theorem dX10_run_30 : decode cX10_run 30 = .ok (.iload_n 2, 1) := by decide +kernel
theorem dX10_run_31 : decode cX10_run 31 = .ok (.iload_n 1, 1) := by decide +kernel
theorem dX10_run_32 : decode cX10_run 32 = .ok (.if_icmp .ge 16, 3) := by decide +kernel
theorem dX10_run_35 : decode cX10_run 35 = .ok (.aload_n 0, 1) := by decide +kernel
theorem dX10_run_36 : decode cX10_run 36 = .ok (.getfield 44, 3) := by decide +kernel
theorem dX10_run_39 : decode cX10_run 39 = .ok (.invokevirtual 191, 3) := by decide +kernel
theorem dX10_run_42 : decode cX10_run 42 = .ok (.iinc 2 1, 3) := by decide +kernel
theorem dX10_run_45 : decode cX10_run 45 = .ok (.goto (-15), 3) := by decide +kernel
theorem dX10_run_48 : decode cX10_run 48 = .ok (.aload_n 0, 1) := by decide +kernel
theorem dX10_run_49 : decode cX10_run 49 = .ok (.getfield 44, 3) := by decide +kernel
theorem dX10_run_52 : decode cX10_run 52 = .ok (.getfield 188, 3) := by decide +kernel
theorem dX10_run_55 : decode cX10_run 55 = .ok (.ireturn, 1) := by decide +kernel
theorem dX10_heard_0 : decode cX10_heard 0 = .ok (.iload_n 1, 1) := by decide +kernel
theorem dX10_heard_1 : decode cX10_heard 1 = .ok (.aload_n 0, 1) := by decide +kernel
theorem dX10_heard_2 : decode cX10_heard 2 = .ok (.getfield 44, 3) := by decide +kernel
theorem dX10_heard_5 : decode cX10_heard 5 = .ok (.getfield 173, 3) := by decide +kernel
theorem dX10_heard_8 : decode cX10_heard 8 = .ok (.invokestatic 68, 3) := by decide +kernel
theorem dX10_heard_11 : decode cX10_heard 11 = .ok (.ifCond .ne 6, 3) := by decide +kernel
theorem dX10_heard_14 : decode cX10_heard 14 = .ok (.bipush (-2), 2) := by decide +kernel
theorem dX10_heard_16 : decode cX10_heard 16 = .ok (.ireturn, 1) := by decide +kernel
theorem dX10_heard_17 : decode cX10_heard 17 = .ok (.aload_n 0, 1) := by decide +kernel
theorem dX10_heard_18 : decode cX10_heard 18 = .ok (.getfield 44, 3) := by decide +kernel
theorem dX10_heard_21 : decode cX10_heard 21 = .ok (.getfield 194, 3) := by decide +kernel
theorem dX10_heard_24 : decode cX10_heard 24 = .ok (.iload_n 1, 1) := by decide +kernel
theorem dX10_heard_25 : decode cX10_heard 25 = .ok (.aaload, 1) := by decide +kernel
theorem dX10_heard_26 : decode cX10_heard 26 = .ok (.astore_n 3, 1) := by decide +kernel
theorem dX10_heard_27 : decode cX10_heard 27 = .ok (.iload_n 2, 1) := by decide +kernel
theorem dX10_heard_28 : decode cX10_heard 28 = .ok (.tableswitch 43 0 2 #[28, 33, 38], 28) := by decide +kernel
theorem dX10_heard_56 : decode cX10_heard 56 = .ok (.aload_n 3, 1) := by decide +kernel
theorem dX10_heard_57 : decode cX10_heard 57 = .ok (.getfield 198, 3) := by decide +kernel
theorem dX10_heard_60 : decode cX10_heard 60 = .ok (.ireturn, 1) := by decide +kernel
theorem dX10_heard_61 : decode cX10_heard 61 = .ok (.aload_n 3, 1) := by decide +kernel
theorem dX10_heard_62 : decode cX10_heard 62 = .ok (.getfield 201, 3) := by decide +kernel
theorem dX10_heard_65 : decode cX10_heard 65 = .ok (.ireturn, 1) := by decide +kernel
theorem dX10_heard_66 : decode cX10_heard 66 = .ok (.aload_n 3, 1) := by decide +kernel
theorem dX10_heard_67 : decode cX10_heard 67 = .ok (.getfield 204, 3) := by decide +kernel
theorem dX10_heard_70 : decode cX10_heard 70 = .ok (.ireturn, 1) := by decide +kernel
theorem dX10_heard_71 : decode cX10_heard 71 = .ok (.bipush (-3), 2) := by decide +kernel
theorem dX10_heard_73 : decode cX10_heard 73 = .ok (.ireturn, 1) := by decide +kernel
theorem dX10_speaks_0 : decode cX10_speaks 0 = .ok (.iload_n 1, 1) := by decide +kernel
theorem dX10_speaks_1 : decode cX10_speaks 1 = .ok (.bipush 6, 2) := by decide +kernel
theorem dX10_speaks_3 : decode cX10_speaks 3 = .ok (.invokestatic 68, 3) := by decide +kernel
theorem dX10_speaks_6 : decode cX10_speaks 6 = .ok (.ifCond .eq 15, 3) := by decide +kernel
theorem dX10_speaks_9 : decode cX10_speaks 9 = .ok (.aload_n 0, 1) := by decide +kernel
theorem dX10_speaks_10 : decode cX10_speaks 10 = .ok (.getfield 44, 3) := by decide +kernel
theorem dX10_speaks_13 : decode cX10_speaks 13 = .ok (.getfield 207, 3) := by decide +kernel
theorem dX10_speaks_16 : decode cX10_speaks 16 = .ok (.iload_n 1, 1) := by decide +kernel
theorem dX10_speaks_17 : decode cX10_speaks 17 = .ok (.iaload, 1) := by decide +kernel
theorem dX10_speaks_18 : decode cX10_speaks 18 = .ok (.goto 5, 3) := by decide +kernel
theorem dX10_speaks_21 : decode cX10_speaks 21 = .ok (.bipush (-2), 2) := by decide +kernel
theorem dX10_speaks_23 : decode cX10_speaks 23 = .ok (.ireturn, 1) := by decide +kernel
theorem dX10_voice_0 : decode cX10_voice 0 = .ok (.iload_n 1, 1) := by decide +kernel
theorem dX10_voice_1 : decode cX10_voice 1 = .ok (.bipush 6, 2) := by decide +kernel
theorem dX10_voice_3 : decode cX10_voice 3 = .ok (.invokestatic 68, 3) := by decide +kernel
theorem dX10_voice_6 : decode cX10_voice 6 = .ok (.ifCond .ne 6, 3) := by decide +kernel
theorem dX10_voice_9 : decode cX10_voice 9 = .ok (.bipush (-2), 2) := by decide +kernel
theorem dX10_voice_11 : decode cX10_voice 11 = .ok (.ireturn, 1) := by decide +kernel
theorem dX10_voice_12 : decode cX10_voice 12 = .ok (.iload_n 2, 1) := by decide +kernel
theorem dX10_voice_13 : decode cX10_voice 13 = .ok (.iconst 2, 1) := by decide +kernel
theorem dX10_voice_14 : decode cX10_voice 14 = .ok (.invokestatic 68, 3) := by decide +kernel
theorem dX10_voice_17 : decode cX10_voice 17 = .ok (.ifCond .ne 6, 3) := by decide +kernel
theorem dX10_voice_20 : decode cX10_voice 20 = .ok (.bipush (-3), 2) := by decide +kernel
theorem dX10_voice_22 : decode cX10_voice 22 = .ok (.ireturn, 1) := by decide +kernel
theorem dX10_voice_23 : decode cX10_voice 23 = .ok (.iload_n 2, 1) := by decide +kernel
theorem dX10_voice_24 : decode cX10_voice 24 = .ok (.ifCond .ne 15, 3) := by decide +kernel
theorem dX10_voice_27 : decode cX10_voice 27 = .ok (.aload_n 0, 1) := by decide +kernel
theorem dX10_voice_28 : decode cX10_voice 28 = .ok (.getfield 44, 3) := by decide +kernel
theorem dX10_voice_31 : decode cX10_voice 31 = .ok (.getfield 210, 3) := by decide +kernel
theorem dX10_voice_34 : decode cX10_voice 34 = .ok (.iload_n 1, 1) := by decide +kernel
theorem dX10_voice_35 : decode cX10_voice 35 = .ok (.iaload, 1) := by decide +kernel
theorem dX10_voice_36 : decode cX10_voice 36 = .ok (.goto 12, 3) := by decide +kernel
theorem dX10_voice_39 : decode cX10_voice 39 = .ok (.aload_n 0, 1) := by decide +kernel
theorem dX10_voice_40 : decode cX10_voice 40 = .ok (.getfield 44, 3) := by decide +kernel
theorem dX10_voice_43 : decode cX10_voice 43 = .ok (.getfield 213, 3) := by decide +kernel
theorem dX10_voice_46 : decode cX10_voice 46 = .ok (.iload_n 1, 1) := by decide +kernel
theorem dX10_voice_47 : decode cX10_voice 47 = .ok (.iaload, 1) := by decide +kernel
theorem dX10_voice_48 : decode cX10_voice 48 = .ok (.ireturn, 1) := by decide +kernel
theorem dX10_wish_0 : decode cX10_wish 0 = .ok (.iload_n 1, 1) := by decide +kernel
theorem dX10_wish_1 : decode cX10_wish 1 = .ok (.bipush 6, 2) := by decide +kernel
theorem dX10_wish_3 : decode cX10_wish 3 = .ok (.invokestatic 68, 3) := by decide +kernel
theorem dX10_wish_6 : decode cX10_wish 6 = .ok (.ifCond .ne 6, 3) := by decide +kernel
theorem dX10_wish_9 : decode cX10_wish 9 = .ok (.bipush (-2), 2) := by decide +kernel
theorem dX10_wish_11 : decode cX10_wish 11 = .ok (.ireturn, 1) := by decide +kernel
theorem dX10_wish_12 : decode cX10_wish 12 = .ok (.iload_n 2, 1) := by decide +kernel
theorem dX10_wish_13 : decode cX10_wish 13 = .ok (.iconst 4, 1) := by decide +kernel
theorem dX10_wish_14 : decode cX10_wish 14 = .ok (.invokestatic 68, 3) := by decide +kernel
theorem dX10_wish_17 : decode cX10_wish 17 = .ok (.ifCond .eq 12, 3) := by decide +kernel
theorem dX10_wish_20 : decode cX10_wish 20 = .ok (.iload_n 3, 1) := by decide +kernel
theorem dX10_wish_21 : decode cX10_wish 21 = .ok (.iconst 1, 1) := by decide +kernel
theorem dX10_wish_22 : decode cX10_wish 22 = .ok (.iconst 5, 1) := by decide +kernel
theorem dX10_wish_23 : decode cX10_wish 23 = .ok (.invokestatic 64, 3) := by decide +kernel
theorem dX10_wish_26 : decode cX10_wish 26 = .ok (.ifCond .ne 6, 3) := by decide +kernel
theorem dX10_wish_29 : decode cX10_wish 29 = .ok (.bipush (-3), 2) := by decide +kernel
theorem dX10_wish_31 : decode cX10_wish 31 = .ok (.ireturn, 1) := by decide +kernel
theorem dX10_wish_32 : decode cX10_wish 32 = .ok (.aload_n 0, 1) := by decide +kernel
theorem dX10_wish_33 : decode cX10_wish 33 = .ok (.getfield 44, 3) := by decide +kernel
theorem dX10_wish_36 : decode cX10_wish 36 = .ok (.getfield 210, 3) := by decide +kernel
theorem dX10_wish_39 : decode cX10_wish 39 = .ok (.iload_n 1, 1) := by decide +kernel
theorem dX10_wish_40 : decode cX10_wish 40 = .ok (.iaload, 1) := by decide +kernel
theorem dX10_wish_41 : decode cX10_wish 41 = .ok (.istore 4, 2) := by decide +kernel
theorem dX10_wish_43 : decode cX10_wish 43 = .ok (.aload_n 0, 1) := by decide +kernel
theorem dX10_wish_44 : decode cX10_wish 44 = .ok (.getfield 44, 3) := by decide +kernel
theorem dX10_wish_47 : decode cX10_wish 47 = .ok (.getfield 210, 3) := by decide +kernel
theorem dX10_wish_50 : decode cX10_wish 50 = .ok (.iload_n 1, 1) := by decide +kernel
theorem dX10_wish_51 : decode cX10_wish 51 = .ok (.iload_n 2, 1) := by decide +kernel
theorem dX10_wish_52 : decode cX10_wish 52 = .ok (.iastore, 1) := by decide +kernel
theorem dX10_wish_53 : decode cX10_wish 53 = .ok (.aload_n 0, 1) := by decide +kernel
theorem dX10_wish_54 : decode cX10_wish 54 = .ok (.getfield 44, 3) := by decide +kernel
theorem dX10_wish_57 : decode cX10_wish 57 = .ok (.getfield 213, 3) := by decide +kernel
theorem dX10_wish_60 : decode cX10_wish 60 = .ok (.iload_n 1, 1) := by decide +kernel
theorem dX10_wish_61 : decode cX10_wish 61 = .ok (.iload_n 3, 1) := by decide +kernel
theorem dX10_wish_62 : decode cX10_wish 62 = .ok (.iastore, 1) := by decide +kernel
theorem dX10_wish_63 : decode cX10_wish 63 = .ok (.iload 4, 2) := by decide +kernel
theorem dX10_wish_65 : decode cX10_wish 65 = .ok (.ireturn, 1) := by decide +kernel
theorem dX10_change_0 : decode cX10_change 0 = .ok (.iload_n 1, 1) := by decide +kernel
theorem dX10_change_1 : decode cX10_change 1 = .ok (.iconst 4, 1) := by decide +kernel
theorem dX10_change_2 : decode cX10_change 2 = .ok (.invokestatic 68, 3) := by decide +kernel
theorem dX10_change_5 : decode cX10_change 5 = .ok (.ifCond .eq 14, 3) := by decide +kernel
theorem dX10_change_8 : decode cX10_change 8 = .ok (.aload_n 0, 1) := by decide +kernel
theorem dX10_change_9 : decode cX10_change 9 = .ok (.getfield 44, 3) := by decide +kernel
theorem dX10_change_12 : decode cX10_change 12 = .ok (.iload_n 1, 1) := by decide +kernel
theorem dX10_change_13 : decode cX10_change 13 = .ok (.invokevirtual 216, 3) := by decide +kernel
theorem dX10_change_16 : decode cX10_change 16 = .ok (.goto 5, 3) := by decide +kernel
theorem dX10_change_19 : decode cX10_change 19 = .ok (.bipush (-3), 2) := by decide +kernel
theorem dX10_change_21 : decode cX10_change 21 = .ok (.ireturn, 1) := by decide +kernel
theorem dX10_record_0 : decode cX10_record 0 = .ok (.aload_n 0, 1) := by decide +kernel
theorem dX10_record_1 : decode cX10_record 1 = .ok (.getfield 53, 3) := by decide +kernel
theorem dX10_record_4 : decode cX10_record 4 = .ok (.invokevirtual 219, 3) := by decide +kernel
theorem dX10_record_7 : decode cX10_record 7 = .ok (.ireturn, 1) := by decide +kernel
theorem dX10_crowd_0 : decode cX10_crowd 0 = .ok (.iload_n 1, 1) := by decide +kernel
theorem dX10_crowd_1 : decode cX10_crowd 1 = .ok (.bipush 16, 2) := by decide +kernel
theorem dX10_crowd_3 : decode cX10_crowd 3 = .ok (.invokestatic 68, 3) := by decide +kernel
theorem dX10_crowd_6 : decode cX10_crowd 6 = .ok (.ifCond .ne 6, 3) := by decide +kernel
theorem dX10_crowd_9 : decode cX10_crowd 9 = .ok (.bipush (-2), 2) := by decide +kernel
theorem dX10_crowd_11 : decode cX10_crowd 11 = .ok (.ireturn, 1) := by decide +kernel
theorem dX10_crowd_12 : decode cX10_crowd 12 = .ok (.iload_n 2, 1) := by decide +kernel
theorem dX10_crowd_13 : decode cX10_crowd 13 = .ok (.bipush 100, 2) := by decide +kernel
theorem dX10_crowd_15 : decode cX10_crowd 15 = .ok (.invokestatic 68, 3) := by decide +kernel
theorem dX10_crowd_18 : decode cX10_crowd 18 = .ok (.ifCond .ne 6, 3) := by decide +kernel
theorem dX10_crowd_21 : decode cX10_crowd 21 = .ok (.bipush (-3), 2) := by decide +kernel
theorem dX10_crowd_23 : decode cX10_crowd 23 = .ok (.ireturn, 1) := by decide +kernel
theorem dX10_crowd_24 : decode cX10_crowd 24 = .ok (.aload_n 0, 1) := by decide +kernel
theorem dX10_crowd_25 : decode cX10_crowd 25 = .ok (.getfield 60, 3) := by decide +kernel
theorem dX10_crowd_28 : decode cX10_crowd 28 = .ok (.getfield 222, 3) := by decide +kernel
theorem dX10_crowd_31 : decode cX10_crowd 31 = .ok (.iload_n 1, 1) := by decide +kernel
theorem dX10_crowd_32 : decode cX10_crowd 32 = .ok (.iaload, 1) := by decide +kernel
theorem dX10_crowd_33 : decode cX10_crowd 33 = .ok (.istore_n 3, 1) := by decide +kernel
theorem dX10_crowd_34 : decode cX10_crowd 34 = .ok (.aload_n 0, 1) := by decide +kernel
theorem dX10_crowd_35 : decode cX10_crowd 35 = .ok (.getfield 60, 3) := by decide +kernel
theorem dX10_crowd_38 : decode cX10_crowd 38 = .ok (.getfield 222, 3) := by decide +kernel
theorem dX10_crowd_41 : decode cX10_crowd 41 = .ok (.iload_n 1, 1) := by decide +kernel
theorem dX10_crowd_42 : decode cX10_crowd 42 = .ok (.iload_n 2, 1) := by decide +kernel
theorem dX10_crowd_43 : decode cX10_crowd 43 = .ok (.iastore, 1) := by decide +kernel
theorem dX10_crowd_44 : decode cX10_crowd 44 = .ok (.iload_n 3, 1) := by decide +kernel
theorem dX10_crowd_45 : decode cX10_crowd 45 = .ok (.ireturn, 1) := by decide +kernel
theorem dX10_understood_0 : decode cX10_understood 0 = .ok (.iload_n 1, 1) := by decide +kernel
theorem dX10_understood_1 : decode cX10_understood 1 = .ok (.bipush 16, 2) := by decide +kernel
theorem dX10_understood_3 : decode cX10_understood 3 = .ok (.invokestatic 68, 3) := by decide +kernel
theorem dX10_understood_6 : decode cX10_understood 6 = .ok (.ifCond .ne 6, 3) := by decide +kernel
theorem dX10_understood_9 : decode cX10_understood 9 = .ok (.bipush (-2), 2) := by decide +kernel
theorem dX10_understood_11 : decode cX10_understood 11 = .ok (.ireturn, 1) := by decide +kernel
theorem dX10_understood_12 : decode cX10_understood 12 = .ok (.iload_n 2, 1) := by decide +kernel
theorem dX10_understood_13 : decode cX10_understood 13 = .ok (.sipush 1000, 3) := by decide +kernel
theorem dX10_understood_16 : decode cX10_understood 16 = .ok (.invokestatic 68, 3) := by decide +kernel
theorem dX10_understood_19 : decode cX10_understood 19 = .ok (.ifCond .eq 15, 3) := by decide +kernel
theorem dX10_understood_22 : decode cX10_understood 22 = .ok (.aload_n 0, 1) := by decide +kernel
theorem dX10_understood_23 : decode cX10_understood 23 = .ok (.getfield 60, 3) := by decide +kernel
theorem dX10_understood_26 : decode cX10_understood 26 = .ok (.iload_n 1, 1) := by decide +kernel
theorem dX10_understood_27 : decode cX10_understood 27 = .ok (.iload_n 2, 1) := by decide +kernel
theorem dX10_understood_28 : decode cX10_understood 28 = .ok (.invokevirtual 225, 3) := by decide +kernel
theorem dX10_understood_31 : decode cX10_understood 31 = .ok (.goto 5, 3) := by decide +kernel
theorem dX10_understood_34 : decode cX10_understood 34 = .ok (.bipush (-3), 2) := by decide +kernel
theorem dX10_understood_36 : decode cX10_understood 36 = .ok (.ireturn, 1) := by decide +kernel
theorem dX10_power_0 : decode cX10_power 0 = .ok (.iload_n 1, 1) := by decide +kernel
theorem dX10_power_1 : decode cX10_power 1 = .ok (.iconst (-1), 1) := by decide +kernel
theorem dX10_power_2 : decode cX10_power 2 = .ok (.if_icmp .eq 15, 3) := by decide +kernel
theorem dX10_power_5 : decode cX10_power 5 = .ok (.iload_n 1, 1) := by decide +kernel
theorem dX10_power_6 : decode cX10_power 6 = .ok (.bipush 16, 2) := by decide +kernel
theorem dX10_power_8 : decode cX10_power 8 = .ok (.invokestatic 68, 3) := by decide +kernel
theorem dX10_power_11 : decode cX10_power 11 = .ok (.ifCond .ne 6, 3) := by decide +kernel
theorem dX10_power_14 : decode cX10_power 14 = .ok (.bipush (-2), 2) := by decide +kernel
theorem dX10_power_16 : decode cX10_power 16 = .ok (.ireturn, 1) := by decide +kernel
theorem dX10_power_17 : decode cX10_power 17 = .ok (.iload_n 2, 1) := by decide +kernel
theorem dX10_power_18 : decode cX10_power 18 = .ok (.ldc 228, 2) := by decide +kernel
theorem dX10_power_20 : decode cX10_power 20 = .ok (.invokestatic 68, 3) := by decide +kernel
theorem dX10_power_23 : decode cX10_power 23 = .ok (.ifCond .ne 6, 3) := by decide +kernel
theorem dX10_power_26 : decode cX10_power 26 = .ok (.bipush (-3), 2) := by decide +kernel
theorem dX10_power_28 : decode cX10_power 28 = .ok (.ireturn, 1) := by decide +kernel
theorem dX10_power_29 : decode cX10_power 29 = .ok (.iload_n 1, 1) := by decide +kernel
theorem dX10_power_30 : decode cX10_power 30 = .ok (.iconst (-1), 1) := by decide +kernel
theorem dX10_power_31 : decode cX10_power 31 = .ok (.if_icmp .ne 14, 3) := by decide +kernel
theorem dX10_power_34 : decode cX10_power 34 = .ok (.aload_n 0, 1) := by decide +kernel
theorem dX10_power_35 : decode cX10_power 35 = .ok (.getfield 60, 3) := by decide +kernel
theorem dX10_power_38 : decode cX10_power 38 = .ok (.iload_n 2, 1) := by decide +kernel
theorem dX10_power_39 : decode cX10_power 39 = .ok (.invokevirtual 229, 3) := by decide +kernel
theorem dX10_power_42 : decode cX10_power 42 = .ok (.goto 12, 3) := by decide +kernel
theorem dX10_power_45 : decode cX10_power 45 = .ok (.aload_n 0, 1) := by decide +kernel
theorem dX10_power_46 : decode cX10_power 46 = .ok (.getfield 60, 3) := by decide +kernel
theorem dX10_power_49 : decode cX10_power 49 = .ok (.iload_n 1, 1) := by decide +kernel
theorem dX10_power_50 : decode cX10_power 50 = .ok (.iload_n 2, 1) := by decide +kernel
theorem dX10_power_51 : decode cX10_power 51 = .ok (.invokevirtual 232, 3) := by decide +kernel
theorem dX10_power_54 : decode cX10_power 54 = .ok (.ireturn, 1) := by decide +kernel
theorem dX10_count_0 : decode cX10_count 0 = .ok (.iload_n 1, 1) := by decide +kernel
theorem dX10_count_1 : decode cX10_count 1 = .ok (.tableswitch 105 0 6 #[43, 51, 59, 70, 81, 89, 97], 43) := by decide +kernel
theorem dX10_count_44 : decode cX10_count 44 = .ok (.aload_n 0, 1) := by decide +kernel
theorem dX10_count_45 : decode cX10_count 45 = .ok (.getfield 18, 3) := by decide +kernel
theorem dX10_count_48 : decode cX10_count 48 = .ok (.getfield 72, 3) := by decide +kernel
theorem dX10_count_51 : decode cX10_count 51 = .ok (.ireturn, 1) := by decide +kernel
theorem dX10_count_52 : decode cX10_count 52 = .ok (.aload_n 0, 1) := by decide +kernel
theorem dX10_count_53 : decode cX10_count 53 = .ok (.getfield 35, 3) := by decide +kernel
theorem dX10_count_56 : decode cX10_count 56 = .ok (.getfield 128, 3) := by decide +kernel
theorem dX10_count_59 : decode cX10_count 59 = .ok (.ireturn, 1) := by decide +kernel
theorem dX10_count_60 : decode cX10_count 60 = .ok (.aload_n 0, 1) := by decide +kernel
theorem dX10_count_61 : decode cX10_count 61 = .ok (.getfield 28, 3) := by decide +kernel
theorem dX10_count_64 : decode cX10_count 64 = .ok (.getfield 150, 3) := by decide +kernel
theorem dX10_count_67 : decode cX10_count 67 = .ok (.invokestatic 235, 3) := by decide +kernel
theorem dX10_count_70 : decode cX10_count 70 = .ok (.ireturn, 1) := by decide +kernel
theorem dX10_count_71 : decode cX10_count 71 = .ok (.aload_n 0, 1) := by decide +kernel
theorem dX10_count_72 : decode cX10_count 72 = .ok (.getfield 28, 3) := by decide +kernel
theorem dX10_count_75 : decode cX10_count 75 = .ok (.getfield 239, 3) := by decide +kernel
theorem dX10_count_78 : decode cX10_count 78 = .ok (.invokestatic 235, 3) := by decide +kernel
theorem dX10_count_81 : decode cX10_count 81 = .ok (.ireturn, 1) := by decide +kernel
theorem dX10_count_82 : decode cX10_count 82 = .ok (.aload_n 0, 1) := by decide +kernel
theorem dX10_count_83 : decode cX10_count 83 = .ok (.getfield 24, 3) := by decide +kernel
theorem dX10_count_86 : decode cX10_count 86 = .ok (.getfield 242, 3) := by decide +kernel
theorem dX10_count_89 : decode cX10_count 89 = .ok (.ireturn, 1) := by decide +kernel
theorem dX10_count_90 : decode cX10_count 90 = .ok (.aload_n 0, 1) := by decide +kernel
theorem dX10_count_91 : decode cX10_count 91 = .ok (.getfield 44, 3) := by decide +kernel
theorem dX10_count_94 : decode cX10_count 94 = .ok (.getfield 173, 3) := by decide +kernel
theorem dX10_count_97 : decode cX10_count 97 = .ok (.ireturn, 1) := by decide +kernel
theorem dX10_count_98 : decode cX10_count 98 = .ok (.aload_n 0, 1) := by decide +kernel
theorem dX10_count_99 : decode cX10_count 99 = .ok (.getfield 44, 3) := by decide +kernel
theorem dX10_count_102 : decode cX10_count 102 = .ok (.getfield 188, 3) := by decide +kernel
theorem dX10_count_105 : decode cX10_count 105 = .ok (.ireturn, 1) := by decide +kernel
theorem dX10_count_106 : decode cX10_count 106 = .ok (.bipush (-3), 2) := by decide +kernel
theorem dX10_count_108 : decode cX10_count 108 = .ok (.ireturn, 1) := by decide +kernel
theorem dX10_follow_0 : decode cX10_follow 0 = .ok (.aload_n 1, 1) := by decide +kernel
theorem dX10_follow_1 : decode cX10_follow 1 = .ok (.getfield 245, 3) := by decide +kernel
theorem dX10_follow_4 : decode cX10_follow 4 = .ok (.tableswitch 112 0 4 #[36, 47, 58, 72, 92], 36) := by decide +kernel
theorem dX10_follow_40 : decode cX10_follow 40 = .ok (.aload_n 0, 1) := by decide +kernel
theorem dX10_follow_41 : decode cX10_follow 41 = .ok (.getfield 28, 3) := by decide +kernel
theorem dX10_follow_44 : decode cX10_follow 44 = .ok (.aload_n 1, 1) := by decide +kernel
theorem dX10_follow_45 : decode cX10_follow 45 = .ok (.invokevirtual 250, 3) := by decide +kernel
theorem dX10_follow_48 : decode cX10_follow 48 = .ok (.goto 68, 3) := by decide +kernel
theorem dX10_follow_51 : decode cX10_follow 51 = .ok (.aload_n 0, 1) := by decide +kernel
theorem dX10_follow_52 : decode cX10_follow 52 = .ok (.getfield 28, 3) := by decide +kernel
theorem dX10_follow_55 : decode cX10_follow 55 = .ok (.aload_n 1, 1) := by decide +kernel
theorem dX10_follow_56 : decode cX10_follow 56 = .ok (.invokevirtual 253, 3) := by decide +kernel
theorem dX10_follow_59 : decode cX10_follow 59 = .ok (.goto 57, 3) := by decide +kernel
theorem dX10_follow_62 : decode cX10_follow 62 = .ok (.aload_n 0, 1) := by decide +kernel
theorem dX10_follow_63 : decode cX10_follow 63 = .ok (.getfield 24, 3) := by decide +kernel
theorem dX10_follow_66 : decode cX10_follow 66 = .ok (.aload_n 1, 1) := by decide +kernel
theorem dX10_follow_67 : decode cX10_follow 67 = .ok (.getfield 256, 3) := by decide +kernel
theorem dX10_follow_70 : decode cX10_follow 70 = .ok (.putfield 242, 3) := by decide +kernel
theorem dX10_follow_73 : decode cX10_follow 73 = .ok (.goto 43, 3) := by decide +kernel
theorem dX10_follow_76 : decode cX10_follow 76 = .ok (.aload_n 0, 1) := by decide +kernel
theorem dX10_follow_77 : decode cX10_follow 77 = .ok (.getfield 44, 3) := by decide +kernel
theorem dX10_follow_80 : decode cX10_follow 80 = .ok (.aload_n 1, 1) := by decide +kernel
theorem dX10_follow_81 : decode cX10_follow 81 = .ok (.getfield 256, 3) := by decide +kernel
theorem dX10_follow_84 : decode cX10_follow 84 = .ok (.aload_n 1, 1) := by decide +kernel
theorem dX10_follow_85 : decode cX10_follow 85 = .ok (.getfield 259, 3) := by decide +kernel
theorem dX10_follow_88 : decode cX10_follow 88 = .ok (.iconst 0, 1) := by decide +kernel
theorem dX10_follow_89 : decode cX10_follow 89 = .ok (.iaload, 1) := by decide +kernel
theorem dX10_follow_90 : decode cX10_follow 90 = .ok (.invokevirtual 262, 3) := by decide +kernel
theorem dX10_follow_93 : decode cX10_follow 93 = .ok (.goto 23, 3) := by decide +kernel
theorem dX10_follow_96 : decode cX10_follow 96 = .ok (.aload_n 0, 1) := by decide +kernel
theorem dX10_follow_97 : decode cX10_follow 97 = .ok (.getfield 44, 3) := by decide +kernel
theorem dX10_follow_100 : decode cX10_follow 100 = .ok (.aload_n 1, 1) := by decide +kernel
theorem dX10_follow_101 : decode cX10_follow 101 = .ok (.getfield 256, 3) := by decide +kernel
theorem dX10_follow_104 : decode cX10_follow 104 = .ok (.aload_n 1, 1) := by decide +kernel
theorem dX10_follow_105 : decode cX10_follow 105 = .ok (.getfield 259, 3) := by decide +kernel
theorem dX10_follow_108 : decode cX10_follow 108 = .ok (.iconst 0, 1) := by decide +kernel
theorem dX10_follow_109 : decode cX10_follow 109 = .ok (.iaload, 1) := by decide +kernel
theorem dX10_follow_110 : decode cX10_follow 110 = .ok (.invokevirtual 266, 3) := by decide +kernel
theorem dX10_follow_113 : decode cX10_follow 113 = .ok (.goto 3, 3) := by decide +kernel
theorem dX10_follow_116 : decode cX10_follow 116 = .ok (.return_, 1) := by decide +kernel
theorem dX10_howManyTold_0 : decode cX10_howManyTold 0 = .ok (.iconst 0, 1) := by decide +kernel
theorem dX10_howManyTold_1 : decode cX10_howManyTold 1 = .ok (.istore_n 1, 1) := by decide +kernel
theorem dX10_howManyTold_2 : decode cX10_howManyTold 2 = .ok (.iconst 0, 1) := by decide +kernel
theorem dX10_howManyTold_3 : decode cX10_howManyTold 3 = .ok (.istore_n 2, 1) := by decide +kernel
theorem dX10_howManyTold_4 : decode cX10_howManyTold 4 = .ok (.iload_n 2, 1) := by decide +kernel
theorem dX10_howManyTold_5 : decode cX10_howManyTold 5 = .ok (.aload_n 0, 1) := by decide +kernel
theorem dX10_howManyTold_6 : decode cX10_howManyTold 6 = .ok (.arraylength, 1) := by decide +kernel
theorem dX10_howManyTold_7 : decode cX10_howManyTold 7 = .ok (.if_icmp .ge 18, 3) := by decide +kernel
theorem dX10_howManyTold_10 : decode cX10_howManyTold 10 = .ok (.aload_n 0, 1) := by decide +kernel
theorem dX10_howManyTold_11 : decode cX10_howManyTold 11 = .ok (.iload_n 2, 1) := by decide +kernel
theorem dX10_howManyTold_12 : decode cX10_howManyTold 12 = .ok (.iaload, 1) := by decide +kernel
theorem dX10_howManyTold_13 : decode cX10_howManyTold 13 = .ok (.ifCond .le 6, 3) := by decide +kernel
theorem dX10_howManyTold_16 : decode cX10_howManyTold 16 = .ok (.iinc 1 1, 3) := by decide +kernel
theorem dX10_howManyTold_19 : decode cX10_howManyTold 19 = .ok (.iinc 2 1, 3) := by decide +kernel
theorem dX10_howManyTold_22 : decode cX10_howManyTold 22 = .ok (.goto (-18), 3) := by decide +kernel
theorem dX10_howManyTold_25 : decode cX10_howManyTold 25 = .ok (.iload_n 1, 1) := by decide +kernel
theorem dX10_howManyTold_26 : decode cX10_howManyTold 26 = .ok (.ireturn, 1) := by decide +kernel
theorem dX10_below_0 : decode cX10_below 0 = .ok (.iload_n 0, 1) := by decide +kernel
theorem dX10_below_1 : decode cX10_below 1 = .ok (.ifCond .lt 12, 3) := by decide +kernel
theorem dX10_below_4 : decode cX10_below 4 = .ok (.iload_n 0, 1) := by decide +kernel
theorem dX10_below_5 : decode cX10_below 5 = .ok (.iload_n 1, 1) := by decide +kernel
theorem dX10_below_6 : decode cX10_below 6 = .ok (.if_icmp .ge 7, 3) := by decide +kernel
theorem dX10_below_9 : decode cX10_below 9 = .ok (.iconst 1, 1) := by decide +kernel
theorem dX10_below_10 : decode cX10_below 10 = .ok (.goto 4, 3) := by decide +kernel
theorem dX10_below_13 : decode cX10_below 13 = .ok (.iconst 0, 1) := by decide +kernel
theorem dX10_below_14 : decode cX10_below 14 = .ok (.ireturn, 1) := by decide +kernel
theorem dX10_within_0 : decode cX10_within 0 = .ok (.iload_n 0, 1) := by decide +kernel
theorem dX10_within_1 : decode cX10_within 1 = .ok (.iload_n 1, 1) := by decide +kernel
theorem dX10_within_2 : decode cX10_within 2 = .ok (.if_icmp .lt 12, 3) := by decide +kernel
theorem dX10_within_5 : decode cX10_within 5 = .ok (.iload_n 0, 1) := by decide +kernel
theorem dX10_within_6 : decode cX10_within 6 = .ok (.iload_n 2, 1) := by decide +kernel
theorem dX10_within_7 : decode cX10_within 7 = .ok (.if_icmp .gt 7, 3) := by decide +kernel
theorem dX10_within_10 : decode cX10_within 10 = .ok (.iconst 1, 1) := by decide +kernel
theorem dX10_within_11 : decode cX10_within 11 = .ok (.goto 4, 3) := by decide +kernel
theorem dX10_within_14 : decode cX10_within 14 = .ok (.iconst 0, 1) := by decide +kernel
theorem dX10_within_15 : decode cX10_within 15 = .ok (.ireturn, 1) := by decide +kernel
theorem dX11_init_0 : decode cX11_init 0 = .ok (.aload_n 0, 1) := by decide +kernel
theorem dX11_init_1 : decode cX11_init 1 = .ok (.invokespecial 1, 3) := by decide +kernel
theorem dX11_init_4 : decode cX11_init 4 = .ok (.aload_n 0, 1) := by decide +kernel
theorem dX11_init_5 : decode cX11_init 5 = .ok (.sipush 128, 3) := by decide +kernel
theorem dX11_init_8 : decode cX11_init 8 = .ok (.newarray .int, 2) := by decide +kernel
theorem dX11_init_10 : decode cX11_init 10 = .ok (.putfield 7, 3) := by decide +kernel
theorem dX11_init_13 : decode cX11_init 13 = .ok (.aload_n 0, 1) := by decide +kernel
theorem dX11_init_14 : decode cX11_init 14 = .ok (.bipush 16, 2) := by decide +kernel
theorem dX11_init_16 : decode cX11_init 16 = .ok (.newarray .int, 2) := by decide +kernel
theorem dX11_init_18 : decode cX11_init 18 = .ok (.putfield 13, 3) := by decide +kernel
theorem dX11_init_21 : decode cX11_init 21 = .ok (.aload_n 0, 1) := by decide +kernel
theorem dX11_init_22 : decode cX11_init 22 = .ok (.bipush 16, 2) := by decide +kernel
theorem dX11_init_24 : decode cX11_init 24 = .ok (.newarray .int, 2) := by decide +kernel
theorem dX11_init_26 : decode cX11_init 26 = .ok (.putfield 16, 3) := by decide +kernel
theorem dX11_init_29 : decode cX11_init 29 = .ok (.aload_n 0, 1) := by decide +kernel
theorem dX11_init_30 : decode cX11_init 30 = .ok (.bipush 16, 2) := by decide +kernel
theorem dX11_init_32 : decode cX11_init 32 = .ok (.newarray .int, 2) := by decide +kernel
theorem dX11_init_34 : decode cX11_init 34 = .ok (.putfield 19, 3) := by decide +kernel
theorem dX11_init_37 : decode cX11_init 37 = .ok (.aload_n 0, 1) := by decide +kernel
theorem dX11_init_38 : decode cX11_init 38 = .ok (.bipush 16, 2) := by decide +kernel
theorem dX11_init_40 : decode cX11_init 40 = .ok (.newarray .int, 2) := by decide +kernel
theorem dX11_init_42 : decode cX11_init 42 = .ok (.putfield 22, 3) := by decide +kernel
theorem dX11_init_45 : decode cX11_init 45 = .ok (.aload_n 0, 1) := by decide +kernel
theorem dX11_init_46 : decode cX11_init 46 = .ok (.bipush 16, 2) := by decide +kernel
theorem dX11_init_48 : decode cX11_init 48 = .ok (.newarray .int, 2) := by decide +kernel
theorem dX11_init_50 : decode cX11_init 50 = .ok (.putfield 25, 3) := by decide +kernel
theorem dX11_init_53 : decode cX11_init 53 = .ok (.aload_n 0, 1) := by decide +kernel
theorem dX11_init_54 : decode cX11_init 54 = .ok (.iconst 5, 1) := by decide +kernel
theorem dX11_init_55 : decode cX11_init 55 = .ok (.putfield 28, 3) := by decide +kernel
theorem dX11_init_58 : decode cX11_init 58 = .ok (.aload_n 0, 1) := by decide +kernel
theorem dX11_init_59 : decode cX11_init 59 = .ok (.sipush 17408, 3) := by decide +kernel
theorem dX11_init_62 : decode cX11_init 62 = .ok (.newarray .int, 2) := by decide +kernel
theorem dX11_init_64 : decode cX11_init 64 = .ok (.putfield 32, 3) := by decide +kernel
theorem dX11_init_67 : decode cX11_init 67 = .ok (.aload_n 0, 1) := by decide +kernel
theorem dX11_init_68 : decode cX11_init 68 = .ok (.sipush 17408, 3) := by decide +kernel
theorem dX11_init_71 : decode cX11_init 71 = .ok (.newarray .int, 2) := by decide +kernel
theorem dX11_init_73 : decode cX11_init 73 = .ok (.putfield 35, 3) := by decide +kernel
theorem dX11_init_76 : decode cX11_init 76 = .ok (.aload_n 0, 1) := by decide +kernel
theorem dX11_init_77 : decode cX11_init 77 = .ok (.bipush 16, 2) := by decide +kernel
theorem dX11_init_79 : decode cX11_init 79 = .ok (.newarray .int, 2) := by decide +kernel
theorem dX11_init_81 : decode cX11_init 81 = .ok (.putfield 38, 3) := by decide +kernel
theorem dX11_init_84 : decode cX11_init 84 = .ok (.aload_n 0, 1) := by decide +kernel
theorem dX11_init_85 : decode cX11_init 85 = .ok (.bipush 16, 2) := by decide +kernel
theorem dX11_init_87 : decode cX11_init 87 = .ok (.newarray .int, 2) := by decide +kernel
theorem dX11_init_89 : decode cX11_init 89 = .ok (.putfield 41, 3) := by decide +kernel
theorem dX11_init_92 : decode cX11_init 92 = .ok (.aload_n 0, 1) := by decide +kernel
theorem dX11_init_93 : decode cX11_init 93 = .ok (.sipush 200, 3) := by decide +kernel
theorem dX11_init_96 : decode cX11_init 96 = .ok (.newarray .int, 2) := by decide +kernel
theorem dX11_init_98 : decode cX11_init 98 = .ok (.putfield 44, 3) := by decide +kernel
theorem dX11_init_101 : decode cX11_init 101 = .ok (.aload_n 0, 1) := by decide +kernel
theorem dX11_init_102 : decode cX11_init 102 = .ok (.bipush 110, 2) := by decide +kernel
theorem dX11_init_104 : decode cX11_init 104 = .ok (.newarray .int, 2) := by decide +kernel
theorem dX11_init_106 : decode cX11_init 106 = .ok (.putfield 47, 3) := by decide +kernel
theorem dX11_init_109 : decode cX11_init 109 = .ok (.aload_n 0, 1) := by decide +kernel
theorem dX11_init_110 : decode cX11_init 110 = .ok (.bipush 32, 2) := by decide +kernel
theorem dX11_init_112 : decode cX11_init 112 = .ok (.newarray .int, 2) := by decide +kernel
theorem dX11_init_114 : decode cX11_init 114 = .ok (.putfield 50, 3) := by decide +kernel
theorem dX11_init_117 : decode cX11_init 117 = .ok (.aload_n 0, 1) := by decide +kernel
theorem dX11_init_118 : decode cX11_init 118 = .ok (.sipush 256, 3) := by decide +kernel
theorem dX11_init_121 : decode cX11_init 121 = .ok (.newarray .int, 2) := by decide +kernel
theorem dX11_init_123 : decode cX11_init 123 = .ok (.putfield 53, 3) := by decide +kernel
theorem dX11_init_126 : decode cX11_init 126 = .ok (.aload_n 0, 1) := by decide +kernel
theorem dX11_init_127 : decode cX11_init 127 = .ok (.bipush 8, 2) := by decide +kernel
theorem dX11_init_129 : decode cX11_init 129 = .ok (.newarray .int, 2) := by decide +kernel
theorem dX11_init_131 : decode cX11_init 131 = .ok (.putfield 56, 3) := by decide +kernel
theorem dX11_init_134 : decode cX11_init 134 = .ok (.aload_n 0, 1) := by decide +kernel
theorem dX11_init_135 : decode cX11_init 135 = .ok (.bipush 64, 2) := by decide +kernel
theorem dX11_init_137 : decode cX11_init 137 = .ok (.newarray .int, 2) := by decide +kernel
theorem dX11_init_139 : decode cX11_init 139 = .ok (.putfield 59, 3) := by decide +kernel
theorem dX11_init_142 : decode cX11_init 142 = .ok (.aload_n 0, 1) := by decide +kernel
theorem dX11_init_143 : decode cX11_init 143 = .ok (.bipush 16, 2) := by decide +kernel
theorem dX11_init_145 : decode cX11_init 145 = .ok (.newarray .int, 2) := by decide +kernel
theorem dX11_init_147 : decode cX11_init 147 = .ok (.putfield 62, 3) := by decide +kernel
theorem dX11_init_150 : decode cX11_init 150 = .ok (.aload_n 0, 1) := by decide +kernel
theorem dX11_init_151 : decode cX11_init 151 = .ok (.bipush 6, 2) := by decide +kernel
theorem dX11_init_153 : decode cX11_init 153 = .ok (.newarray .int, 2) := by decide +kernel
theorem dX11_init_155 : decode cX11_init 155 = .ok (.putfield 65, 3) := by decide +kernel
theorem dX11_init_158 : decode cX11_init 158 = .ok (.aload_n 0, 1) := by decide +kernel
theorem dX11_init_159 : decode cX11_init 159 = .ok (.bipush 6, 2) := by decide +kernel
theorem dX11_init_161 : decode cX11_init 161 = .ok (.newarray .int, 2) := by decide +kernel
theorem dX11_init_163 : decode cX11_init 163 = .ok (.putfield 68, 3) := by decide +kernel
theorem dX11_init_166 : decode cX11_init 166 = .ok (.aload_n 0, 1) := by decide +kernel
theorem dX11_init_167 : decode cX11_init 167 = .ok (.bipush 6, 2) := by decide +kernel
theorem dX11_init_169 : decode cX11_init 169 = .ok (.newarray .int, 2) := by decide +kernel
theorem dX11_init_171 : decode cX11_init 171 = .ok (.putfield 71, 3) := by decide +kernel
theorem dX11_init_174 : decode cX11_init 174 = .ok (.aload_n 0, 1) := by decide +kernel
theorem dX11_init_175 : decode cX11_init 175 = .ok (.bipush 24, 2) := by decide +kernel
theorem dX11_init_177 : decode cX11_init 177 = .ok (.newarray .int, 2) := by decide +kernel
theorem dX11_init_179 : decode cX11_init 179 = .ok (.putfield 74, 3) := by decide +kernel
theorem dX11_init_182 : decode cX11_init 182 = .ok (.aload_n 0, 1) := by decide +kernel
theorem dX11_init_183 : decode cX11_init 183 = .ok (.bipush 24, 2) := by decide +kernel
theorem dX11_init_185 : decode cX11_init 185 = .ok (.newarray .int, 2) := by decide +kernel
theorem dX11_init_187 : decode cX11_init 187 = .ok (.putfield 77, 3) := by decide +kernel
theorem dX11_init_190 : decode cX11_init 190 = .ok (.aload_n 0, 1) := by decide +kernel
theorem dX11_init_191 : decode cX11_init 191 = .ok (.bipush 24, 2) := by decide +kernel
theorem dX11_init_193 : decode cX11_init 193 = .ok (.newarray .int, 2) := by decide +kernel
theorem dX11_init_195 : decode cX11_init 195 = .ok (.putfield 80, 3) := by decide +kernel
theorem dX11_init_198 : decode cX11_init 198 = .ok (.aload_n 0, 1) := by decide +kernel
theorem dX11_init_199 : decode cX11_init 199 = .ok (.bipush 24, 2) := by decide +kernel
theorem dX11_init_201 : decode cX11_init 201 = .ok (.newarray .int, 2) := by decide +kernel
theorem dX11_init_203 : decode cX11_init 203 = .ok (.putfield 83, 3) := by decide +kernel
theorem dX11_init_206 : decode cX11_init 206 = .ok (.aload_n 0, 1) := by decide +kernel
theorem dX11_init_207 : decode cX11_init 207 = .ok (.bipush 24, 2) := by decide +kernel
theorem dX11_init_209 : decode cX11_init 209 = .ok (.newarray .int, 2) := by decide +kernel
theorem dX11_init_211 : decode cX11_init 211 = .ok (.putfield 86, 3) := by decide +kernel
theorem dX11_init_214 : decode cX11_init 214 = .ok (.aload_n 0, 1) := by decide +kernel
theorem dX11_init_215 : decode cX11_init 215 = .ok (.bipush 24, 2) := by decide +kernel
theorem dX11_init_217 : decode cX11_init 217 = .ok (.newarray .boolean, 2) := by decide +kernel
theorem dX11_init_219 : decode cX11_init 219 = .ok (.putfield 89, 3) := by decide +kernel
theorem dX11_init_222 : decode cX11_init 222 = .ok (.aload_n 0, 1) := by decide +kernel
theorem dX11_init_223 : decode cX11_init 223 = .ok (.bipush 24, 2) := by decide +kernel
theorem dX11_init_225 : decode cX11_init 225 = .ok (.newarray .int, 2) := by decide +kernel
theorem dX11_init_227 : decode cX11_init 227 = .ok (.putfield 93, 3) := by decide +kernel
theorem dX11_init_230 : decode cX11_init 230 = .ok (.aload_n 0, 1) := by decide +kernel
theorem dX11_init_231 : decode cX11_init 231 = .ok (.bipush 24, 2) := by decide +kernel
theorem dX11_init_233 : decode cX11_init 233 = .ok (.newarray .int, 2) := by decide +kernel
theorem dX11_init_235 : decode cX11_init 235 = .ok (.putfield 96, 3) := by decide +kernel
theorem dX11_init_238 : decode cX11_init 238 = .ok (.aload_n 0, 1) := by decide +kernel
theorem dX11_init_239 : decode cX11_init 239 = .ok (.bipush 24, 2) := by decide +kernel
theorem dX11_init_241 : decode cX11_init 241 = .ok (.newarray .int, 2) := by decide +kernel
theorem dX11_init_243 : decode cX11_init 243 = .ok (.putfield 99, 3) := by decide +kernel
theorem dX11_init_246 : decode cX11_init 246 = .ok (.aload_n 0, 1) := by decide +kernel
theorem dX11_init_247 : decode cX11_init 247 = .ok (.bipush 24, 2) := by decide +kernel
theorem dX11_init_249 : decode cX11_init 249 = .ok (.newarray .boolean, 2) := by decide +kernel
theorem dX11_init_251 : decode cX11_init 251 = .ok (.putfield 102, 3) := by decide +kernel
theorem dX11_init_254 : decode cX11_init 254 = .ok (.aload_n 0, 1) := by decide +kernel
theorem dX11_init_255 : decode cX11_init 255 = .ok (.bipush 24, 2) := by decide +kernel
theorem dX11_init_257 : decode cX11_init 257 = .ok (.newarray .int, 2) := by decide +kernel
theorem dX11_init_259 : decode cX11_init 259 = .ok (.putfield 105, 3) := by decide +kernel
theorem dX11_init_262 : decode cX11_init 262 = .ok (.aload_n 0, 1) := by decide +kernel
theorem dX11_init_263 : decode cX11_init 263 = .ok (.sipush 384, 3) := by decide +kernel
theorem dX11_init_266 : decode cX11_init 266 = .ok (.newarray .int, 2) := by decide +kernel
theorem dX11_init_268 : decode cX11_init 268 = .ok (.putfield 108, 3) := by decide +kernel
theorem dX11_init_271 : decode cX11_init 271 = .ok (.aload_n 0, 1) := by decide +kernel
theorem dX11_init_272 : decode cX11_init 272 = .ok (.bipush 17, 2) := by decide +kernel
theorem dX11_init_274 : decode cX11_init 274 = .ok (.newarray .int, 2) := by decide +kernel
theorem dX11_init_276 : decode cX11_init 276 = .ok (.putfield 111, 3) := by decide +kernel
theorem dX11_init_279 : decode cX11_init 279 = .ok (.aload_n 0, 1) := by decide +kernel
theorem dX11_init_280 : decode cX11_init 280 = .ok (.bipush 17, 2) := by decide +kernel
theorem dX11_init_282 : decode cX11_init 282 = .ok (.newarray .int, 2) := by decide +kernel
theorem dX11_init_284 : decode cX11_init 284 = .ok (.putfield 114, 3) := by decide +kernel
theorem dX11_init_287 : decode cX11_init 287 = .ok (.aload_n 0, 1) := by decide +kernel
theorem dX11_init_288 : decode cX11_init 288 = .ok (.bipush 16, 2) := by decide +kernel
theorem dX11_init_290 : decode cX11_init 290 = .ok (.newarray .int, 2) := by decide +kernel
theorem dX11_init_292 : decode cX11_init 292 = .ok (.putfield 117, 3) := by decide +kernel
theorem dX11_init_295 : decode cX11_init 295 = .ok (.return_, 1) := by decide +kernel
theorem dX11_in_0 : decode cX11_in 0 = .ok (.iload_n 0, 1) := by decide +kernel
theorem dX11_in_1 : decode cX11_in 1 = .ok (.iload_n 1, 1) := by decide +kernel
theorem dX11_in_2 : decode cX11_in 2 = .ok (.if_icmp .lt 12, 3) := by decide +kernel
theorem dX11_in_5 : decode cX11_in 5 = .ok (.iload_n 0, 1) := by decide +kernel
theorem dX11_in_6 : decode cX11_in 6 = .ok (.iload_n 2, 1) := by decide +kernel
theorem dX11_in_7 : decode cX11_in 7 = .ok (.if_icmp .gt 7, 3) := by decide +kernel
theorem dX11_in_10 : decode cX11_in 10 = .ok (.iconst 1, 1) := by decide +kernel
theorem dX11_in_11 : decode cX11_in 11 = .ok (.goto 4, 3) := by decide +kernel
theorem dX11_in_14 : decode cX11_in 14 = .ok (.iconst 0, 1) := by decide +kernel
theorem dX11_in_15 : decode cX11_in 15 = .ok (.ireturn, 1) := by decide +kernel
theorem dX11_apart_0 : decode cX11_apart 0 = .ok (.iload_n 0, 1) := by decide +kernel
theorem dX11_apart_1 : decode cX11_apart 1 = .ok (.iload_n 1, 1) := by decide +kernel
theorem dX11_apart_2 : decode cX11_apart 2 = .ok (.if_icmp .le 9, 3) := by decide +kernel
theorem dX11_apart_5 : decode cX11_apart 5 = .ok (.iload_n 0, 1) := by decide +kernel
theorem dX11_apart_6 : decode cX11_apart 6 = .ok (.iload_n 1, 1) := by decide +kernel
theorem dX11_apart_7 : decode cX11_apart 7 = .ok (.isub, 1) := by decide +kernel
theorem dX11_apart_8 : decode cX11_apart 8 = .ok (.goto 6, 3) := by decide +kernel
theorem dX11_apart_11 : decode cX11_apart 11 = .ok (.iload_n 1, 1) := by decide +kernel
theorem dX11_apart_12 : decode cX11_apart 12 = .ok (.iload_n 0, 1) := by decide +kernel
theorem dX11_apart_13 : decode cX11_apart 13 = .ok (.isub, 1) := by decide +kernel
theorem dX11_apart_14 : decode cX11_apart 14 = .ok (.ireturn, 1) := by decide +kernel
theorem dX11_piece_0 : decode cX11_piece 0 = .ok (.iload_n 2, 1) := by decide +kernel
theorem dX11_piece_1 : decode cX11_piece 1 = .ok (.iconst 1, 1) := by decide +kernel
theorem dX11_piece_2 : decode cX11_piece 2 = .ok (.bipush 8, 2) := by decide +kernel
theorem dX11_piece_4 : decode cX11_piece 4 = .ok (.invokestatic 120, 3) := by decide +kernel
theorem dX11_piece_7 : decode cX11_piece 7 = .ok (.ifCond .eq 34, 3) := by decide +kernel
theorem dX11_piece_10 : decode cX11_piece 10 = .ok (.iload_n 3, 1) := by decide +kernel
theorem dX11_piece_11 : decode cX11_piece 11 = .ok (.iconst 0, 1) := by decide +kernel
theorem dX11_piece_12 : decode cX11_piece 12 = .ok (.bipush 99, 2) := by decide +kernel
theorem dX11_piece_14 : decode cX11_piece 14 = .ok (.invokestatic 120, 3) := by decide +kernel
theorem dX11_piece_17 : decode cX11_piece 17 = .ok (.ifCond .eq 24, 3) := by decide +kernel
theorem dX11_piece_20 : decode cX11_piece 20 = .ok (.iload 4, 2) := by decide +kernel
theorem dX11_piece_22 : decode cX11_piece 22 = .ok (.iconst 0, 1) := by decide +kernel
theorem dX11_piece_23 : decode cX11_piece 23 = .ok (.bipush 99, 2) := by decide +kernel
theorem dX11_piece_25 : decode cX11_piece 25 = .ok (.invokestatic 120, 3) := by decide +kernel
theorem dX11_piece_28 : decode cX11_piece 28 = .ok (.ifCond .eq 13, 3) := by decide +kernel
theorem dX11_piece_31 : decode cX11_piece 31 = .ok (.iload 5, 2) := by decide +kernel
theorem dX11_piece_33 : decode cX11_piece 33 = .ok (.iconst 0, 1) := by decide +kernel
theorem dX11_piece_34 : decode cX11_piece 34 = .ok (.iconst 3, 1) := by decide +kernel
theorem dX11_piece_35 : decode cX11_piece 35 = .ok (.invokestatic 120, 3) := by decide +kernel
theorem dX11_piece_38 : decode cX11_piece 38 = .ok (.ifCond .ne 6, 3) := by decide +kernel
theorem dX11_piece_41 : decode cX11_piece 41 = .ok (.bipush (-3), 2) := by decide +kernel
theorem dX11_piece_43 : decode cX11_piece 43 = .ok (.ireturn, 1) := by decide +kernel
theorem dX11_piece_44 : decode cX11_piece 44 = .ok (.aload_n 0, 1) := by decide +kernel
theorem dX11_piece_45 : decode cX11_piece 45 = .ok (.getfield 124, 3) := by decide +kernel
theorem dX11_piece_48 : decode cX11_piece 48 = .ok (.bipush 16, 2) := by decide +kernel
theorem dX11_piece_50 : decode cX11_piece 50 = .ok (.if_icmp .ne 6, 3) := by decide +kernel
theorem dX11_piece_53 : decode cX11_piece 53 = .ok (.bipush (-5), 2) := by decide +kernel
theorem dX11_piece_55 : decode cX11_piece 55 = .ok (.ireturn, 1) := by decide +kernel
theorem dX11_piece_56 : decode cX11_piece 56 = .ok (.iconst 0, 1) := by decide +kernel
theorem dX11_piece_57 : decode cX11_piece 57 = .ok (.istore 6, 2) := by decide +kernel
theorem dX11_piece_59 : decode cX11_piece 59 = .ok (.iload 6, 2) := by decide +kernel
theorem dX11_piece_61 : decode cX11_piece 61 = .ok (.iload_n 2, 1) := by decide +kernel
theorem dX11_piece_62 : decode cX11_piece 62 = .ok (.if_icmp .ge 33, 3) := by decide +kernel
theorem dX11_piece_65 : decode cX11_piece 65 = .ok (.aload_n 0, 1) := by decide +kernel
theorem dX11_piece_66 : decode cX11_piece 66 = .ok (.getfield 7, 3) := by decide +kernel
theorem dX11_piece_69 : decode cX11_piece 69 = .ok (.bipush 8, 2) := by decide +kernel
theorem dX11_piece_71 : decode cX11_piece 71 = .ok (.aload_n 0, 1) := by decide +kernel
theorem dX11_piece_72 : decode cX11_piece 72 = .ok (.getfield 124, 3) := by decide +kernel
theorem dX11_piece_75 : decode cX11_piece 75 = .ok (.imul, 1) := by decide +kernel
theorem dX11_piece_76 : decode cX11_piece 76 = .ok (.iload 6, 2) := by decide +kernel
theorem dX11_piece_78 : decode cX11_piece 78 = .ok (.iadd, 1) := by decide +kernel
theorem dX11_piece_79 : decode cX11_piece 79 = .ok (.iload_n 1, 1) := by decide +kernel
theorem dX11_piece_80 : decode cX11_piece 80 = .ok (.iconst 4, 1) := by decide +kernel
theorem dX11_piece_81 : decode cX11_piece 81 = .ok (.iload 6, 2) := by decide +kernel
theorem dX11_piece_83 : decode cX11_piece 83 = .ok (.imul, 1) := by decide +kernel
theorem dX11_piece_84 : decode cX11_piece 84 = .ok (.ishr, 1) := by decide +kernel
theorem dX11_piece_85 : decode cX11_piece 85 = .ok (.bipush 15, 2) := by decide +kernel
theorem dX11_piece_87 : decode cX11_piece 87 = .ok (.iand, 1) := by decide +kernel
theorem dX11_piece_88 : decode cX11_piece 88 = .ok (.iastore, 1) := by decide +kernel
theorem dX11_piece_89 : decode cX11_piece 89 = .ok (.iinc 6 1, 3) := by decide +kernel
theorem dX11_piece_92 : decode cX11_piece 92 = .ok (.goto (-33), 3) := by decide +kernel
theorem dX11_piece_95 : decode cX11_piece 95 = .ok (.aload_n 0, 1) := by decide +kernel
theorem dX11_piece_96 : decode cX11_piece 96 = .ok (.getfield 13, 3) := by decide +kernel
theorem dX11_piece_99 : decode cX11_piece 99 = .ok (.aload_n 0, 1) := by decide +kernel
theorem dX11_piece_100 : decode cX11_piece 100 = .ok (.getfield 124, 3) := by decide +kernel
theorem dX11_piece_103 : decode cX11_piece 103 = .ok (.iload_n 2, 1) := by decide +kernel
theorem dX11_piece_104 : decode cX11_piece 104 = .ok (.iastore, 1) := by decide +kernel
theorem dX11_piece_105 : decode cX11_piece 105 = .ok (.aload_n 0, 1) := by decide +kernel
theorem dX11_piece_106 : decode cX11_piece 106 = .ok (.getfield 16, 3) := by decide +kernel
theorem dX11_piece_109 : decode cX11_piece 109 = .ok (.aload_n 0, 1) := by decide +kernel
theorem dX11_piece_110 : decode cX11_piece 110 = .ok (.getfield 124, 3) := by decide +kernel
theorem dX11_piece_113 : decode cX11_piece 113 = .ok (.iload_n 3, 1) := by decide +kernel
theorem dX11_piece_114 : decode cX11_piece 114 = .ok (.iastore, 1) := by decide +kernel
theorem dX11_piece_115 : decode cX11_piece 115 = .ok (.aload_n 0, 1) := by decide +kernel
theorem dX11_piece_116 : decode cX11_piece 116 = .ok (.getfield 19, 3) := by decide +kernel
theorem dX11_piece_119 : decode cX11_piece 119 = .ok (.aload_n 0, 1) := by decide +kernel
theorem dX11_piece_120 : decode cX11_piece 120 = .ok (.getfield 124, 3) := by decide +kernel
theorem dX11_piece_123 : decode cX11_piece 123 = .ok (.iload 4, 2) := by decide +kernel
theorem dX11_piece_125 : decode cX11_piece 125 = .ok (.iastore, 1) := by decide +kernel
theorem dX11_piece_126 : decode cX11_piece 126 = .ok (.aload_n 0, 1) := by decide +kernel
theorem dX11_piece_127 : decode cX11_piece 127 = .ok (.getfield 22, 3) := by decide +kernel
theorem dX11_piece_130 : decode cX11_piece 130 = .ok (.aload_n 0, 1) := by decide +kernel
theorem dX11_piece_131 : decode cX11_piece 131 = .ok (.getfield 124, 3) := by decide +kernel
theorem dX11_piece_134 : decode cX11_piece 134 = .ok (.iload 5, 2) := by decide +kernel
theorem dX11_piece_136 : decode cX11_piece 136 = .ok (.iastore, 1) := by decide +kernel
theorem dX11_piece_137 : decode cX11_piece 137 = .ok (.aload_n 0, 1) := by decide +kernel
theorem dX11_piece_138 : decode cX11_piece 138 = .ok (.getfield 25, 3) := by decide +kernel
theorem dX11_piece_141 : decode cX11_piece 141 = .ok (.aload_n 0, 1) := by decide +kernel
theorem dX11_piece_142 : decode cX11_piece 142 = .ok (.getfield 124, 3) := by decide +kernel
theorem dX11_piece_145 : decode cX11_piece 145 = .ok (.iconst 0, 1) := by decide +kernel
theorem dX11_piece_146 : decode cX11_piece 146 = .ok (.iastore, 1) := by decide +kernel
theorem dX11_piece_147 : decode cX11_piece 147 = .ok (.aload_n 0, 1) := by decide +kernel
theorem dX11_piece_148 : decode cX11_piece 148 = .ok (.dup, 1) := by decide +kernel
theorem dX11_piece_149 : decode cX11_piece 149 = .ok (.getfield 124, 3) := by decide +kernel
theorem dX11_piece_152 : decode cX11_piece 152 = .ok (.iconst 1, 1) := by decide +kernel
theorem dX11_piece_153 : decode cX11_piece 153 = .ok (.iadd, 1) := by decide +kernel
theorem dX11_piece_154 : decode cX11_piece 154 = .ok (.putfield 124, 3) := by decide +kernel
theorem dX11_piece_157 : decode cX11_piece 157 = .ok (.aload_n 0, 1) := by decide +kernel
theorem dX11_piece_158 : decode cX11_piece 158 = .ok (.getfield 124, 3) := by decide +kernel
theorem dX11_piece_161 : decode cX11_piece 161 = .ok (.iconst 1, 1) := by decide +kernel
theorem dX11_piece_162 : decode cX11_piece 162 = .ok (.isub, 1) := by decide +kernel
theorem dX11_piece_163 : decode cX11_piece 163 = .ok (.ireturn, 1) := by decide +kernel
theorem dX11_isPiece_0 : decode cX11_isPiece 0 = .ok (.iload_n 1, 1) := by decide +kernel
theorem dX11_isPiece_1 : decode cX11_isPiece 1 = .ok (.iconst 0, 1) := by decide +kernel
theorem dX11_isPiece_2 : decode cX11_isPiece 2 = .ok (.aload_n 0, 1) := by decide +kernel
theorem dX11_isPiece_3 : decode cX11_isPiece 3 = .ok (.getfield 124, 3) := by decide +kernel
theorem dX11_isPiece_6 : decode cX11_isPiece 6 = .ok (.iconst 1, 1) := by decide +kernel
theorem dX11_isPiece_7 : decode cX11_isPiece 7 = .ok (.isub, 1) := by decide +kernel
theorem dX11_isPiece_8 : decode cX11_isPiece 8 = .ok (.invokestatic 120, 3) := by decide +kernel
theorem dX11_isPiece_11 : decode cX11_isPiece 11 = .ok (.ireturn, 1) := by decide +kernel
theorem dX11_worn_0 : decode cX11_worn 0 = .ok (.aload_n 0, 1) := by decide +kernel
theorem dX11_worn_1 : decode cX11_worn 1 = .ok (.iload_n 1, 1) := by decide +kernel
theorem dX11_worn_2 : decode cX11_worn 2 = .ok (.invokevirtual 127, 3) := by decide +kernel
theorem dX11_worn_5 : decode cX11_worn 5 = .ok (.ifCond .ne 6, 3) := by decide +kernel
theorem dX11_worn_8 : decode cX11_worn 8 = .ok (.bipush (-2), 2) := by decide +kernel
theorem dX11_worn_10 : decode cX11_worn 10 = .ok (.ireturn, 1) := by decide +kernel
theorem dX11_worn_11 : decode cX11_worn 11 = .ok (.iload_n 2, 1) := by decide +kernel
theorem dX11_worn_12 : decode cX11_worn 12 = .ok (.iconst 0, 1) := by decide +kernel
theorem dX11_worn_13 : decode cX11_worn 13 = .ok (.iconst 1, 1) := by decide +kernel
theorem dX11_worn_14 : decode cX11_worn 14 = .ok (.aload_n 0, 1) := by decide +kernel
theorem dX11_worn_15 : decode cX11_worn 15 = .ok (.getfield 13, 3) := by decide +kernel
theorem dX11_worn_18 : decode cX11_worn 18 = .ok (.iload_n 1, 1) := by decide +kernel
theorem dX11_worn_19 : decode cX11_worn 19 = .ok (.iaload, 1) := by decide +kernel
theorem dX11_worn_20 : decode cX11_worn 20 = .ok (.ishl, 1) := by decide +kernel
theorem dX11_worn_21 : decode cX11_worn 21 = .ok (.iconst 1, 1) := by decide +kernel
theorem dX11_worn_22 : decode cX11_worn 22 = .ok (.isub, 1) := by decide +kernel
theorem dX11_worn_23 : decode cX11_worn 23 = .ok (.invokestatic 120, 3) := by decide +kernel
theorem dX11_worn_26 : decode cX11_worn 26 = .ok (.ifCond .ne 6, 3) := by decide +kernel
theorem dX11_worn_29 : decode cX11_worn 29 = .ok (.bipush (-3), 2) := by decide +kernel
theorem dX11_worn_31 : decode cX11_worn 31 = .ok (.ireturn, 1) := by decide +kernel
theorem dX11_worn_32 : decode cX11_worn 32 = .ok (.aload_n 0, 1) := by decide +kernel
theorem dX11_worn_33 : decode cX11_worn 33 = .ok (.getfield 25, 3) := by decide +kernel
theorem dX11_worn_36 : decode cX11_worn 36 = .ok (.iload_n 1, 1) := by decide +kernel
theorem dX11_worn_37 : decode cX11_worn 37 = .ok (.iaload, 1) := by decide +kernel
theorem dX11_worn_38 : decode cX11_worn 38 = .ok (.istore_n 3, 1) := by decide +kernel
theorem dX11_worn_39 : decode cX11_worn 39 = .ok (.aload_n 0, 1) := by decide +kernel
theorem dX11_worn_40 : decode cX11_worn 40 = .ok (.getfield 25, 3) := by decide +kernel
theorem dX11_worn_43 : decode cX11_worn 43 = .ok (.iload_n 1, 1) := by decide +kernel
theorem dX11_worn_44 : decode cX11_worn 44 = .ok (.iload_n 2, 1) := by decide +kernel
theorem dX11_worn_45 : decode cX11_worn 45 = .ok (.iastore, 1) := by decide +kernel
theorem dX11_worn_46 : decode cX11_worn 46 = .ok (.iload_n 3, 1) := by decide +kernel
theorem dX11_worn_47 : decode cX11_worn 47 = .ok (.ireturn, 1) := by decide +kernel
theorem dX11_toneOf_0 : decode cX11_toneOf 0 = .ok (.aload_n 0, 1) := by decide +kernel
theorem dX11_toneOf_1 : decode cX11_toneOf 1 = .ok (.getfield 13, 3) := by decide +kernel
theorem dX11_toneOf_4 : decode cX11_toneOf 4 = .ok (.iload_n 1, 1) := by decide +kernel
theorem dX11_toneOf_5 : decode cX11_toneOf 5 = .ok (.iaload, 1) := by decide +kernel
theorem dX11_toneOf_6 : decode cX11_toneOf 6 = .ok (.iconst 1, 1) := by decide +kernel
theorem dX11_toneOf_7 : decode cX11_toneOf 7 = .ok (.if_icmp .ne 12, 3) := by decide +kernel
theorem dX11_toneOf_10 : decode cX11_toneOf 10 = .ok (.aload_n 0, 1) := by decide +kernel
theorem dX11_toneOf_11 : decode cX11_toneOf 11 = .ok (.getfield 16, 3) := by decide +kernel
theorem dX11_toneOf_14 : decode cX11_toneOf 14 = .ok (.iload_n 1, 1) := by decide +kernel
theorem dX11_toneOf_15 : decode cX11_toneOf 15 = .ok (.iaload, 1) := by decide +kernel
theorem dX11_toneOf_16 : decode cX11_toneOf 16 = .ok (.goto 34, 3) := by decide +kernel
theorem dX11_toneOf_19 : decode cX11_toneOf 19 = .ok (.aload_n 0, 1) := by decide +kernel
theorem dX11_toneOf_20 : decode cX11_toneOf 20 = .ok (.getfield 16, 3) := by decide +kernel
theorem dX11_toneOf_23 : decode cX11_toneOf 23 = .ok (.iload_n 1, 1) := by decide +kernel
theorem dX11_toneOf_24 : decode cX11_toneOf 24 = .ok (.iaload, 1) := by decide +kernel
theorem dX11_toneOf_25 : decode cX11_toneOf 25 = .ok (.iload_n 2, 1) := by decide +kernel
theorem dX11_toneOf_26 : decode cX11_toneOf 26 = .ok (.aload_n 0, 1) := by decide +kernel
theorem dX11_toneOf_27 : decode cX11_toneOf 27 = .ok (.getfield 19, 3) := by decide +kernel
theorem dX11_toneOf_30 : decode cX11_toneOf 30 = .ok (.iload_n 1, 1) := by decide +kernel
theorem dX11_toneOf_31 : decode cX11_toneOf 31 = .ok (.iaload, 1) := by decide +kernel
theorem dX11_toneOf_32 : decode cX11_toneOf 32 = .ok (.aload_n 0, 1) := by decide +kernel
theorem dX11_toneOf_33 : decode cX11_toneOf 33 = .ok (.getfield 16, 3) := by decide +kernel
theorem dX11_toneOf_36 : decode cX11_toneOf 36 = .ok (.iload_n 1, 1) := by decide +kernel
theorem dX11_toneOf_37 : decode cX11_toneOf 37 = .ok (.iaload, 1) := by decide +kernel
theorem dX11_toneOf_38 : decode cX11_toneOf 38 = .ok (.isub, 1) := by decide +kernel
theorem dX11_toneOf_39 : decode cX11_toneOf 39 = .ok (.imul, 1) := by decide +kernel
theorem dX11_toneOf_40 : decode cX11_toneOf 40 = .ok (.aload_n 0, 1) := by decide +kernel
theorem dX11_toneOf_41 : decode cX11_toneOf 41 = .ok (.getfield 13, 3) := by decide +kernel
theorem dX11_toneOf_44 : decode cX11_toneOf 44 = .ok (.iload_n 1, 1) := by decide +kernel
theorem dX11_toneOf_45 : decode cX11_toneOf 45 = .ok (.iaload, 1) := by decide +kernel
theorem dX11_toneOf_46 : decode cX11_toneOf 46 = .ok (.iconst 1, 1) := by decide +kernel
theorem dX11_toneOf_47 : decode cX11_toneOf 47 = .ok (.isub, 1) := by decide +kernel
theorem dX11_toneOf_48 : decode cX11_toneOf 48 = .ok (.idiv, 1) := by decide +kernel
theorem dX11_toneOf_49 : decode cX11_toneOf 49 = .ok (.iadd, 1) := by decide +kernel
theorem dX11_toneOf_50 : decode cX11_toneOf 50 = .ok (.ireturn, 1) := by decide +kernel
theorem dX11_isAlike_0 : decode cX11_isAlike 0 = .ok (.aload_n 0, 1) := by decide +kernel
theorem dX11_isAlike_1 : decode cX11_isAlike 1 = .ok (.getfield 22, 3) := by decide +kernel
theorem dX11_isAlike_4 : decode cX11_isAlike 4 = .ok (.iload_n 1, 1) := by decide +kernel
theorem dX11_isAlike_5 : decode cX11_isAlike 5 = .ok (.iaload, 1) := by decide +kernel
theorem dX11_isAlike_6 : decode cX11_isAlike 6 = .ok (.aload_n 0, 1) := by decide +kernel
theorem dX11_isAlike_7 : decode cX11_isAlike 7 = .ok (.getfield 22, 3) := by decide +kernel
theorem dX11_isAlike_10 : decode cX11_isAlike 10 = .ok (.iload_n 2, 1) := by decide +kernel
theorem dX11_isAlike_11 : decode cX11_isAlike 11 = .ok (.iaload, 1) := by decide +kernel
theorem dX11_isAlike_12 : decode cX11_isAlike 12 = .ok (.if_icmp .ne 22, 3) := by decide +kernel
theorem dX11_isAlike_15 : decode cX11_isAlike 15 = .ok (.aload_n 0, 1) := by decide +kernel
theorem dX11_isAlike_16 : decode cX11_isAlike 16 = .ok (.getfield 13, 3) := by decide +kernel
theorem dX11_isAlike_19 : decode cX11_isAlike 19 = .ok (.iload_n 1, 1) := by decide +kernel
theorem dX11_isAlike_20 : decode cX11_isAlike 20 = .ok (.iaload, 1) := by decide +kernel
theorem dX11_isAlike_21 : decode cX11_isAlike 21 = .ok (.aload_n 0, 1) := by decide +kernel
theorem dX11_isAlike_22 : decode cX11_isAlike 22 = .ok (.getfield 13, 3) := by decide +kernel
theorem dX11_isAlike_25 : decode cX11_isAlike 25 = .ok (.iload_n 2, 1) := by decide +kernel
theorem dX11_isAlike_26 : decode cX11_isAlike 26 = .ok (.iaload, 1) := by decide +kernel
theorem dX11_isAlike_27 : decode cX11_isAlike 27 = .ok (.if_icmp .ne 7, 3) := by decide +kernel
theorem dX11_isAlike_30 : decode cX11_isAlike 30 = .ok (.iconst 1, 1) := by decide +kernel
theorem dX11_isAlike_31 : decode cX11_isAlike 31 = .ok (.goto 4, 3) := by decide +kernel
theorem dX11_isAlike_34 : decode cX11_isAlike 34 = .ok (.iconst 0, 1) := by decide +kernel
theorem dX11_isAlike_35 : decode cX11_isAlike 35 = .ok (.istore_n 3, 1) := by decide +kernel
