theorem dX11_isAlike_36 : decode cX11_isAlike 36 = .ok (.iconst 0, 1) := by decide +kernel
theorem dX11_isAlike_37 : decode cX11_isAlike 37 = .ok (.istore 4, 2) := by decide +kernel
theorem dX11_isAlike_39 : decode cX11_isAlike 39 = .ok (.iload 4, 2) := by decide +kernel
theorem dX11_isAlike_41 : decode cX11_isAlike 41 = .ok (.aload_n 0, 1) := by decide +kernel
theorem dX11_isAlike_42 : decode cX11_isAlike 42 = .ok (.getfield 13, 3) := by decide +kernel
theorem dX11_isAlike_45 : decode cX11_isAlike 45 = .ok (.iload_n 1, 1) := by decide +kernel
theorem dX11_isAlike_46 : decode cX11_isAlike 46 = .ok (.iaload, 1) := by decide +kernel
theorem dX11_isAlike_47 : decode cX11_isAlike 47 = .ok (.if_icmp .ge 46, 3) := by decide +kernel
theorem dX11_isAlike_50 : decode cX11_isAlike 50 = .ok (.iload_n 3, 1) := by decide +kernel
theorem dX11_isAlike_51 : decode cX11_isAlike 51 = .ok (.ifCond .eq 34, 3) := by decide +kernel
theorem dX11_isAlike_54 : decode cX11_isAlike 54 = .ok (.aload_n 0, 1) := by decide +kernel
theorem dX11_isAlike_55 : decode cX11_isAlike 55 = .ok (.getfield 7, 3) := by decide +kernel
theorem dX11_isAlike_58 : decode cX11_isAlike 58 = .ok (.bipush 8, 2) := by decide +kernel
theorem dX11_isAlike_60 : decode cX11_isAlike 60 = .ok (.iload_n 1, 1) := by decide +kernel
theorem dX11_isAlike_61 : decode cX11_isAlike 61 = .ok (.imul, 1) := by decide +kernel
theorem dX11_isAlike_62 : decode cX11_isAlike 62 = .ok (.iload 4, 2) := by decide +kernel
theorem dX11_isAlike_64 : decode cX11_isAlike 64 = .ok (.iadd, 1) := by decide +kernel
theorem dX11_isAlike_65 : decode cX11_isAlike 65 = .ok (.iaload, 1) := by decide +kernel
theorem dX11_isAlike_66 : decode cX11_isAlike 66 = .ok (.aload_n 0, 1) := by decide +kernel
theorem dX11_isAlike_67 : decode cX11_isAlike 67 = .ok (.getfield 7, 3) := by decide +kernel
theorem dX11_isAlike_70 : decode cX11_isAlike 70 = .ok (.bipush 8, 2) := by decide +kernel
theorem dX11_isAlike_72 : decode cX11_isAlike 72 = .ok (.iload_n 2, 1) := by decide +kernel
theorem dX11_isAlike_73 : decode cX11_isAlike 73 = .ok (.imul, 1) := by decide +kernel
theorem dX11_isAlike_74 : decode cX11_isAlike 74 = .ok (.iload 4, 2) := by decide +kernel
theorem dX11_isAlike_76 : decode cX11_isAlike 76 = .ok (.iadd, 1) := by decide +kernel
theorem dX11_isAlike_77 : decode cX11_isAlike 77 = .ok (.iaload, 1) := by decide +kernel
theorem dX11_isAlike_78 : decode cX11_isAlike 78 = .ok (.if_icmp .ne 7, 3) := by decide +kernel
theorem dX11_isAlike_81 : decode cX11_isAlike 81 = .ok (.iconst 1, 1) := by decide +kernel
theorem dX11_isAlike_82 : decode cX11_isAlike 82 = .ok (.goto 4, 3) := by decide +kernel
theorem dX11_isAlike_85 : decode cX11_isAlike 85 = .ok (.iconst 0, 1) := by decide +kernel
theorem dX11_isAlike_86 : decode cX11_isAlike 86 = .ok (.istore_n 3, 1) := by decide +kernel
theorem dX11_isAlike_87 : decode cX11_isAlike 87 = .ok (.iinc 4 1, 3) := by decide +kernel
theorem dX11_isAlike_90 : decode cX11_isAlike 90 = .ok (.goto (-51), 3) := by decide +kernel
theorem dX11_isAlike_93 : decode cX11_isAlike 93 = .ok (.iload_n 3, 1) := by decide +kernel
theorem dX11_isAlike_94 : decode cX11_isAlike 94 = .ok (.ireturn, 1) := by decide +kernel
theorem dX11_wearOf_0 : decode cX11_wearOf 0 = .ok (.aload_n 0, 1) := by decide +kernel
theorem dX11_wearOf_1 : decode cX11_wearOf 1 = .ok (.getfield 25, 3) := by decide +kernel
theorem dX11_wearOf_4 : decode cX11_wearOf 4 = .ok (.iload_n 1, 1) := by decide +kernel
theorem dX11_wearOf_5 : decode cX11_wearOf 5 = .ok (.iaload, 1) := by decide +kernel
theorem dX11_wearOf_6 : decode cX11_wearOf 6 = .ok (.iload_n 2, 1) := by decide +kernel
theorem dX11_wearOf_7 : decode cX11_wearOf 7 = .ok (.ishr, 1) := by decide +kernel
theorem dX11_wearOf_8 : decode cX11_wearOf 8 = .ok (.iconst 1, 1) := by decide +kernel
theorem dX11_wearOf_9 : decode cX11_wearOf 9 = .ok (.iand, 1) := by decide +kernel
theorem dX11_wearOf_10 : decode cX11_wearOf 10 = .ok (.ifCond .ne 5, 3) := by decide +kernel
theorem dX11_wearOf_13 : decode cX11_wearOf 13 = .ok (.iconst 0, 1) := by decide +kernel
theorem dX11_wearOf_14 : decode cX11_wearOf 14 = .ok (.ireturn, 1) := by decide +kernel
theorem dX11_wearOf_15 : decode cX11_wearOf 15 = .ok (.iconst 0, 1) := by decide +kernel
theorem dX11_wearOf_16 : decode cX11_wearOf 16 = .ok (.istore_n 3, 1) := by decide +kernel
theorem dX11_wearOf_17 : decode cX11_wearOf 17 = .ok (.iload_n 3, 1) := by decide +kernel
theorem dX11_wearOf_18 : decode cX11_wearOf 18 = .ok (.aload_n 0, 1) := by decide +kernel
theorem dX11_wearOf_19 : decode cX11_wearOf 19 = .ok (.getfield 124, 3) := by decide +kernel
theorem dX11_wearOf_22 : decode cX11_wearOf 22 = .ok (.if_icmp .ge 33, 3) := by decide +kernel
theorem dX11_wearOf_25 : decode cX11_wearOf 25 = .ok (.aload_n 0, 1) := by decide +kernel
theorem dX11_wearOf_26 : decode cX11_wearOf 26 = .ok (.iload_n 1, 1) := by decide +kernel
theorem dX11_wearOf_27 : decode cX11_wearOf 27 = .ok (.iload_n 3, 1) := by decide +kernel
theorem dX11_wearOf_28 : decode cX11_wearOf 28 = .ok (.invokevirtual 131, 3) := by decide +kernel
theorem dX11_wearOf_31 : decode cX11_wearOf 31 = .ok (.ifCond .eq 18, 3) := by decide +kernel
theorem dX11_wearOf_34 : decode cX11_wearOf 34 = .ok (.aload_n 0, 1) := by decide +kernel
theorem dX11_wearOf_35 : decode cX11_wearOf 35 = .ok (.getfield 25, 3) := by decide +kernel
theorem dX11_wearOf_38 : decode cX11_wearOf 38 = .ok (.iload_n 3, 1) := by decide +kernel
theorem dX11_wearOf_39 : decode cX11_wearOf 39 = .ok (.iaload, 1) := by decide +kernel
theorem dX11_wearOf_40 : decode cX11_wearOf 40 = .ok (.iload_n 2, 1) := by decide +kernel
theorem dX11_wearOf_41 : decode cX11_wearOf 41 = .ok (.ishr, 1) := by decide +kernel
theorem dX11_wearOf_42 : decode cX11_wearOf 42 = .ok (.iconst 1, 1) := by decide +kernel
theorem dX11_wearOf_43 : decode cX11_wearOf 43 = .ok (.iand, 1) := by decide +kernel
theorem dX11_wearOf_44 : decode cX11_wearOf 44 = .ok (.ifCond .ne 5, 3) := by decide +kernel
theorem dX11_wearOf_47 : decode cX11_wearOf 47 = .ok (.iconst 1, 1) := by decide +kernel
theorem dX11_wearOf_48 : decode cX11_wearOf 48 = .ok (.ireturn, 1) := by decide +kernel
theorem dX11_wearOf_49 : decode cX11_wearOf 49 = .ok (.iinc 3 1, 3) := by decide +kernel
theorem dX11_wearOf_52 : decode cX11_wearOf 52 = .ok (.goto (-35), 3) := by decide +kernel
theorem dX11_wearOf_55 : decode cX11_wearOf 55 = .ok (.iconst 2, 1) := by decide +kernel
theorem dX11_wearOf_56 : decode cX11_wearOf 56 = .ok (.ireturn, 1) := by decide +kernel
theorem dX11_of_0 : decode cX11_of 0 = .ok (.aload_n 0, 1) := by decide +kernel
theorem dX11_of_1 : decode cX11_of 1 = .ok (.iload_n 1, 1) := by decide +kernel
theorem dX11_of_2 : decode cX11_of 2 = .ok (.invokevirtual 127, 3) := by decide +kernel
theorem dX11_of_5 : decode cX11_of 5 = .ok (.ifCond .eq 19, 3) := by decide +kernel
theorem dX11_of_8 : decode cX11_of 8 = .ok (.iload_n 2, 1) := by decide +kernel
theorem dX11_of_9 : decode cX11_of 9 = .ok (.iconst 0, 1) := by decide +kernel
theorem dX11_of_10 : decode cX11_of 10 = .ok (.aload_n 0, 1) := by decide +kernel
theorem dX11_of_11 : decode cX11_of 11 = .ok (.getfield 13, 3) := by decide +kernel
theorem dX11_of_14 : decode cX11_of 14 = .ok (.iload_n 1, 1) := by decide +kernel
theorem dX11_of_15 : decode cX11_of 15 = .ok (.iaload, 1) := by decide +kernel
theorem dX11_of_16 : decode cX11_of 16 = .ok (.iconst 1, 1) := by decide +kernel
theorem dX11_of_17 : decode cX11_of 17 = .ok (.isub, 1) := by decide +kernel
theorem dX11_of_18 : decode cX11_of 18 = .ok (.invokestatic 120, 3) := by decide +kernel
theorem dX11_of_21 : decode cX11_of 21 = .ok (.ifCond .ne 6, 3) := by decide +kernel
theorem dX11_of_24 : decode cX11_of 24 = .ok (.bipush (-2), 2) := by decide +kernel
theorem dX11_of_26 : decode cX11_of 26 = .ok (.ireturn, 1) := by decide +kernel
theorem dX11_of_27 : decode cX11_of 27 = .ok (.iload_n 3, 1) := by decide +kernel
theorem dX11_of_28 : decode cX11_of 28 = .ok (.ifCond .ne 17, 3) := by decide +kernel
theorem dX11_of_31 : decode cX11_of 31 = .ok (.aload_n 0, 1) := by decide +kernel
theorem dX11_of_32 : decode cX11_of 32 = .ok (.getfield 7, 3) := by decide +kernel
theorem dX11_of_35 : decode cX11_of 35 = .ok (.bipush 8, 2) := by decide +kernel
theorem dX11_of_37 : decode cX11_of 37 = .ok (.iload_n 1, 1) := by decide +kernel
theorem dX11_of_38 : decode cX11_of 38 = .ok (.imul, 1) := by decide +kernel
theorem dX11_of_39 : decode cX11_of 39 = .ok (.iload_n 2, 1) := by decide +kernel
theorem dX11_of_40 : decode cX11_of 40 = .ok (.iadd, 1) := by decide +kernel
theorem dX11_of_41 : decode cX11_of 41 = .ok (.iaload, 1) := by decide +kernel
theorem dX11_of_42 : decode cX11_of 42 = .ok (.goto 33, 3) := by decide +kernel
theorem dX11_of_45 : decode cX11_of 45 = .ok (.iload_n 3, 1) := by decide +kernel
theorem dX11_of_46 : decode cX11_of 46 = .ok (.iconst 1, 1) := by decide +kernel
theorem dX11_of_47 : decode cX11_of 47 = .ok (.if_icmp .ne 12, 3) := by decide +kernel
theorem dX11_of_50 : decode cX11_of 50 = .ok (.aload_n 0, 1) := by decide +kernel
theorem dX11_of_51 : decode cX11_of 51 = .ok (.iload_n 1, 1) := by decide +kernel
theorem dX11_of_52 : decode cX11_of 52 = .ok (.iload_n 2, 1) := by decide +kernel
theorem dX11_of_53 : decode cX11_of 53 = .ok (.invokevirtual 135, 3) := by decide +kernel
theorem dX11_of_56 : decode cX11_of 56 = .ok (.goto 19, 3) := by decide +kernel
theorem dX11_of_59 : decode cX11_of 59 = .ok (.iload_n 3, 1) := by decide +kernel
theorem dX11_of_60 : decode cX11_of 60 = .ok (.iconst 2, 1) := by decide +kernel
theorem dX11_of_61 : decode cX11_of 61 = .ok (.if_icmp .ne 12, 3) := by decide +kernel
theorem dX11_of_64 : decode cX11_of 64 = .ok (.aload_n 0, 1) := by decide +kernel
theorem dX11_of_65 : decode cX11_of 65 = .ok (.iload_n 1, 1) := by decide +kernel
theorem dX11_of_66 : decode cX11_of 66 = .ok (.iload_n 2, 1) := by decide +kernel
theorem dX11_of_67 : decode cX11_of 67 = .ok (.invokevirtual 139, 3) := by decide +kernel
theorem dX11_of_70 : decode cX11_of 70 = .ok (.goto 5, 3) := by decide +kernel
theorem dX11_of_73 : decode cX11_of 73 = .ok (.bipush (-3), 2) := by decide +kernel
theorem dX11_of_75 : decode cX11_of 75 = .ok (.ireturn, 1) := by decide +kernel
theorem dX11_lost_0 : decode cX11_lost 0 = .ok (.iconst 0, 1) := by decide +kernel
theorem dX11_lost_1 : decode cX11_lost 1 = .ok (.istore_n 1, 1) := by decide +kernel
theorem dX11_lost_2 : decode cX11_lost 2 = .ok (.iconst 0, 1) := by decide +kernel
theorem dX11_lost_3 : decode cX11_lost 3 = .ok (.istore_n 2, 1) := by decide +kernel
theorem dX11_lost_4 : decode cX11_lost 4 = .ok (.iload_n 2, 1) := by decide +kernel
theorem dX11_lost_5 : decode cX11_lost 5 = .ok (.aload_n 0, 1) := by decide +kernel
theorem dX11_lost_6 : decode cX11_lost 6 = .ok (.getfield 124, 3) := by decide +kernel
theorem dX11_lost_9 : decode cX11_lost 9 = .ok (.if_icmp .ge 45, 3) := by decide +kernel
theorem dX11_lost_12 : decode cX11_lost 12 = .ok (.iconst 0, 1) := by decide +kernel
theorem dX11_lost_13 : decode cX11_lost 13 = .ok (.istore_n 3, 1) := by decide +kernel
theorem dX11_lost_14 : decode cX11_lost 14 = .ok (.iload_n 3, 1) := by decide +kernel
theorem dX11_lost_15 : decode cX11_lost 15 = .ok (.aload_n 0, 1) := by decide +kernel
theorem dX11_lost_16 : decode cX11_lost 16 = .ok (.getfield 13, 3) := by decide +kernel
theorem dX11_lost_19 : decode cX11_lost 19 = .ok (.iload_n 2, 1) := by decide +kernel
theorem dX11_lost_20 : decode cX11_lost 20 = .ok (.iaload, 1) := by decide +kernel
theorem dX11_lost_21 : decode cX11_lost 21 = .ok (.if_icmp .ge 27, 3) := by decide +kernel
theorem dX11_lost_24 : decode cX11_lost 24 = .ok (.iload_n 1, 1) := by decide +kernel
theorem dX11_lost_25 : decode cX11_lost 25 = .ok (.aload_n 0, 1) := by decide +kernel
theorem dX11_lost_26 : decode cX11_lost 26 = .ok (.iload_n 2, 1) := by decide +kernel
theorem dX11_lost_27 : decode cX11_lost 27 = .ok (.iload_n 3, 1) := by decide +kernel
theorem dX11_lost_28 : decode cX11_lost 28 = .ok (.invokevirtual 139, 3) := by decide +kernel
theorem dX11_lost_31 : decode cX11_lost 31 = .ok (.iconst 2, 1) := by decide +kernel
theorem dX11_lost_32 : decode cX11_lost 32 = .ok (.if_icmp .ne 7, 3) := by decide +kernel
theorem dX11_lost_35 : decode cX11_lost 35 = .ok (.iconst 1, 1) := by decide +kernel
theorem dX11_lost_36 : decode cX11_lost 36 = .ok (.goto 4, 3) := by decide +kernel
theorem dX11_lost_39 : decode cX11_lost 39 = .ok (.iconst 0, 1) := by decide +kernel
theorem dX11_lost_40 : decode cX11_lost 40 = .ok (.iadd, 1) := by decide +kernel
theorem dX11_lost_41 : decode cX11_lost 41 = .ok (.istore_n 1, 1) := by decide +kernel
theorem dX11_lost_42 : decode cX11_lost 42 = .ok (.iinc 3 1, 3) := by decide +kernel
theorem dX11_lost_45 : decode cX11_lost 45 = .ok (.goto (-31), 3) := by decide +kernel
theorem dX11_lost_48 : decode cX11_lost 48 = .ok (.iinc 2 1, 3) := by decide +kernel
theorem dX11_lost_51 : decode cX11_lost 51 = .ok (.goto (-47), 3) := by decide +kernel
theorem dX11_lost_54 : decode cX11_lost 54 = .ok (.iload_n 1, 1) := by decide +kernel
theorem dX11_lost_55 : decode cX11_lost 55 = .ok (.ireturn, 1) := by decide +kernel
theorem dX11_isBit_0 : decode cX11_isBit 0 = .ok (.aload_n 0, 1) := by decide +kernel
theorem dX11_isBit_1 : decode cX11_isBit 1 = .ok (.getfield 22, 3) := by decide +kernel
theorem dX11_isBit_4 : decode cX11_isBit 4 = .ok (.iload 4, 2) := by decide +kernel
theorem dX11_isBit_6 : decode cX11_isBit 6 = .ok (.iaload, 1) := by decide +kernel
theorem dX11_isBit_7 : decode cX11_isBit 7 = .ok (.iload_n 1, 1) := by decide +kernel
theorem dX11_isBit_8 : decode cX11_isBit 8 = .ok (.if_icmp .ne 26, 3) := by decide +kernel
theorem dX11_isBit_11 : decode cX11_isBit 11 = .ok (.iload 5, 2) := by decide +kernel
theorem dX11_isBit_13 : decode cX11_isBit 13 = .ok (.iload 6, 2) := by decide +kernel
theorem dX11_isBit_15 : decode cX11_isBit 15 = .ok (.iadd, 1) := by decide +kernel
theorem dX11_isBit_16 : decode cX11_isBit 16 = .ok (.aload_n 0, 1) := by decide +kernel
theorem dX11_isBit_17 : decode cX11_isBit 17 = .ok (.getfield 13, 3) := by decide +kernel
theorem dX11_isBit_20 : decode cX11_isBit 20 = .ok (.iload 4, 2) := by decide +kernel
theorem dX11_isBit_22 : decode cX11_isBit 22 = .ok (.iaload, 1) := by decide +kernel
theorem dX11_isBit_23 : decode cX11_isBit 23 = .ok (.if_icmp .gt 11, 3) := by decide +kernel
theorem dX11_isBit_26 : decode cX11_isBit 26 = .ok (.iload_n 2, 1) := by decide +kernel
theorem dX11_isBit_27 : decode cX11_isBit 27 = .ok (.iload 6, 2) := by decide +kernel
theorem dX11_isBit_29 : decode cX11_isBit 29 = .ok (.iadd, 1) := by decide +kernel
theorem dX11_isBit_30 : decode cX11_isBit 30 = .ok (.iload_n 3, 1) := by decide +kernel
theorem dX11_isBit_31 : decode cX11_isBit 31 = .ok (.if_icmp .le 5, 3) := by decide +kernel
theorem dX11_isBit_34 : decode cX11_isBit 34 = .ok (.iconst 0, 1) := by decide +kernel
theorem dX11_isBit_35 : decode cX11_isBit 35 = .ok (.ireturn, 1) := by decide +kernel
theorem dX11_isBit_36 : decode cX11_isBit 36 = .ok (.iconst 0, 1) := by decide +kernel
theorem dX11_isBit_37 : decode cX11_isBit 37 = .ok (.istore 7, 2) := by decide +kernel
theorem dX11_isBit_39 : decode cX11_isBit 39 = .ok (.iload 7, 2) := by decide +kernel
theorem dX11_isBit_41 : decode cX11_isBit 41 = .ok (.iload 6, 2) := by decide +kernel
theorem dX11_isBit_43 : decode cX11_isBit 43 = .ok (.if_icmp .ge 54, 3) := by decide +kernel
theorem dX11_isBit_46 : decode cX11_isBit 46 = .ok (.aload_n 0, 1) := by decide +kernel
theorem dX11_isBit_47 : decode cX11_isBit 47 = .ok (.getfield 7, 3) := by decide +kernel
theorem dX11_isBit_50 : decode cX11_isBit 50 = .ok (.bipush 8, 2) := by decide +kernel
theorem dX11_isBit_52 : decode cX11_isBit 52 = .ok (.iload 4, 2) := by decide +kernel
theorem dX11_isBit_54 : decode cX11_isBit 54 = .ok (.imul, 1) := by decide +kernel
theorem dX11_isBit_55 : decode cX11_isBit 55 = .ok (.iload 5, 2) := by decide +kernel
theorem dX11_isBit_57 : decode cX11_isBit 57 = .ok (.iadd, 1) := by decide +kernel
theorem dX11_isBit_58 : decode cX11_isBit 58 = .ok (.iload 7, 2) := by decide +kernel
theorem dX11_isBit_60 : decode cX11_isBit 60 = .ok (.iadd, 1) := by decide +kernel
theorem dX11_isBit_61 : decode cX11_isBit 61 = .ok (.iaload, 1) := by decide +kernel
theorem dX11_isBit_62 : decode cX11_isBit 62 = .ok (.aload_n 0, 1) := by decide +kernel
theorem dX11_isBit_63 : decode cX11_isBit 63 = .ok (.getfield 38, 3) := by decide +kernel
theorem dX11_isBit_66 : decode cX11_isBit 66 = .ok (.iload_n 2, 1) := by decide +kernel
theorem dX11_isBit_67 : decode cX11_isBit 67 = .ok (.iload 7, 2) := by decide +kernel
theorem dX11_isBit_69 : decode cX11_isBit 69 = .ok (.iadd, 1) := by decide +kernel
theorem dX11_isBit_70 : decode cX11_isBit 70 = .ok (.iaload, 1) := by decide +kernel
theorem dX11_isBit_71 : decode cX11_isBit 71 = .ok (.if_icmp .ne 18, 3) := by decide +kernel
theorem dX11_isBit_74 : decode cX11_isBit 74 = .ok (.aload_n 0, 1) := by decide +kernel
theorem dX11_isBit_75 : decode cX11_isBit 75 = .ok (.iload 4, 2) := by decide +kernel
theorem dX11_isBit_77 : decode cX11_isBit 77 = .ok (.iload 5, 2) := by decide +kernel
theorem dX11_isBit_79 : decode cX11_isBit 79 = .ok (.iload 7, 2) := by decide +kernel
theorem dX11_isBit_81 : decode cX11_isBit 81 = .ok (.iadd, 1) := by decide +kernel
theorem dX11_isBit_82 : decode cX11_isBit 82 = .ok (.invokevirtual 139, 3) := by decide +kernel
theorem dX11_isBit_85 : decode cX11_isBit 85 = .ok (.iconst 2, 1) := by decide +kernel
theorem dX11_isBit_86 : decode cX11_isBit 86 = .ok (.if_icmp .ne 5, 3) := by decide +kernel
theorem dX11_isBit_89 : decode cX11_isBit 89 = .ok (.iconst 0, 1) := by decide +kernel
theorem dX11_isBit_90 : decode cX11_isBit 90 = .ok (.ireturn, 1) := by decide +kernel
theorem dX11_isBit_91 : decode cX11_isBit 91 = .ok (.iinc 7 1, 3) := by decide +kernel
theorem dX11_isBit_94 : decode cX11_isBit 94 = .ok (.goto (-55), 3) := by decide +kernel
theorem dX11_isBit_97 : decode cX11_isBit 97 = .ok (.iconst 1, 1) := by decide +kernel
theorem dX11_isBit_98 : decode cX11_isBit 98 = .ok (.ireturn, 1) := by decide +kernel
theorem dX11_cutsOf_0 : decode cX11_cutsOf 0 = .ok (.aload_n 0, 1) := by decide +kernel
theorem dX11_cutsOf_1 : decode cX11_cutsOf 1 = .ok (.getfield 28, 3) := by decide +kernel
theorem dX11_cutsOf_4 : decode cX11_cutsOf 4 = .ok (.iload_n 2, 1) := by decide +kernel
theorem dX11_cutsOf_5 : decode cX11_cutsOf 5 = .ok (.ifCond .le 7, 3) := by decide +kernel
theorem dX11_cutsOf_8 : decode cX11_cutsOf 8 = .ok (.iconst 1, 1) := by decide +kernel
theorem dX11_cutsOf_9 : decode cX11_cutsOf 9 = .ok (.goto 4, 3) := by decide +kernel
theorem dX11_cutsOf_12 : decode cX11_cutsOf 12 = .ok (.iconst 0, 1) := by decide +kernel
theorem dX11_cutsOf_13 : decode cX11_cutsOf 13 = .ok (.iload_n 2, 1) := by decide +kernel
theorem dX11_cutsOf_14 : decode cX11_cutsOf 14 = .ok (.iload_n 3, 1) := by decide +kernel
theorem dX11_cutsOf_15 : decode cX11_cutsOf 15 = .ok (.iadd, 1) := by decide +kernel
theorem dX11_cutsOf_16 : decode cX11_cutsOf 16 = .ok (.aload_n 0, 1) := by decide +kernel
theorem dX11_cutsOf_17 : decode cX11_cutsOf 17 = .ok (.getfield 13, 3) := by decide +kernel
theorem dX11_cutsOf_20 : decode cX11_cutsOf 20 = .ok (.iload_n 1, 1) := by decide +kernel
theorem dX11_cutsOf_21 : decode cX11_cutsOf 21 = .ok (.iaload, 1) := by decide +kernel
theorem dX11_cutsOf_22 : decode cX11_cutsOf 22 = .ok (.if_icmp .ge 7, 3) := by decide +kernel
theorem dX11_cutsOf_25 : decode cX11_cutsOf 25 = .ok (.iconst 1, 1) := by decide +kernel
theorem dX11_cutsOf_26 : decode cX11_cutsOf 26 = .ok (.goto 4, 3) := by decide +kernel
theorem dX11_cutsOf_29 : decode cX11_cutsOf 29 = .ok (.iconst 0, 1) := by decide +kernel
theorem dX11_cutsOf_30 : decode cX11_cutsOf 30 = .ok (.iadd, 1) := by decide +kernel
theorem dX11_cutsOf_31 : decode cX11_cutsOf 31 = .ok (.imul, 1) := by decide +kernel
theorem dX11_cutsOf_32 : decode cX11_cutsOf 32 = .ok (.ireturn, 1) := by decide +kernel
theorem dX11_layOut_0 : decode cX11_layOut 0 = .ok (.iload_n 2, 1) := by decide +kernel
theorem dX11_layOut_1 : decode cX11_layOut 1 = .ok (.iconst 1, 1) := by decide +kernel
theorem dX11_layOut_2 : decode cX11_layOut 2 = .ok (.isub, 1) := by decide +kernel
theorem dX11_layOut_3 : decode cX11_layOut 3 = .ok (.istore_n 3, 1) := by decide +kernel
theorem dX11_layOut_4 : decode cX11_layOut 4 = .ok (.iload_n 3, 1) := by decide +kernel
theorem dX11_layOut_5 : decode cX11_layOut 5 = .ok (.ifCond .lt 109, 3) := by decide +kernel
theorem dX11_layOut_8 : decode cX11_layOut 8 = .ok (.iconst 0, 1) := by decide +kernel
theorem dX11_layOut_9 : decode cX11_layOut 9 = .ok (.istore 4, 2) := by decide +kernel
theorem dX11_layOut_11 : decode cX11_layOut 11 = .ok (.iload 4, 2) := by decide +kernel
theorem dX11_layOut_13 : decode cX11_layOut 13 = .ok (.bipush 64, 2) := by decide +kernel
theorem dX11_layOut_15 : decode cX11_layOut 15 = .ok (.aload_n 0, 1) := by decide +kernel
theorem dX11_layOut_16 : decode cX11_layOut 16 = .ok (.getfield 124, 3) := by decide +kernel
theorem dX11_layOut_19 : decode cX11_layOut 19 = .ok (.imul, 1) := by decide +kernel
theorem dX11_layOut_20 : decode cX11_layOut 20 = .ok (.if_icmp .ge 88, 3) := by decide +kernel
theorem dX11_layOut_23 : decode cX11_layOut 23 = .ok (.iload 4, 2) := by decide +kernel
theorem dX11_layOut_25 : decode cX11_layOut 25 = .ok (.bipush 64, 2) := by decide +kernel
theorem dX11_layOut_27 : decode cX11_layOut 27 = .ok (.idiv, 1) := by decide +kernel
theorem dX11_layOut_28 : decode cX11_layOut 28 = .ok (.istore 5, 2) := by decide +kernel
theorem dX11_layOut_30 : decode cX11_layOut 30 = .ok (.iload 4, 2) := by decide +kernel
theorem dX11_layOut_32 : decode cX11_layOut 32 = .ok (.bipush 8, 2) := by decide +kernel
theorem dX11_layOut_34 : decode cX11_layOut 34 = .ok (.idiv, 1) := by decide +kernel
theorem dX11_layOut_35 : decode cX11_layOut 35 = .ok (.bipush 8, 2) := by decide +kernel
theorem dX11_layOut_37 : decode cX11_layOut 37 = .ok (.irem, 1) := by decide +kernel
theorem dX11_layOut_38 : decode cX11_layOut 38 = .ok (.istore 6, 2) := by decide +kernel
theorem dX11_layOut_40 : decode cX11_layOut 40 = .ok (.iload 4, 2) := by decide +kernel
theorem dX11_layOut_42 : decode cX11_layOut 42 = .ok (.bipush 8, 2) := by decide +kernel
theorem dX11_layOut_44 : decode cX11_layOut 44 = .ok (.irem, 1) := by decide +kernel
theorem dX11_layOut_45 : decode cX11_layOut 45 = .ok (.iconst 1, 1) := by decide +kernel
theorem dX11_layOut_46 : decode cX11_layOut 46 = .ok (.iadd, 1) := by decide +kernel
theorem dX11_layOut_47 : decode cX11_layOut 47 = .ok (.istore 7, 2) := by decide +kernel
theorem dX11_layOut_49 : decode cX11_layOut 49 = .ok (.aload_n 0, 1) := by decide +kernel
theorem dX11_layOut_50 : decode cX11_layOut 50 = .ok (.getfield 32, 3) := by decide +kernel
theorem dX11_layOut_53 : decode cX11_layOut 53 = .ok (.sipush 1024, 3) := by decide +kernel
theorem dX11_layOut_56 : decode cX11_layOut 56 = .ok (.iload_n 3, 1) := by decide +kernel
theorem dX11_layOut_57 : decode cX11_layOut 57 = .ok (.imul, 1) := by decide +kernel
theorem dX11_layOut_58 : decode cX11_layOut 58 = .ok (.iload 4, 2) := by decide +kernel
theorem dX11_layOut_60 : decode cX11_layOut 60 = .ok (.iadd, 1) := by decide +kernel
theorem dX11_layOut_61 : decode cX11_layOut 61 = .ok (.ldc 142, 2) := by decide +kernel
theorem dX11_layOut_63 : decode cX11_layOut 63 = .ok (.iastore, 1) := by decide +kernel
theorem dX11_layOut_64 : decode cX11_layOut 64 = .ok (.aload_n 0, 1) := by decide +kernel
theorem dX11_layOut_65 : decode cX11_layOut 65 = .ok (.getfield 35, 3) := by decide +kernel
theorem dX11_layOut_68 : decode cX11_layOut 68 = .ok (.sipush 1024, 3) := by decide +kernel
theorem dX11_layOut_71 : decode cX11_layOut 71 = .ok (.iload_n 3, 1) := by decide +kernel
theorem dX11_layOut_72 : decode cX11_layOut 72 = .ok (.imul, 1) := by decide +kernel
theorem dX11_layOut_73 : decode cX11_layOut 73 = .ok (.iload 4, 2) := by decide +kernel
theorem dX11_layOut_75 : decode cX11_layOut 75 = .ok (.iadd, 1) := by decide +kernel
theorem dX11_layOut_76 : decode cX11_layOut 76 = .ok (.iconst 0, 1) := by decide +kernel
theorem dX11_layOut_77 : decode cX11_layOut 77 = .ok (.iastore, 1) := by decide +kernel
theorem dX11_layOut_78 : decode cX11_layOut 78 = .ok (.aload_n 0, 1) := by decide +kernel
theorem dX11_layOut_79 : decode cX11_layOut 79 = .ok (.iload_n 1, 1) := by decide +kernel
theorem dX11_layOut_80 : decode cX11_layOut 80 = .ok (.iload_n 3, 1) := by decide +kernel
theorem dX11_layOut_81 : decode cX11_layOut 81 = .ok (.iload_n 2, 1) := by decide +kernel
theorem dX11_layOut_82 : decode cX11_layOut 82 = .ok (.iload 5, 2) := by decide +kernel
theorem dX11_layOut_84 : decode cX11_layOut 84 = .ok (.iload 6, 2) := by decide +kernel
theorem dX11_layOut_86 : decode cX11_layOut 86 = .ok (.iload 7, 2) := by decide +kernel
theorem dX11_layOut_88 : decode cX11_layOut 88 = .ok (.invokevirtual 143, 3) := by decide +kernel
theorem dX11_layOut_91 : decode cX11_layOut 91 = .ok (.ifCond .eq 11, 3) := by decide +kernel
theorem dX11_layOut_94 : decode cX11_layOut 94 = .ok (.aload_n 0, 1) := by decide +kernel
theorem dX11_layOut_95 : decode cX11_layOut 95 = .ok (.iload_n 3, 1) := by decide +kernel
theorem dX11_layOut_96 : decode cX11_layOut 96 = .ok (.iload 4, 2) := by decide +kernel
theorem dX11_layOut_98 : decode cX11_layOut 98 = .ok (.iload_n 2, 1) := by decide +kernel
theorem dX11_layOut_99 : decode cX11_layOut 99 = .ok (.invokevirtual 147, 3) := by decide +kernel
theorem dX11_layOut_102 : decode cX11_layOut 102 = .ok (.iinc 4 1, 3) := by decide +kernel
theorem dX11_layOut_105 : decode cX11_layOut 105 = .ok (.goto (-94), 3) := by decide +kernel
theorem dX11_layOut_108 : decode cX11_layOut 108 = .ok (.iinc 3 (-1), 3) := by decide +kernel
theorem dX11_layOut_111 : decode cX11_layOut 111 = .ok (.goto (-107), 3) := by decide +kernel
theorem dX11_layOut_114 : decode cX11_layOut 114 = .ok (.return_, 1) := by decide +kernel
theorem dX11_goOn_0 : decode cX11_goOn 0 = .ok (.iload_n 2, 1) := by decide +kernel
theorem dX11_goOn_1 : decode cX11_goOn 1 = .ok (.bipush 64, 2) := by decide +kernel
theorem dX11_goOn_3 : decode cX11_goOn 3 = .ok (.idiv, 1) := by decide +kernel
theorem dX11_goOn_4 : decode cX11_goOn 4 = .ok (.istore 4, 2) := by decide +kernel
theorem dX11_goOn_6 : decode cX11_goOn 6 = .ok (.iload_n 2, 1) := by decide +kernel
theorem dX11_goOn_7 : decode cX11_goOn 7 = .ok (.bipush 8, 2) := by decide +kernel
theorem dX11_goOn_9 : decode cX11_goOn 9 = .ok (.idiv, 1) := by decide +kernel
theorem dX11_goOn_10 : decode cX11_goOn 10 = .ok (.bipush 8, 2) := by decide +kernel
theorem dX11_goOn_12 : decode cX11_goOn 12 = .ok (.irem, 1) := by decide +kernel
theorem dX11_goOn_13 : decode cX11_goOn 13 = .ok (.istore 5, 2) := by decide +kernel
theorem dX11_goOn_15 : decode cX11_goOn 15 = .ok (.iload_n 2, 1) := by decide +kernel
theorem dX11_goOn_16 : decode cX11_goOn 16 = .ok (.bipush 8, 2) := by decide +kernel
theorem dX11_goOn_18 : decode cX11_goOn 18 = .ok (.irem, 1) := by decide +kernel
theorem dX11_goOn_19 : decode cX11_goOn 19 = .ok (.iconst 1, 1) := by decide +kernel
theorem dX11_goOn_20 : decode cX11_goOn 20 = .ok (.iadd, 1) := by decide +kernel
theorem dX11_goOn_21 : decode cX11_goOn 21 = .ok (.istore 6, 2) := by decide +kernel
theorem dX11_goOn_23 : decode cX11_goOn 23 = .ok (.iload_n 1, 1) := by decide +kernel
theorem dX11_goOn_24 : decode cX11_goOn 24 = .ok (.iload 6, 2) := by decide +kernel
theorem dX11_goOn_26 : decode cX11_goOn 26 = .ok (.iadd, 1) := by decide +kernel
theorem dX11_goOn_27 : decode cX11_goOn 27 = .ok (.istore 7, 2) := by decide +kernel
theorem dX11_goOn_29 : decode cX11_goOn 29 = .ok (.iload 7, 2) := by decide +kernel
theorem dX11_goOn_31 : decode cX11_goOn 31 = .ok (.iload_n 3, 1) := by decide +kernel
theorem dX11_goOn_32 : decode cX11_goOn 32 = .ok (.if_icmp .ne 7, 3) := by decide +kernel
theorem dX11_goOn_35 : decode cX11_goOn 35 = .ok (.iconst 0, 1) := by decide +kernel
theorem dX11_goOn_36 : decode cX11_goOn 36 = .ok (.goto 5, 3) := by decide +kernel
theorem dX11_goOn_39 : decode cX11_goOn 39 = .ok (.ldc 142, 2) := by decide +kernel
theorem dX11_goOn_41 : decode cX11_goOn 41 = .ok (.istore 8, 2) := by decide +kernel
theorem dX11_goOn_43 : decode cX11_goOn 43 = .ok (.iload 7, 2) := by decide +kernel
theorem dX11_goOn_45 : decode cX11_goOn 45 = .ok (.iload_n 3, 1) := by decide +kernel
theorem dX11_goOn_46 : decode cX11_goOn 46 = .ok (.if_icmp .ne 7, 3) := by decide +kernel
theorem dX11_goOn_49 : decode cX11_goOn 49 = .ok (.lconst 1, 1) := by decide +kernel
theorem dX11_goOn_50 : decode cX11_goOn 50 = .ok (.goto 4, 3) := by decide +kernel
theorem dX11_goOn_53 : decode cX11_goOn 53 = .ok (.lconst 0, 1) := by decide +kernel
theorem dX11_goOn_54 : decode cX11_goOn 54 = .ok (.lstore 9, 2) := by decide +kernel
theorem dX11_goOn_56 : decode cX11_goOn 56 = .ok (.iconst 0, 1) := by decide +kernel
theorem dX11_goOn_57 : decode cX11_goOn 57 = .ok (.istore 11, 2) := by decide +kernel
theorem dX11_goOn_59 : decode cX11_goOn 59 = .ok (.iload 11, 2) := by decide +kernel
theorem dX11_goOn_61 : decode cX11_goOn 61 = .ok (.bipush 64, 2) := by decide +kernel
theorem dX11_goOn_63 : decode cX11_goOn 63 = .ok (.aload_n 0, 1) := by decide +kernel
theorem dX11_goOn_64 : decode cX11_goOn 64 = .ok (.getfield 124, 3) := by decide +kernel
theorem dX11_goOn_67 : decode cX11_goOn 67 = .ok (.imul, 1) := by decide +kernel
theorem dX11_goOn_68 : decode cX11_goOn 68 = .ok (.if_icmp .ge 149, 3) := by decide +kernel
theorem dX11_goOn_71 : decode cX11_goOn 71 = .ok (.iload 7, 2) := by decide +kernel
theorem dX11_goOn_73 : decode cX11_goOn 73 = .ok (.iload_n 3, 1) := by decide +kernel
theorem dX11_goOn_74 : decode cX11_goOn 74 = .ok (.if_icmp .ge 143, 3) := by decide +kernel
theorem dX11_goOn_77 : decode cX11_goOn 77 = .ok (.aload_n 0, 1) := by decide +kernel
theorem dX11_goOn_78 : decode cX11_goOn 78 = .ok (.getfield 32, 3) := by decide +kernel
theorem dX11_goOn_81 : decode cX11_goOn 81 = .ok (.sipush 1024, 3) := by decide +kernel
theorem dX11_goOn_84 : decode cX11_goOn 84 = .ok (.iload 7, 2) := by decide +kernel
theorem dX11_goOn_86 : decode cX11_goOn 86 = .ok (.imul, 1) := by decide +kernel
theorem dX11_goOn_87 : decode cX11_goOn 87 = .ok (.iload 11, 2) := by decide +kernel
theorem dX11_goOn_89 : decode cX11_goOn 89 = .ok (.iadd, 1) := by decide +kernel
theorem dX11_goOn_90 : decode cX11_goOn 90 = .ok (.iaload, 1) := by decide +kernel
theorem dX11_goOn_91 : decode cX11_goOn 91 = .ok (.istore 12, 2) := by decide +kernel
theorem dX11_goOn_93 : decode cX11_goOn 93 = .ok (.iload 12, 2) := by decide +kernel
theorem dX11_goOn_95 : decode cX11_goOn 95 = .ok (.ldc 142, 2) := by decide +kernel
theorem dX11_goOn_97 : decode cX11_goOn 97 = .ok (.if_icmp .ge 114, 3) := by decide +kernel
theorem dX11_goOn_100 : decode cX11_goOn 100 = .ok (.iload 12, 2) := by decide +kernel
theorem dX11_goOn_102 : decode cX11_goOn 102 = .ok (.aload_n 0, 1) := by decide +kernel
theorem dX11_goOn_103 : decode cX11_goOn 103 = .ok (.iload 4, 2) := by decide +kernel
theorem dX11_goOn_105 : decode cX11_goOn 105 = .ok (.iload 5, 2) := by decide +kernel
theorem dX11_goOn_107 : decode cX11_goOn 107 = .ok (.iload 6, 2) := by decide +kernel
theorem dX11_goOn_109 : decode cX11_goOn 109 = .ok (.iadd, 1) := by decide +kernel
theorem dX11_goOn_110 : decode cX11_goOn 110 = .ok (.iconst 1, 1) := by decide +kernel
theorem dX11_goOn_111 : decode cX11_goOn 111 = .ok (.isub, 1) := by decide +kernel
theorem dX11_goOn_112 : decode cX11_goOn 112 = .ok (.invokevirtual 135, 3) := by decide +kernel
theorem dX11_goOn_115 : decode cX11_goOn 115 = .ok (.aload_n 0, 1) := by decide +kernel
theorem dX11_goOn_116 : decode cX11_goOn 116 = .ok (.iload 11, 2) := by decide +kernel
theorem dX11_goOn_118 : decode cX11_goOn 118 = .ok (.bipush 64, 2) := by decide +kernel
theorem dX11_goOn_120 : decode cX11_goOn 120 = .ok (.idiv, 1) := by decide +kernel
theorem dX11_goOn_121 : decode cX11_goOn 121 = .ok (.iload 11, 2) := by decide +kernel
theorem dX11_goOn_123 : decode cX11_goOn 123 = .ok (.bipush 8, 2) := by decide +kernel
theorem dX11_goOn_125 : decode cX11_goOn 125 = .ok (.idiv, 1) := by decide +kernel
theorem dX11_goOn_126 : decode cX11_goOn 126 = .ok (.bipush 8, 2) := by decide +kernel
theorem dX11_goOn_128 : decode cX11_goOn 128 = .ok (.irem, 1) := by decide +kernel
theorem dX11_goOn_129 : decode cX11_goOn 129 = .ok (.invokevirtual 135, 3) := by decide +kernel
theorem dX11_goOn_132 : decode cX11_goOn 132 = .ok (.invokestatic 151, 3) := by decide +kernel
theorem dX11_goOn_135 : decode cX11_goOn 135 = .ok (.iadd, 1) := by decide +kernel
theorem dX11_goOn_136 : decode cX11_goOn 136 = .ok (.istore 12, 2) := by decide +kernel
theorem dX11_goOn_138 : decode cX11_goOn 138 = .ok (.iload 12, 2) := by decide +kernel
theorem dX11_goOn_140 : decode cX11_goOn 140 = .ok (.iload 8, 2) := by decide +kernel
theorem dX11_goOn_142 : decode cX11_goOn 142 = .ok (.if_icmp .ge 21, 3) := by decide +kernel
theorem dX11_goOn_145 : decode cX11_goOn 145 = .ok (.aload_n 0, 1) := by decide +kernel
theorem dX11_goOn_146 : decode cX11_goOn 146 = .ok (.getfield 35, 3) := by decide +kernel
theorem dX11_goOn_149 : decode cX11_goOn 149 = .ok (.sipush 1024, 3) := by decide +kernel
theorem dX11_goOn_152 : decode cX11_goOn 152 = .ok (.iload 7, 2) := by decide +kernel
theorem dX11_goOn_154 : decode cX11_goOn 154 = .ok (.imul, 1) := by decide +kernel
theorem dX11_goOn_155 : decode cX11_goOn 155 = .ok (.iload 11, 2) := by decide +kernel
theorem dX11_goOn_157 : decode cX11_goOn 157 = .ok (.iadd, 1) := by decide +kernel
theorem dX11_goOn_158 : decode cX11_goOn 158 = .ok (.iaload, 1) := by decide +kernel
theorem dX11_goOn_159 : decode cX11_goOn 159 = .ok (.i2l, 1) := by decide +kernel
theorem dX11_goOn_160 : decode cX11_goOn 160 = .ok (.goto 33, 3) := by decide +kernel
theorem dX11_goOn_163 : decode cX11_goOn 163 = .ok (.iload 12, 2) := by decide +kernel
theorem dX11_goOn_165 : decode cX11_goOn 165 = .ok (.iload 8, 2) := by decide +kernel
theorem dX11_goOn_167 : decode cX11_goOn 167 = .ok (.if_icmp .ne 24, 3) := by decide +kernel
theorem dX11_goOn_170 : decode cX11_goOn 170 = .ok (.lload 9, 2) := by decide +kernel
theorem dX11_goOn_172 : decode cX11_goOn 172 = .ok (.aload_n 0, 1) := by decide +kernel
theorem dX11_goOn_173 : decode cX11_goOn 173 = .ok (.getfield 35, 3) := by decide +kernel
theorem dX11_goOn_176 : decode cX11_goOn 176 = .ok (.sipush 1024, 3) := by decide +kernel
theorem dX11_goOn_179 : decode cX11_goOn 179 = .ok (.iload 7, 2) := by decide +kernel
theorem dX11_goOn_181 : decode cX11_goOn 181 = .ok (.imul, 1) := by decide +kernel
theorem dX11_goOn_182 : decode cX11_goOn 182 = .ok (.iload 11, 2) := by decide +kernel
theorem dX11_goOn_184 : decode cX11_goOn 184 = .ok (.iadd, 1) := by decide +kernel
theorem dX11_goOn_185 : decode cX11_goOn 185 = .ok (.iaload, 1) := by decide +kernel
theorem dX11_goOn_186 : decode cX11_goOn 186 = .ok (.i2l, 1) := by decide +kernel
theorem dX11_goOn_187 : decode cX11_goOn 187 = .ok (.ladd, 1) := by decide +kernel
theorem dX11_goOn_188 : decode cX11_goOn 188 = .ok (.goto 5, 3) := by decide +kernel
theorem dX11_goOn_191 : decode cX11_goOn 191 = .ok (.lload 9, 2) := by decide +kernel
theorem dX11_goOn_193 : decode cX11_goOn 193 = .ok (.lstore 9, 2) := by decide +kernel
theorem dX11_goOn_195 : decode cX11_goOn 195 = .ok (.iload 12, 2) := by decide +kernel
theorem dX11_goOn_197 : decode cX11_goOn 197 = .ok (.iload 8, 2) := by decide +kernel
theorem dX11_goOn_199 : decode cX11_goOn 199 = .ok (.if_icmp .ge 8, 3) := by decide +kernel
theorem dX11_goOn_202 : decode cX11_goOn 202 = .ok (.iload 12, 2) := by decide +kernel
theorem dX11_goOn_204 : decode cX11_goOn 204 = .ok (.goto 5, 3) := by decide +kernel
theorem dX11_goOn_207 : decode cX11_goOn 207 = .ok (.iload 8, 2) := by decide +kernel
theorem dX11_goOn_209 : decode cX11_goOn 209 = .ok (.istore 8, 2) := by decide +kernel
theorem dX11_goOn_211 : decode cX11_goOn 211 = .ok (.iinc 11 1, 3) := by decide +kernel
theorem dX11_goOn_214 : decode cX11_goOn 214 = .ok (.goto (-155), 3) := by decide +kernel
theorem dX11_goOn_217 : decode cX11_goOn 217 = .ok (.aload_n 0, 1) := by decide +kernel
theorem dX11_goOn_218 : decode cX11_goOn 218 = .ok (.getfield 32, 3) := by decide +kernel
theorem dX11_goOn_221 : decode cX11_goOn 221 = .ok (.sipush 1024, 3) := by decide +kernel
theorem dX11_goOn_224 : decode cX11_goOn 224 = .ok (.iload_n 1, 1) := by decide +kernel
theorem dX11_goOn_225 : decode cX11_goOn 225 = .ok (.imul, 1) := by decide +kernel
theorem dX11_goOn_226 : decode cX11_goOn 226 = .ok (.iload_n 2, 1) := by decide +kernel
theorem dX11_goOn_227 : decode cX11_goOn 227 = .ok (.iadd, 1) := by decide +kernel
theorem dX11_goOn_228 : decode cX11_goOn 228 = .ok (.iload 8, 2) := by decide +kernel
theorem dX11_goOn_230 : decode cX11_goOn 230 = .ok (.ldc 142, 2) := by decide +kernel
theorem dX11_goOn_232 : decode cX11_goOn 232 = .ok (.if_icmp .ne 8, 3) := by decide +kernel
theorem dX11_goOn_235 : decode cX11_goOn 235 = .ok (.ldc 142, 2) := by decide +kernel
theorem dX11_goOn_237 : decode cX11_goOn 237 = .ok (.goto 16, 3) := by decide +kernel
theorem dX11_goOn_240 : decode cX11_goOn 240 = .ok (.iload 8, 2) := by decide +kernel
theorem dX11_goOn_242 : decode cX11_goOn 242 = .ok (.aload_n 0, 1) := by decide +kernel
theorem dX11_goOn_243 : decode cX11_goOn 243 = .ok (.iload 4, 2) := by decide +kernel
theorem dX11_goOn_245 : decode cX11_goOn 245 = .ok (.iload 5, 2) := by decide +kernel
theorem dX11_goOn_247 : decode cX11_goOn 247 = .ok (.iload 6, 2) := by decide +kernel
theorem dX11_goOn_249 : decode cX11_goOn 249 = .ok (.invokevirtual 154, 3) := by decide +kernel
theorem dX11_goOn_252 : decode cX11_goOn 252 = .ok (.iadd, 1) := by decide +kernel
theorem dX11_goOn_253 : decode cX11_goOn 253 = .ok (.iastore, 1) := by decide +kernel
theorem dX11_goOn_254 : decode cX11_goOn 254 = .ok (.aload_n 0, 1) := by decide +kernel
theorem dX11_goOn_255 : decode cX11_goOn 255 = .ok (.getfield 35, 3) := by decide +kernel
theorem dX11_goOn_258 : decode cX11_goOn 258 = .ok (.sipush 1024, 3) := by decide +kernel
theorem dX11_goOn_261 : decode cX11_goOn 261 = .ok (.iload_n 1, 1) := by decide +kernel
theorem dX11_goOn_262 : decode cX11_goOn 262 = .ok (.imul, 1) := by decide +kernel
theorem dX11_goOn_263 : decode cX11_goOn 263 = .ok (.iload_n 2, 1) := by decide +kernel
theorem dX11_goOn_264 : decode cX11_goOn 264 = .ok (.iadd, 1) := by decide +kernel
theorem dX11_goOn_265 : decode cX11_goOn 265 = .ok (.lload 9, 2) := by decide +kernel
theorem dX11_goOn_267 : decode cX11_goOn 267 = .ok (.ldc2_w 158, 3) := by decide +kernel
theorem dX11_goOn_270 : decode cX11_goOn 270 = .ok (.lrem, 1) := by decide +kernel
theorem dX11_goOn_271 : decode cX11_goOn 271 = .ok (.l2i, 1) := by decide +kernel
theorem dX11_goOn_272 : decode cX11_goOn 272 = .ok (.iastore, 1) := by decide +kernel
theorem dX11_goOn_273 : decode cX11_goOn 273 = .ok (.return_, 1) := by decide +kernel
theorem dX11_leastOf_0 : decode cX11_leastOf 0 = .ok (.ldc 142, 2) := by decide +kernel
theorem dX11_leastOf_2 : decode cX11_leastOf 2 = .ok (.istore_n 1, 1) := by decide +kernel
theorem dX11_leastOf_3 : decode cX11_leastOf 3 = .ok (.iconst 0, 1) := by decide +kernel
theorem dX11_leastOf_4 : decode cX11_leastOf 4 = .ok (.istore_n 2, 1) := by decide +kernel
theorem dX11_leastOf_5 : decode cX11_leastOf 5 = .ok (.iload_n 2, 1) := by decide +kernel
theorem dX11_leastOf_6 : decode cX11_leastOf 6 = .ok (.bipush 64, 2) := by decide +kernel
theorem dX11_leastOf_8 : decode cX11_leastOf 8 = .ok (.aload_n 0, 1) := by decide +kernel
theorem dX11_leastOf_9 : decode cX11_leastOf 9 = .ok (.getfield 124, 3) := by decide +kernel
theorem dX11_leastOf_12 : decode cX11_leastOf 12 = .ok (.imul, 1) := by decide +kernel
theorem dX11_leastOf_13 : decode cX11_leastOf 13 = .ok (.if_icmp .ge 30, 3) := by decide +kernel
theorem dX11_leastOf_16 : decode cX11_leastOf 16 = .ok (.aload_n 0, 1) := by decide +kernel
theorem dX11_leastOf_17 : decode cX11_leastOf 17 = .ok (.getfield 32, 3) := by decide +kernel
theorem dX11_leastOf_20 : decode cX11_leastOf 20 = .ok (.iload_n 2, 1) := by decide +kernel
theorem dX11_leastOf_21 : decode cX11_leastOf 21 = .ok (.iaload, 1) := by decide +kernel
theorem dX11_leastOf_22 : decode cX11_leastOf 22 = .ok (.iload_n 1, 1) := by decide +kernel
theorem dX11_leastOf_23 : decode cX11_leastOf 23 = .ok (.if_icmp .ge 12, 3) := by decide +kernel
theorem dX11_leastOf_26 : decode cX11_leastOf 26 = .ok (.aload_n 0, 1) := by decide +kernel
theorem dX11_leastOf_27 : decode cX11_leastOf 27 = .ok (.getfield 32, 3) := by decide +kernel
theorem dX11_leastOf_30 : decode cX11_leastOf 30 = .ok (.iload_n 2, 1) := by decide +kernel
theorem dX11_leastOf_31 : decode cX11_leastOf 31 = .ok (.iaload, 1) := by decide +kernel
theorem dX11_leastOf_32 : decode cX11_leastOf 32 = .ok (.goto 4, 3) := by decide +kernel
theorem dX11_leastOf_35 : decode cX11_leastOf 35 = .ok (.iload_n 1, 1) := by decide +kernel
theorem dX11_leastOf_36 : decode cX11_leastOf 36 = .ok (.istore_n 1, 1) := by decide +kernel
theorem dX11_leastOf_37 : decode cX11_leastOf 37 = .ok (.iinc 2 1, 3) := by decide +kernel
theorem dX11_leastOf_40 : decode cX11_leastOf 40 = .ok (.goto (-35), 3) := by decide +kernel
theorem dX11_leastOf_43 : decode cX11_leastOf 43 = .ok (.iload_n 1, 1) := by decide +kernel
theorem dX11_leastOf_44 : decode cX11_leastOf 44 = .ok (.ireturn, 1) := by decide +kernel
theorem dX11_layRow_0 : decode cX11_layRow 0 = .ok (.iconst 0, 1) := by decide +kernel
theorem dX11_layRow_1 : decode cX11_layRow 1 = .ok (.istore 4, 2) := by decide +kernel
theorem dX11_layRow_3 : decode cX11_layRow 3 = .ok (.iload 4, 2) := by decide +kernel
theorem dX11_layRow_5 : decode cX11_layRow 5 = .ok (.iload_n 3, 1) := by decide +kernel
theorem dX11_layRow_6 : decode cX11_layRow 6 = .ok (.if_icmp .ge 27, 3) := by decide +kernel
theorem dX11_layRow_9 : decode cX11_layRow 9 = .ok (.aload_n 0, 1) := by decide +kernel
theorem dX11_layRow_10 : decode cX11_layRow 10 = .ok (.getfield 38, 3) := by decide +kernel
theorem dX11_layRow_13 : decode cX11_layRow 13 = .ok (.iload 4, 2) := by decide +kernel
theorem dX11_layRow_15 : decode cX11_layRow 15 = .ok (.lload_n 1, 1) := by decide +kernel
theorem dX11_layRow_16 : decode cX11_layRow 16 = .ok (.iconst 4, 1) := by decide +kernel
theorem dX11_layRow_17 : decode cX11_layRow 17 = .ok (.iload 4, 2) := by decide +kernel
theorem dX11_layRow_19 : decode cX11_layRow 19 = .ok (.imul, 1) := by decide +kernel
theorem dX11_layRow_20 : decode cX11_layRow 20 = .ok (.lshr, 1) := by decide +kernel
theorem dX11_layRow_21 : decode cX11_layRow 21 = .ok (.ldc2_w 160, 3) := by decide +kernel
theorem dX11_layRow_24 : decode cX11_layRow 24 = .ok (.land, 1) := by decide +kernel
theorem dX11_layRow_25 : decode cX11_layRow 25 = .ok (.l2i, 1) := by decide +kernel
theorem dX11_layRow_26 : decode cX11_layRow 26 = .ok (.iastore, 1) := by decide +kernel
theorem dX11_layRow_27 : decode cX11_layRow 27 = .ok (.iinc 4 1, 3) := by decide +kernel
theorem dX11_layRow_30 : decode cX11_layRow 30 = .ok (.goto (-27), 3) := by decide +kernel
theorem dX11_layRow_33 : decode cX11_layRow 33 = .ok (.return_, 1) := by decide +kernel
theorem dX11_said_0 : decode cX11_said 0 = .ok (.iload_n 1, 1) := by decide +kernel
theorem dX11_said_1 : decode cX11_said 1 = .ok (.iconst 0, 1) := by decide +kernel
theorem dX11_said_2 : decode cX11_said 2 = .ok (.iconst 3, 1) := by decide +kernel
theorem dX11_said_3 : decode cX11_said 3 = .ok (.invokestatic 120, 3) := by decide +kernel
theorem dX11_said_6 : decode cX11_said 6 = .ok (.ifCond .eq 24, 3) := by decide +kernel
theorem dX11_said_9 : decode cX11_said 9 = .ok (.iload 4, 2) := by decide +kernel
theorem dX11_said_11 : decode cX11_said 11 = .ok (.iconst 1, 1) := by decide +kernel
theorem dX11_said_12 : decode cX11_said 12 = .ok (.bipush 16, 2) := by decide +kernel
theorem dX11_said_14 : decode cX11_said 14 = .ok (.invokestatic 120, 3) := by decide +kernel
theorem dX11_said_17 : decode cX11_said 17 = .ok (.ifCond .eq 13, 3) := by decide +kernel
theorem dX11_said_20 : decode cX11_said 20 = .ok (.iload 5, 2) := by decide +kernel
theorem dX11_said_22 : decode cX11_said 22 = .ok (.iconst 0, 1) := by decide +kernel
theorem dX11_said_23 : decode cX11_said 23 = .ok (.iconst 1, 1) := by decide +kernel
theorem dX11_said_24 : decode cX11_said 24 = .ok (.invokestatic 120, 3) := by decide +kernel
theorem dX11_said_27 : decode cX11_said 27 = .ok (.ifCond .ne 6, 3) := by decide +kernel
theorem dX11_said_30 : decode cX11_said 30 = .ok (.bipush (-3), 2) := by decide +kernel
theorem dX11_said_32 : decode cX11_said 32 = .ok (.ireturn, 1) := by decide +kernel
theorem dX11_said_33 : decode cX11_said 33 = .ok (.aload_n 0, 1) := by decide +kernel
theorem dX11_said_34 : decode cX11_said 34 = .ok (.lload_n 2, 1) := by decide +kernel
theorem dX11_said_35 : decode cX11_said 35 = .ok (.iload 4, 2) := by decide +kernel
theorem dX11_said_37 : decode cX11_said 37 = .ok (.invokevirtual 162, 3) := by decide +kernel
theorem dX11_said_40 : decode cX11_said 40 = .ok (.aload_n 0, 1) := by decide +kernel
theorem dX11_said_41 : decode cX11_said 41 = .ok (.iload_n 1, 1) := by decide +kernel
theorem dX11_said_42 : decode cX11_said 42 = .ok (.iload 4, 2) := by decide +kernel
theorem dX11_said_44 : decode cX11_said 44 = .ok (.invokevirtual 166, 3) := by decide +kernel
theorem dX11_said_47 : decode cX11_said 47 = .ok (.aload_n 0, 1) := by decide +kernel
theorem dX11_said_48 : decode cX11_said 48 = .ok (.invokevirtual 170, 3) := by decide +kernel
theorem dX11_said_51 : decode cX11_said 51 = .ok (.istore 6, 2) := by decide +kernel
theorem dX11_said_53 : decode cX11_said 53 = .ok (.iload 5, 2) := by decide +kernel
theorem dX11_said_55 : decode cX11_said 55 = .ok (.ifCond .ne 17, 3) := by decide +kernel
theorem dX11_said_58 : decode cX11_said 58 = .ok (.iload 6, 2) := by decide +kernel
theorem dX11_said_60 : decode cX11_said 60 = .ok (.ldc 142, 2) := by decide +kernel
theorem dX11_said_62 : decode cX11_said 62 = .ok (.if_icmp .ne 7, 3) := by decide +kernel
theorem dX11_said_65 : decode cX11_said 65 = .ok (.iconst (-1), 1) := by decide +kernel
theorem dX11_said_66 : decode cX11_said 66 = .ok (.goto 5, 3) := by decide +kernel
theorem dX11_said_69 : decode cX11_said 69 = .ok (.iload 6, 2) := by decide +kernel
theorem dX11_said_71 : decode cX11_said 71 = .ok (.ireturn, 1) := by decide +kernel
theorem dX11_said_72 : decode cX11_said 72 = .ok (.lconst 0, 1) := by decide +kernel
theorem dX11_said_73 : decode cX11_said 73 = .ok (.lstore 7, 2) := by decide +kernel
theorem dX11_said_75 : decode cX11_said 75 = .ok (.iconst 0, 1) := by decide +kernel
theorem dX11_said_76 : decode cX11_said 76 = .ok (.istore 9, 2) := by decide +kernel
theorem dX11_said_78 : decode cX11_said 78 = .ok (.iload 9, 2) := by decide +kernel
theorem dX11_said_80 : decode cX11_said 80 = .ok (.bipush 64, 2) := by decide +kernel
theorem dX11_said_82 : decode cX11_said 82 = .ok (.aload_n 0, 1) := by decide +kernel
theorem dX11_said_83 : decode cX11_said 83 = .ok (.getfield 124, 3) := by decide +kernel
theorem dX11_said_86 : decode cX11_said 86 = .ok (.imul, 1) := by decide +kernel
theorem dX11_said_87 : decode cX11_said 87 = .ok (.if_icmp .ge 45, 3) := by decide +kernel
theorem dX11_said_90 : decode cX11_said 90 = .ok (.lload 7, 2) := by decide +kernel
theorem dX11_said_92 : decode cX11_said 92 = .ok (.iload 6, 2) := by decide +kernel
theorem dX11_said_94 : decode cX11_said 94 = .ok (.ldc 142, 2) := by decide +kernel
theorem dX11_said_96 : decode cX11_said 96 = .ok (.if_icmp .ge 26, 3) := by decide +kernel
theorem dX11_said_99 : decode cX11_said 99 = .ok (.aload_n 0, 1) := by decide +kernel
theorem dX11_said_100 : decode cX11_said 100 = .ok (.getfield 32, 3) := by decide +kernel
theorem dX11_said_103 : decode cX11_said 103 = .ok (.iload 9, 2) := by decide +kernel
theorem dX11_said_105 : decode cX11_said 105 = .ok (.iaload, 1) := by decide +kernel
theorem dX11_said_106 : decode cX11_said 106 = .ok (.iload 6, 2) := by decide +kernel
theorem dX11_said_108 : decode cX11_said 108 = .ok (.if_icmp .ne 14, 3) := by decide +kernel
theorem dX11_said_111 : decode cX11_said 111 = .ok (.aload_n 0, 1) := by decide +kernel
theorem dX11_said_112 : decode cX11_said 112 = .ok (.getfield 35, 3) := by decide +kernel
theorem dX11_said_115 : decode cX11_said 115 = .ok (.iload 9, 2) := by decide +kernel
theorem dX11_said_117 : decode cX11_said 117 = .ok (.iaload, 1) := by decide +kernel
theorem dX11_said_118 : decode cX11_said 118 = .ok (.i2l, 1) := by decide +kernel
theorem dX11_said_119 : decode cX11_said 119 = .ok (.goto 4, 3) := by decide +kernel
theorem dX11_said_122 : decode cX11_said 122 = .ok (.lconst 0, 1) := by decide +kernel
theorem dX11_said_123 : decode cX11_said 123 = .ok (.ladd, 1) := by decide +kernel
theorem dX11_said_124 : decode cX11_said 124 = .ok (.lstore 7, 2) := by decide +kernel
theorem dX11_said_126 : decode cX11_said 126 = .ok (.iinc 9 1, 3) := by decide +kernel
theorem dX11_said_129 : decode cX11_said 129 = .ok (.goto (-51), 3) := by decide +kernel
theorem dX11_said_132 : decode cX11_said 132 = .ok (.lload 7, 2) := by decide +kernel
theorem dX11_said_134 : decode cX11_said 134 = .ok (.ldc2_w 158, 3) := by decide +kernel
theorem dX11_said_137 : decode cX11_said 137 = .ok (.lrem, 1) := by decide +kernel
theorem dX11_said_138 : decode cX11_said 138 = .ok (.l2i, 1) := by decide +kernel
theorem dX11_said_139 : decode cX11_said 139 = .ok (.ireturn, 1) := by decide +kernel
theorem dX11_bit_0 : decode cX11_bit 0 = .ok (.iload_n 1, 1) := by decide +kernel
theorem dX11_bit_1 : decode cX11_bit 1 = .ok (.iconst 0, 1) := by decide +kernel
theorem dX11_bit_2 : decode cX11_bit 2 = .ok (.iconst 3, 1) := by decide +kernel
theorem dX11_bit_3 : decode cX11_bit 3 = .ok (.invokestatic 120, 3) := by decide +kernel
theorem dX11_bit_6 : decode cX11_bit 6 = .ok (.ifCond .eq 20, 3) := by decide +kernel
theorem dX11_bit_9 : decode cX11_bit 9 = .ok (.iload 4, 2) := by decide +kernel
theorem dX11_bit_11 : decode cX11_bit 11 = .ok (.iconst 1, 1) := by decide +kernel
theorem dX11_bit_12 : decode cX11_bit 12 = .ok (.bipush 16, 2) := by decide +kernel
theorem dX11_bit_14 : decode cX11_bit 14 = .ok (.invokestatic 120, 3) := by decide +kernel
theorem dX11_bit_17 : decode cX11_bit 17 = .ok (.ifCond .eq 9, 3) := by decide +kernel
theorem dX11_bit_20 : decode cX11_bit 20 = .ok (.iload 5, 2) := by decide +kernel
theorem dX11_bit_22 : decode cX11_bit 22 = .ok (.iconst (-1), 1) := by decide +kernel
theorem dX11_bit_23 : decode cX11_bit 23 = .ok (.if_icmp .ge 6, 3) := by decide +kernel
theorem dX11_bit_26 : decode cX11_bit 26 = .ok (.bipush (-3), 2) := by decide +kernel
theorem dX11_bit_28 : decode cX11_bit 28 = .ok (.ireturn, 1) := by decide +kernel
theorem dX11_bit_29 : decode cX11_bit 29 = .ok (.aload_n 0, 1) := by decide +kernel
theorem dX11_bit_30 : decode cX11_bit 30 = .ok (.lload_n 2, 1) := by decide +kernel
theorem dX11_bit_31 : decode cX11_bit 31 = .ok (.iload 4, 2) := by decide +kernel
theorem dX11_bit_33 : decode cX11_bit 33 = .ok (.invokevirtual 162, 3) := by decide +kernel
theorem dX11_bit_36 : decode cX11_bit 36 = .ok (.aload_n 0, 1) := by decide +kernel
theorem dX11_bit_37 : decode cX11_bit 37 = .ok (.iload_n 1, 1) := by decide +kernel
theorem dX11_bit_38 : decode cX11_bit 38 = .ok (.iload 4, 2) := by decide +kernel
theorem dX11_bit_40 : decode cX11_bit 40 = .ok (.invokevirtual 166, 3) := by decide +kernel
theorem dX11_bit_43 : decode cX11_bit 43 = .ok (.aload_n 0, 1) := by decide +kernel
theorem dX11_bit_44 : decode cX11_bit 44 = .ok (.invokevirtual 170, 3) := by decide +kernel
theorem dX11_bit_47 : decode cX11_bit 47 = .ok (.ldc 142, 2) := by decide +kernel
theorem dX11_bit_49 : decode cX11_bit 49 = .ok (.if_icmp .ne 5, 3) := by decide +kernel
theorem dX11_bit_52 : decode cX11_bit 52 = .ok (.iconst (-1), 1) := by decide +kernel
theorem dX11_bit_53 : decode cX11_bit 53 = .ok (.ireturn, 1) := by decide +kernel
theorem dX11_bit_54 : decode cX11_bit 54 = .ok (.iconst 0, 1) := by decide +kernel
theorem dX11_bit_55 : decode cX11_bit 55 = .ok (.istore 6, 2) := by decide +kernel
theorem dX11_bit_57 : decode cX11_bit 57 = .ok (.iconst 0, 1) := by decide +kernel
theorem dX11_bit_58 : decode cX11_bit 58 = .ok (.istore 7, 2) := by decide +kernel
theorem dX11_bit_60 : decode cX11_bit 60 = .ok (.aload_n 0, 1) := by decide +kernel
theorem dX11_bit_61 : decode cX11_bit 61 = .ok (.invokevirtual 170, 3) := by decide +kernel
theorem dX11_bit_64 : decode cX11_bit 64 = .ok (.istore 8, 2) := by decide +kernel
theorem dX11_bit_66 : decode cX11_bit 66 = .ok (.iconst (-1), 1) := by decide +kernel
theorem dX11_bit_67 : decode cX11_bit 67 = .ok (.istore 9, 2) := by decide +kernel
theorem dX11_bit_69 : decode cX11_bit 69 = .ok (.iload 7, 2) := by decide +kernel
theorem dX11_bit_71 : decode cX11_bit 71 = .ok (.iload 4, 2) := by decide +kernel
theorem dX11_bit_73 : decode cX11_bit 73 = .ok (.if_icmp .ge 186, 3) := by decide +kernel
theorem dX11_bit_76 : decode cX11_bit 76 = .ok (.iconst 0, 1) := by decide +kernel
theorem dX11_bit_77 : decode cX11_bit 77 = .ok (.istore 10, 2) := by decide +kernel
theorem dX11_bit_79 : decode cX11_bit 79 = .ok (.aload_n 0, 1) := by decide +kernel
theorem dX11_bit_80 : decode cX11_bit 80 = .ok (.getfield 32, 3) := by decide +kernel
theorem dX11_bit_83 : decode cX11_bit 83 = .ok (.sipush 1024, 3) := by decide +kernel
theorem dX11_bit_86 : decode cX11_bit 86 = .ok (.iload 7, 2) := by decide +kernel
theorem dX11_bit_88 : decode cX11_bit 88 = .ok (.imul, 1) := by decide +kernel
theorem dX11_bit_89 : decode cX11_bit 89 = .ok (.iload 10, 2) := by decide +kernel
theorem dX11_bit_91 : decode cX11_bit 91 = .ok (.iadd, 1) := by decide +kernel
theorem dX11_bit_92 : decode cX11_bit 92 = .ok (.iaload, 1) := by decide +kernel
theorem dX11_bit_93 : decode cX11_bit 93 = .ok (.ldc 142, 2) := by decide +kernel
theorem dX11_bit_95 : decode cX11_bit 95 = .ok (.if_icmp .eq 55, 3) := by decide +kernel
theorem dX11_bit_98 : decode cX11_bit 98 = .ok (.aload_n 0, 1) := by decide +kernel
theorem dX11_bit_99 : decode cX11_bit 99 = .ok (.getfield 32, 3) := by decide +kernel
theorem dX11_bit_102 : decode cX11_bit 102 = .ok (.sipush 1024, 3) := by decide +kernel
theorem dX11_bit_105 : decode cX11_bit 105 = .ok (.iload 7, 2) := by decide +kernel
theorem dX11_bit_107 : decode cX11_bit 107 = .ok (.imul, 1) := by decide +kernel
theorem dX11_bit_108 : decode cX11_bit 108 = .ok (.iload 10, 2) := by decide +kernel
theorem dX11_bit_110 : decode cX11_bit 110 = .ok (.iadd, 1) := by decide +kernel
theorem dX11_bit_111 : decode cX11_bit 111 = .ok (.iaload, 1) := by decide +kernel
theorem dX11_bit_112 : decode cX11_bit 112 = .ok (.iload 9, 2) := by decide +kernel
theorem dX11_bit_114 : decode cX11_bit 114 = .ok (.iconst (-1), 1) := by decide +kernel
theorem dX11_bit_115 : decode cX11_bit 115 = .ok (.if_icmp .ne 7, 3) := by decide +kernel
theorem dX11_bit_118 : decode cX11_bit 118 = .ok (.iconst 0, 1) := by decide +kernel
theorem dX11_bit_119 : decode cX11_bit 119 = .ok (.goto 25, 3) := by decide +kernel
theorem dX11_bit_122 : decode cX11_bit 122 = .ok (.iload 9, 2) := by decide +kernel
theorem dX11_bit_124 : decode cX11_bit 124 = .ok (.aload_n 0, 1) := by decide +kernel
theorem dX11_bit_125 : decode cX11_bit 125 = .ok (.iload 10, 2) := by decide +kernel
theorem dX11_bit_127 : decode cX11_bit 127 = .ok (.bipush 64, 2) := by decide +kernel
theorem dX11_bit_129 : decode cX11_bit 129 = .ok (.idiv, 1) := by decide +kernel
theorem dX11_bit_130 : decode cX11_bit 130 = .ok (.iload 10, 2) := by decide +kernel
theorem dX11_bit_132 : decode cX11_bit 132 = .ok (.bipush 8, 2) := by decide +kernel
theorem dX11_bit_134 : decode cX11_bit 134 = .ok (.idiv, 1) := by decide +kernel
theorem dX11_bit_135 : decode cX11_bit 135 = .ok (.bipush 8, 2) := by decide +kernel
theorem dX11_bit_137 : decode cX11_bit 137 = .ok (.irem, 1) := by decide +kernel
theorem dX11_bit_138 : decode cX11_bit 138 = .ok (.invokevirtual 135, 3) := by decide +kernel
theorem dX11_bit_141 : decode cX11_bit 141 = .ok (.invokestatic 151, 3) := by decide +kernel
theorem dX11_bit_144 : decode cX11_bit 144 = .ok (.iadd, 1) := by decide +kernel
theorem dX11_bit_145 : decode cX11_bit 145 = .ok (.iload 8, 2) := by decide +kernel
theorem dX11_bit_147 : decode cX11_bit 147 = .ok (.if_icmp .eq 9, 3) := by decide +kernel
theorem dX11_bit_150 : decode cX11_bit 150 = .ok (.iinc 10 1, 3) := by decide +kernel
theorem dX11_bit_153 : decode cX11_bit 153 = .ok (.goto (-74), 3) := by decide +kernel
theorem dX11_bit_156 : decode cX11_bit 156 = .ok (.iload 10, 2) := by decide +kernel
theorem dX11_bit_158 : decode cX11_bit 158 = .ok (.bipush 64, 2) := by decide +kernel
theorem dX11_bit_160 : decode cX11_bit 160 = .ok (.idiv, 1) := by decide +kernel
theorem dX11_bit_161 : decode cX11_bit 161 = .ok (.istore 11, 2) := by decide +kernel
theorem dX11_bit_163 : decode cX11_bit 163 = .ok (.iload 10, 2) := by decide +kernel
theorem dX11_bit_165 : decode cX11_bit 165 = .ok (.bipush 8, 2) := by decide +kernel
theorem dX11_bit_167 : decode cX11_bit 167 = .ok (.idiv, 1) := by decide +kernel
theorem dX11_bit_168 : decode cX11_bit 168 = .ok (.bipush 8, 2) := by decide +kernel
theorem dX11_bit_170 : decode cX11_bit 170 = .ok (.irem, 1) := by decide +kernel
theorem dX11_bit_171 : decode cX11_bit 171 = .ok (.istore 12, 2) := by decide +kernel
theorem dX11_bit_173 : decode cX11_bit 173 = .ok (.iload 10, 2) := by decide +kernel
theorem dX11_bit_175 : decode cX11_bit 175 = .ok (.bipush 8, 2) := by decide +kernel
theorem dX11_bit_177 : decode cX11_bit 177 = .ok (.irem, 1) := by decide +kernel
theorem dX11_bit_178 : decode cX11_bit 178 = .ok (.iconst 1, 1) := by decide +kernel
theorem dX11_bit_179 : decode cX11_bit 179 = .ok (.iadd, 1) := by decide +kernel
theorem dX11_bit_180 : decode cX11_bit 180 = .ok (.istore 13, 2) := by decide +kernel
theorem dX11_bit_182 : decode cX11_bit 182 = .ok (.aload_n 0, 1) := by decide +kernel
theorem dX11_bit_183 : decode cX11_bit 183 = .ok (.getfield 32, 3) := by decide +kernel
theorem dX11_bit_186 : decode cX11_bit 186 = .ok (.sipush 1024, 3) := by decide +kernel
theorem dX11_bit_189 : decode cX11_bit 189 = .ok (.iload 7, 2) := by decide +kernel
theorem dX11_bit_191 : decode cX11_bit 191 = .ok (.imul, 1) := by decide +kernel
theorem dX11_bit_192 : decode cX11_bit 192 = .ok (.iload 10, 2) := by decide +kernel
theorem dX11_bit_194 : decode cX11_bit 194 = .ok (.iadd, 1) := by decide +kernel
theorem dX11_bit_195 : decode cX11_bit 195 = .ok (.iaload, 1) := by decide +kernel
theorem dX11_bit_196 : decode cX11_bit 196 = .ok (.aload_n 0, 1) := by decide +kernel
theorem dX11_bit_197 : decode cX11_bit 197 = .ok (.iload 11, 2) := by decide +kernel
theorem dX11_bit_199 : decode cX11_bit 199 = .ok (.iload 12, 2) := by decide +kernel
theorem dX11_bit_201 : decode cX11_bit 201 = .ok (.iload 13, 2) := by decide +kernel
theorem dX11_bit_203 : decode cX11_bit 203 = .ok (.invokevirtual 154, 3) := by decide +kernel
theorem dX11_bit_206 : decode cX11_bit 206 = .ok (.isub, 1) := by decide +kernel
theorem dX11_bit_207 : decode cX11_bit 207 = .ok (.istore 8, 2) := by decide +kernel
theorem dX11_bit_209 : decode cX11_bit 209 = .ok (.aload_n 0, 1) := by decide +kernel
theorem dX11_bit_210 : decode cX11_bit 210 = .ok (.iload 11, 2) := by decide +kernel
theorem dX11_bit_212 : decode cX11_bit 212 = .ok (.iload 12, 2) := by decide +kernel
theorem dX11_bit_214 : decode cX11_bit 214 = .ok (.iload 13, 2) := by decide +kernel
theorem dX11_bit_216 : decode cX11_bit 216 = .ok (.iadd, 1) := by decide +kernel
theorem dX11_bit_217 : decode cX11_bit 217 = .ok (.iconst 1, 1) := by decide +kernel
theorem dX11_bit_218 : decode cX11_bit 218 = .ok (.isub, 1) := by decide +kernel
theorem dX11_bit_219 : decode cX11_bit 219 = .ok (.invokevirtual 135, 3) := by decide +kernel
theorem dX11_bit_222 : decode cX11_bit 222 = .ok (.istore 9, 2) := by decide +kernel
theorem dX11_bit_224 : decode cX11_bit 224 = .ok (.aload_n 0, 1) := by decide +kernel
theorem dX11_bit_225 : decode cX11_bit 225 = .ok (.getfield 41, 3) := by decide +kernel
theorem dX11_bit_228 : decode cX11_bit 228 = .ok (.iload 6, 2) := by decide +kernel
theorem dX11_bit_230 : decode cX11_bit 230 = .ok (.sipush 256, 3) := by decide +kernel
theorem dX11_bit_233 : decode cX11_bit 233 = .ok (.iload 11, 2) := by decide +kernel
theorem dX11_bit_235 : decode cX11_bit 235 = .ok (.imul, 1) := by decide +kernel
theorem dX11_bit_236 : decode cX11_bit 236 = .ok (.bipush 16, 2) := by decide +kernel
theorem dX11_bit_238 : decode cX11_bit 238 = .ok (.iload 12, 2) := by decide +kernel
theorem dX11_bit_240 : decode cX11_bit 240 = .ok (.imul, 1) := by decide +kernel
theorem dX11_bit_241 : decode cX11_bit 241 = .ok (.iadd, 1) := by decide +kernel
theorem dX11_bit_242 : decode cX11_bit 242 = .ok (.iload 13, 2) := by decide +kernel
theorem dX11_bit_244 : decode cX11_bit 244 = .ok (.iadd, 1) := by decide +kernel
theorem dX11_bit_245 : decode cX11_bit 245 = .ok (.iastore, 1) := by decide +kernel
theorem dX11_bit_246 : decode cX11_bit 246 = .ok (.iinc 6 1, 3) := by decide +kernel
theorem dX11_bit_249 : decode cX11_bit 249 = .ok (.iload 7, 2) := by decide +kernel
theorem dX11_bit_251 : decode cX11_bit 251 = .ok (.iload 13, 2) := by decide +kernel
theorem dX11_bit_253 : decode cX11_bit 253 = .ok (.iadd, 1) := by decide +kernel
theorem dX11_bit_254 : decode cX11_bit 254 = .ok (.istore 7, 2) := by decide +kernel
theorem dX11_bit_256 : decode cX11_bit 256 = .ok (.goto (-187), 3) := by decide +kernel
theorem dX11_bit_259 : decode cX11_bit 259 = .ok (.iload 5, 2) := by decide +kernel
theorem dX11_bit_261 : decode cX11_bit 261 = .ok (.iconst (-1), 1) := by decide +kernel
theorem dX11_bit_262 : decode cX11_bit 262 = .ok (.if_icmp .ne 8, 3) := by decide +kernel
theorem dX11_bit_265 : decode cX11_bit 265 = .ok (.iload 6, 2) := by decide +kernel
theorem dX11_bit_267 : decode cX11_bit 267 = .ok (.goto 21, 3) := by decide +kernel
theorem dX11_bit_270 : decode cX11_bit 270 = .ok (.iload 5, 2) := by decide +kernel
theorem dX11_bit_272 : decode cX11_bit 272 = .ok (.iload 6, 2) := by decide +kernel
theorem dX11_bit_274 : decode cX11_bit 274 = .ok (.if_icmp .ge 13, 3) := by decide +kernel
theorem dX11_bit_277 : decode cX11_bit 277 = .ok (.aload_n 0, 1) := by decide +kernel
theorem dX11_bit_278 : decode cX11_bit 278 = .ok (.getfield 41, 3) := by decide +kernel
theorem dX11_bit_281 : decode cX11_bit 281 = .ok (.iload 5, 2) := by decide +kernel
theorem dX11_bit_283 : decode cX11_bit 283 = .ok (.iaload, 1) := by decide +kernel
theorem dX11_bit_284 : decode cX11_bit 284 = .ok (.goto 4, 3) := by decide +kernel
theorem dX11_bit_287 : decode cX11_bit 287 = .ok (.iconst (-1), 1) := by decide +kernel
theorem dX11_bit_288 : decode cX11_bit 288 = .ok (.ireturn, 1) := by decide +kernel
theorem dX11_write_0 : decode cX11_write 0 = .ok (.iload_n 3, 1) := by decide +kernel
theorem dX11_write_1 : decode cX11_write 1 = .ok (.iconst 1, 1) := by decide +kernel
theorem dX11_write_2 : decode cX11_write 2 = .ok (.bipush 8, 2) := by decide +kernel
theorem dX11_write_4 : decode cX11_write 4 = .ok (.invokestatic 120, 3) := by decide +kernel
theorem dX11_write_7 : decode cX11_write 7 = .ok (.ifCond .ne 6, 3) := by decide +kernel
theorem dX11_write_10 : decode cX11_write 10 = .ok (.bipush (-3), 2) := by decide +kernel
theorem dX11_write_12 : decode cX11_write 12 = .ok (.ireturn, 1) := by decide +kernel
theorem dX11_write_13 : decode cX11_write 13 = .ok (.aload_n 0, 1) := by decide +kernel
theorem dX11_write_14 : decode cX11_write 14 = .ok (.getfield 174, 3) := by decide +kernel
theorem dX11_write_17 : decode cX11_write 17 = .ok (.iload_n 3, 1) := by decide +kernel
theorem dX11_write_18 : decode cX11_write 18 = .ok (.iadd, 1) := by decide +kernel
theorem dX11_write_19 : decode cX11_write 19 = .ok (.sipush 200, 3) := by decide +kernel
theorem dX11_write_22 : decode cX11_write 22 = .ok (.if_icmp .le 6, 3) := by decide +kernel
theorem dX11_write_25 : decode cX11_write 25 = .ok (.bipush (-5), 2) := by decide +kernel
theorem dX11_write_27 : decode cX11_write 27 = .ok (.ireturn, 1) := by decide +kernel
theorem dX11_write_28 : decode cX11_write 28 = .ok (.iconst 0, 1) := by decide +kernel
theorem dX11_write_29 : decode cX11_write 29 = .ok (.istore 4, 2) := by decide +kernel
theorem dX11_write_31 : decode cX11_write 31 = .ok (.iload 4, 2) := by decide +kernel
theorem dX11_write_33 : decode cX11_write 33 = .ok (.iload_n 3, 1) := by decide +kernel
theorem dX11_write_34 : decode cX11_write 34 = .ok (.if_icmp .ge 33, 3) := by decide +kernel
theorem dX11_write_37 : decode cX11_write 37 = .ok (.aload_n 0, 1) := by decide +kernel
theorem dX11_write_38 : decode cX11_write 38 = .ok (.getfield 44, 3) := by decide +kernel
theorem dX11_write_41 : decode cX11_write 41 = .ok (.aload_n 0, 1) := by decide +kernel
theorem dX11_write_42 : decode cX11_write 42 = .ok (.getfield 174, 3) := by decide +kernel
theorem dX11_write_45 : decode cX11_write 45 = .ok (.iload 4, 2) := by decide +kernel
theorem dX11_write_47 : decode cX11_write 47 = .ok (.iadd, 1) := by decide +kernel
theorem dX11_write_48 : decode cX11_write 48 = .ok (.lload_n 1, 1) := by decide +kernel
theorem dX11_write_49 : decode cX11_write 49 = .ok (.bipush 8, 2) := by decide +kernel
theorem dX11_write_51 : decode cX11_write 51 = .ok (.iload 4, 2) := by decide +kernel
theorem dX11_write_53 : decode cX11_write 53 = .ok (.imul, 1) := by decide +kernel
theorem dX11_write_54 : decode cX11_write 54 = .ok (.lshr, 1) := by decide +kernel
theorem dX11_write_55 : decode cX11_write 55 = .ok (.ldc2_w 177, 3) := by decide +kernel
theorem dX11_write_58 : decode cX11_write 58 = .ok (.land, 1) := by decide +kernel
theorem dX11_write_59 : decode cX11_write 59 = .ok (.l2i, 1) := by decide +kernel
theorem dX11_write_60 : decode cX11_write 60 = .ok (.iastore, 1) := by decide +kernel
theorem dX11_write_61 : decode cX11_write 61 = .ok (.iinc 4 1, 3) := by decide +kernel
theorem dX11_write_64 : decode cX11_write 64 = .ok (.goto (-33), 3) := by decide +kernel
theorem dX11_write_67 : decode cX11_write 67 = .ok (.aload_n 0, 1) := by decide +kernel
theorem dX11_write_68 : decode cX11_write 68 = .ok (.dup, 1) := by decide +kernel
theorem dX11_write_69 : decode cX11_write 69 = .ok (.getfield 174, 3) := by decide +kernel
theorem dX11_write_72 : decode cX11_write 72 = .ok (.iload_n 3, 1) := by decide +kernel
theorem dX11_write_73 : decode cX11_write 73 = .ok (.iadd, 1) := by decide +kernel
theorem dX11_write_74 : decode cX11_write 74 = .ok (.putfield 174, 3) := by decide +kernel
theorem dX11_write_77 : decode cX11_write 77 = .ok (.aload_n 0, 1) := by decide +kernel
theorem dX11_write_78 : decode cX11_write 78 = .ok (.getfield 174, 3) := by decide +kernel
theorem dX11_write_81 : decode cX11_write 81 = .ok (.ireturn, 1) := by decide +kernel
theorem dX11_erase_0 : decode cX11_erase 0 = .ok (.aload_n 0, 1) := by decide +kernel
theorem dX11_erase_1 : decode cX11_erase 1 = .ok (.getfield 174, 3) := by decide +kernel
theorem dX11_erase_4 : decode cX11_erase 4 = .ok (.istore_n 1, 1) := by decide +kernel
theorem dX11_erase_5 : decode cX11_erase 5 = .ok (.aload_n 0, 1) := by decide +kernel
theorem dX11_erase_6 : decode cX11_erase 6 = .ok (.iconst 0, 1) := by decide +kernel
theorem dX11_erase_7 : decode cX11_erase 7 = .ok (.putfield 174, 3) := by decide +kernel
theorem dX11_erase_10 : decode cX11_erase 10 = .ok (.iload_n 1, 1) := by decide +kernel
theorem dX11_erase_11 : decode cX11_erase 11 = .ok (.ireturn, 1) := by decide +kernel
theorem dX11_nextToken_0 : decode cX11_nextToken 0 = .ok (.aload_n 0, 1) := by decide +kernel
theorem dX11_nextToken_1 : decode cX11_nextToken 1 = .ok (.getfield 179, 3) := by decide +kernel
theorem dX11_nextToken_4 : decode cX11_nextToken 4 = .ok (.aload_n 0, 1) := by decide +kernel
theorem dX11_nextToken_5 : decode cX11_nextToken 5 = .ok (.getfield 174, 3) := by decide +kernel
theorem dX11_nextToken_8 : decode cX11_nextToken 8 = .ok (.if_icmp .ge 30, 3) := by decide +kernel
theorem dX11_nextToken_11 : decode cX11_nextToken 11 = .ok (.aload_n 0, 1) := by decide +kernel
theorem dX11_nextToken_12 : decode cX11_nextToken 12 = .ok (.getfield 44, 3) := by decide +kernel
theorem dX11_nextToken_15 : decode cX11_nextToken 15 = .ok (.aload_n 0, 1) := by decide +kernel
theorem dX11_nextToken_16 : decode cX11_nextToken 16 = .ok (.getfield 179, 3) := by decide +kernel
theorem dX11_nextToken_19 : decode cX11_nextToken 19 = .ok (.iaload, 1) := by decide +kernel
theorem dX11_nextToken_20 : decode cX11_nextToken 20 = .ok (.bipush 32, 2) := by decide +kernel
theorem dX11_nextToken_22 : decode cX11_nextToken 22 = .ok (.if_icmp .ne 16, 3) := by decide +kernel
theorem dX11_nextToken_25 : decode cX11_nextToken 25 = .ok (.aload_n 0, 1) := by decide +kernel
theorem dX11_nextToken_26 : decode cX11_nextToken 26 = .ok (.dup, 1) := by decide +kernel
theorem dX11_nextToken_27 : decode cX11_nextToken 27 = .ok (.getfield 179, 3) := by decide +kernel
theorem dX11_nextToken_30 : decode cX11_nextToken 30 = .ok (.iconst 1, 1) := by decide +kernel
theorem dX11_nextToken_31 : decode cX11_nextToken 31 = .ok (.iadd, 1) := by decide +kernel
theorem dX11_nextToken_32 : decode cX11_nextToken 32 = .ok (.putfield 179, 3) := by decide +kernel
theorem dX11_nextToken_35 : decode cX11_nextToken 35 = .ok (.goto (-35), 3) := by decide +kernel
theorem dX11_nextToken_38 : decode cX11_nextToken 38 = .ok (.aload_n 0, 1) := by decide +kernel
theorem dX11_nextToken_39 : decode cX11_nextToken 39 = .ok (.aload_n 0, 1) := by decide +kernel
theorem dX11_nextToken_40 : decode cX11_nextToken 40 = .ok (.getfield 179, 3) := by decide +kernel
theorem dX11_nextToken_43 : decode cX11_nextToken 43 = .ok (.putfield 182, 3) := by decide +kernel
theorem dX11_nextToken_46 : decode cX11_nextToken 46 = .ok (.aload_n 0, 1) := by decide +kernel
theorem dX11_nextToken_47 : decode cX11_nextToken 47 = .ok (.iconst 0, 1) := by decide +kernel
theorem dX11_nextToken_48 : decode cX11_nextToken 48 = .ok (.putfield 185, 3) := by decide +kernel
theorem dX11_nextToken_51 : decode cX11_nextToken 51 = .ok (.aload_n 0, 1) := by decide +kernel
theorem dX11_nextToken_52 : decode cX11_nextToken 52 = .ok (.iconst 0, 1) := by decide +kernel
theorem dX11_nextToken_53 : decode cX11_nextToken 53 = .ok (.putfield 188, 3) := by decide +kernel
theorem dX11_nextToken_56 : decode cX11_nextToken 56 = .ok (.aload_n 0, 1) := by decide +kernel
theorem dX11_nextToken_57 : decode cX11_nextToken 57 = .ok (.getfield 179, 3) := by decide +kernel
theorem dX11_nextToken_60 : decode cX11_nextToken 60 = .ok (.aload_n 0, 1) := by decide +kernel
theorem dX11_nextToken_61 : decode cX11_nextToken 61 = .ok (.getfield 174, 3) := by decide +kernel
theorem dX11_nextToken_64 : decode cX11_nextToken 64 = .ok (.if_icmp .ne 13, 3) := by decide +kernel
theorem dX11_nextToken_67 : decode cX11_nextToken 67 = .ok (.aload_n 0, 1) := by decide +kernel
theorem dX11_nextToken_68 : decode cX11_nextToken 68 = .ok (.ldc2_w 191, 3) := by decide +kernel
theorem dX11_nextToken_71 : decode cX11_nextToken 71 = .ok (.putfield 193, 3) := by decide +kernel
theorem dX11_nextToken_74 : decode cX11_nextToken 74 = .ok (.goto 340, 3) := by decide +kernel
theorem dX11_nextToken_77 : decode cX11_nextToken 77 = .ok (.aload_n 0, 1) := by decide +kernel
theorem dX11_nextToken_78 : decode cX11_nextToken 78 = .ok (.getfield 44, 3) := by decide +kernel
theorem dX11_nextToken_81 : decode cX11_nextToken 81 = .ok (.aload_n 0, 1) := by decide +kernel
theorem dX11_nextToken_82 : decode cX11_nextToken 82 = .ok (.getfield 179, 3) := by decide +kernel
theorem dX11_nextToken_85 : decode cX11_nextToken 85 = .ok (.iaload, 1) := by decide +kernel
theorem dX11_nextToken_86 : decode cX11_nextToken 86 = .ok (.bipush 97, 2) := by decide +kernel
theorem dX11_nextToken_88 : decode cX11_nextToken 88 = .ok (.bipush 122, 2) := by decide +kernel
theorem dX11_nextToken_90 : decode cX11_nextToken 90 = .ok (.invokestatic 120, 3) := by decide +kernel
theorem dX11_nextToken_93 : decode cX11_nextToken 93 = .ok (.ifCond .eq 129, 3) := by decide +kernel
theorem dX11_nextToken_96 : decode cX11_nextToken 96 = .ok (.aload_n 0, 1) := by decide +kernel
theorem dX11_nextToken_97 : decode cX11_nextToken 97 = .ok (.lconst 0, 1) := by decide +kernel
theorem dX11_nextToken_98 : decode cX11_nextToken 98 = .ok (.putfield 193, 3) := by decide +kernel
theorem dX11_nextToken_101 : decode cX11_nextToken 101 = .ok (.aload_n 0, 1) := by decide +kernel
theorem dX11_nextToken_102 : decode cX11_nextToken 102 = .ok (.getfield 179, 3) := by decide +kernel
theorem dX11_nextToken_105 : decode cX11_nextToken 105 = .ok (.aload_n 0, 1) := by decide +kernel
theorem dX11_nextToken_106 : decode cX11_nextToken 106 = .ok (.getfield 174, 3) := by decide +kernel
theorem dX11_nextToken_109 : decode cX11_nextToken 109 = .ok (.if_icmp .ge 82, 3) := by decide +kernel
theorem dX11_nextToken_112 : decode cX11_nextToken 112 = .ok (.aload_n 0, 1) := by decide +kernel
theorem dX11_nextToken_113 : decode cX11_nextToken 113 = .ok (.getfield 44, 3) := by decide +kernel
theorem dX11_nextToken_116 : decode cX11_nextToken 116 = .ok (.aload_n 0, 1) := by decide +kernel
theorem dX11_nextToken_117 : decode cX11_nextToken 117 = .ok (.getfield 179, 3) := by decide +kernel
theorem dX11_nextToken_120 : decode cX11_nextToken 120 = .ok (.iaload, 1) := by decide +kernel
theorem dX11_nextToken_121 : decode cX11_nextToken 121 = .ok (.bipush 97, 2) := by decide +kernel
theorem dX11_nextToken_123 : decode cX11_nextToken 123 = .ok (.bipush 122, 2) := by decide +kernel
theorem dX11_nextToken_125 : decode cX11_nextToken 125 = .ok (.invokestatic 120, 3) := by decide +kernel
theorem dX11_nextToken_128 : decode cX11_nextToken 128 = .ok (.ifCond .eq 63, 3) := by decide +kernel
theorem dX11_nextToken_131 : decode cX11_nextToken 131 = .ok (.aload_n 0, 1) := by decide +kernel
theorem dX11_nextToken_132 : decode cX11_nextToken 132 = .ok (.aload_n 0, 1) := by decide +kernel
theorem dX11_nextToken_133 : decode cX11_nextToken 133 = .ok (.getfield 179, 3) := by decide +kernel
theorem dX11_nextToken_136 : decode cX11_nextToken 136 = .ok (.aload_n 0, 1) := by decide +kernel
theorem dX11_nextToken_137 : decode cX11_nextToken 137 = .ok (.getfield 182, 3) := by decide +kernel
theorem dX11_nextToken_140 : decode cX11_nextToken 140 = .ok (.isub, 1) := by decide +kernel
theorem dX11_nextToken_141 : decode cX11_nextToken 141 = .ok (.bipush 9, 2) := by decide +kernel
theorem dX11_nextToken_143 : decode cX11_nextToken 143 = .ok (.if_icmp .ge 29, 3) := by decide +kernel
theorem dX11_nextToken_146 : decode cX11_nextToken 146 = .ok (.ldc2_w 197, 3) := by decide +kernel
theorem dX11_nextToken_149 : decode cX11_nextToken 149 = .ok (.aload_n 0, 1) := by decide +kernel
theorem dX11_nextToken_150 : decode cX11_nextToken 150 = .ok (.getfield 193, 3) := by decide +kernel
theorem dX11_nextToken_153 : decode cX11_nextToken 153 = .ok (.lmul, 1) := by decide +kernel
theorem dX11_nextToken_154 : decode cX11_nextToken 154 = .ok (.aload_n 0, 1) := by decide +kernel
theorem dX11_nextToken_155 : decode cX11_nextToken 155 = .ok (.getfield 44, 3) := by decide +kernel
theorem dX11_nextToken_158 : decode cX11_nextToken 158 = .ok (.aload_n 0, 1) := by decide +kernel
theorem dX11_nextToken_159 : decode cX11_nextToken 159 = .ok (.getfield 179, 3) := by decide +kernel
theorem dX11_nextToken_162 : decode cX11_nextToken 162 = .ok (.iaload, 1) := by decide +kernel
theorem dX11_nextToken_163 : decode cX11_nextToken 163 = .ok (.i2l, 1) := by decide +kernel
theorem dX11_nextToken_164 : decode cX11_nextToken 164 = .ok (.ladd, 1) := by decide +kernel
theorem dX11_nextToken_165 : decode cX11_nextToken 165 = .ok (.ldc2_w 199, 3) := by decide +kernel
theorem dX11_nextToken_168 : decode cX11_nextToken 168 = .ok (.lsub, 1) := by decide +kernel
theorem dX11_nextToken_169 : decode cX11_nextToken 169 = .ok (.goto 6, 3) := by decide +kernel
theorem dX11_nextToken_172 : decode cX11_nextToken 172 = .ok (.ldc2_w 201, 3) := by decide +kernel
theorem dX11_nextToken_175 : decode cX11_nextToken 175 = .ok (.putfield 193, 3) := by decide +kernel
theorem dX11_nextToken_178 : decode cX11_nextToken 178 = .ok (.aload_n 0, 1) := by decide +kernel
theorem dX11_nextToken_179 : decode cX11_nextToken 179 = .ok (.dup, 1) := by decide +kernel
theorem dX11_nextToken_180 : decode cX11_nextToken 180 = .ok (.getfield 179, 3) := by decide +kernel
theorem dX11_nextToken_183 : decode cX11_nextToken 183 = .ok (.iconst 1, 1) := by decide +kernel
theorem dX11_nextToken_184 : decode cX11_nextToken 184 = .ok (.iadd, 1) := by decide +kernel
theorem dX11_nextToken_185 : decode cX11_nextToken 185 = .ok (.putfield 179, 3) := by decide +kernel
theorem dX11_nextToken_188 : decode cX11_nextToken 188 = .ok (.goto (-87), 3) := by decide +kernel
theorem dX11_nextToken_191 : decode cX11_nextToken 191 = .ok (.aload_n 0, 1) := by decide +kernel
theorem dX11_nextToken_192 : decode cX11_nextToken 192 = .ok (.aload_n 0, 1) := by decide +kernel
theorem dX11_nextToken_193 : decode cX11_nextToken 193 = .ok (.getfield 179, 3) := by decide +kernel
theorem dX11_nextToken_196 : decode cX11_nextToken 196 = .ok (.aload_n 0, 1) := by decide +kernel
theorem dX11_nextToken_197 : decode cX11_nextToken 197 = .ok (.getfield 182, 3) := by decide +kernel
theorem dX11_nextToken_200 : decode cX11_nextToken 200 = .ok (.isub, 1) := by decide +kernel
theorem dX11_nextToken_201 : decode cX11_nextToken 201 = .ok (.bipush 9, 2) := by decide +kernel
theorem dX11_nextToken_203 : decode cX11_nextToken 203 = .ok (.if_icmp .le 9, 3) := by decide +kernel
theorem dX11_nextToken_206 : decode cX11_nextToken 206 = .ok (.ldc2_w 201, 3) := by decide +kernel
theorem dX11_nextToken_209 : decode cX11_nextToken 209 = .ok (.goto 7, 3) := by decide +kernel
theorem dX11_nextToken_212 : decode cX11_nextToken 212 = .ok (.aload_n 0, 1) := by decide +kernel
theorem dX11_nextToken_213 : decode cX11_nextToken 213 = .ok (.getfield 193, 3) := by decide +kernel
theorem dX11_nextToken_216 : decode cX11_nextToken 216 = .ok (.putfield 193, 3) := by decide +kernel
theorem dX11_nextToken_219 : decode cX11_nextToken 219 = .ok (.goto 195, 3) := by decide +kernel
theorem dX11_nextToken_222 : decode cX11_nextToken 222 = .ok (.aload_n 0, 1) := by decide +kernel
theorem dX11_nextToken_223 : decode cX11_nextToken 223 = .ok (.getfield 44, 3) := by decide +kernel
theorem dX11_nextToken_226 : decode cX11_nextToken 226 = .ok (.aload_n 0, 1) := by decide +kernel
theorem dX11_nextToken_227 : decode cX11_nextToken 227 = .ok (.getfield 179, 3) := by decide +kernel
theorem dX11_nextToken_230 : decode cX11_nextToken 230 = .ok (.iaload, 1) := by decide +kernel
theorem dX11_nextToken_231 : decode cX11_nextToken 231 = .ok (.bipush 48, 2) := by decide +kernel
theorem dX11_nextToken_233 : decode cX11_nextToken 233 = .ok (.bipush 57, 2) := by decide +kernel
theorem dX11_nextToken_235 : decode cX11_nextToken 235 = .ok (.invokestatic 120, 3) := by decide +kernel
theorem dX11_nextToken_238 : decode cX11_nextToken 238 = .ok (.ifCond .eq 119, 3) := by decide +kernel
theorem dX11_nextToken_241 : decode cX11_nextToken 241 = .ok (.aload_n 0, 1) := by decide +kernel
theorem dX11_nextToken_242 : decode cX11_nextToken 242 = .ok (.getfield 179, 3) := by decide +kernel
theorem dX11_nextToken_245 : decode cX11_nextToken 245 = .ok (.aload_n 0, 1) := by decide +kernel
theorem dX11_nextToken_246 : decode cX11_nextToken 246 = .ok (.getfield 174, 3) := by decide +kernel
theorem dX11_nextToken_249 : decode cX11_nextToken 249 = .ok (.if_icmp .ge 84, 3) := by decide +kernel
theorem dX11_nextToken_252 : decode cX11_nextToken 252 = .ok (.aload_n 0, 1) := by decide +kernel
theorem dX11_nextToken_253 : decode cX11_nextToken 253 = .ok (.getfield 44, 3) := by decide +kernel
theorem dX11_nextToken_256 : decode cX11_nextToken 256 = .ok (.aload_n 0, 1) := by decide +kernel
theorem dX11_nextToken_257 : decode cX11_nextToken 257 = .ok (.getfield 179, 3) := by decide +kernel
theorem dX11_nextToken_260 : decode cX11_nextToken 260 = .ok (.iaload, 1) := by decide +kernel
theorem dX11_nextToken_261 : decode cX11_nextToken 261 = .ok (.bipush 48, 2) := by decide +kernel
theorem dX11_nextToken_263 : decode cX11_nextToken 263 = .ok (.bipush 57, 2) := by decide +kernel
theorem dX11_nextToken_265 : decode cX11_nextToken 265 = .ok (.invokestatic 120, 3) := by decide +kernel
theorem dX11_nextToken_268 : decode cX11_nextToken 268 = .ok (.ifCond .eq 65, 3) := by decide +kernel
theorem dX11_nextToken_271 : decode cX11_nextToken 271 = .ok (.aload_n 0, 1) := by decide +kernel
theorem dX11_nextToken_272 : decode cX11_nextToken 272 = .ok (.aload_n 0, 1) := by decide +kernel
theorem dX11_nextToken_273 : decode cX11_nextToken 273 = .ok (.getfield 185, 3) := by decide +kernel
theorem dX11_nextToken_276 : decode cX11_nextToken 276 = .ok (.iconst 2, 1) := by decide +kernel
theorem dX11_nextToken_277 : decode cX11_nextToken 277 = .ok (.if_icmp .ge 26, 3) := by decide +kernel
theorem dX11_nextToken_280 : decode cX11_nextToken 280 = .ok (.bipush 10, 2) := by decide +kernel
theorem dX11_nextToken_282 : decode cX11_nextToken 282 = .ok (.aload_n 0, 1) := by decide +kernel
theorem dX11_nextToken_283 : decode cX11_nextToken 283 = .ok (.getfield 188, 3) := by decide +kernel
theorem dX11_nextToken_286 : decode cX11_nextToken 286 = .ok (.imul, 1) := by decide +kernel
theorem dX11_nextToken_287 : decode cX11_nextToken 287 = .ok (.aload_n 0, 1) := by decide +kernel
theorem dX11_nextToken_288 : decode cX11_nextToken 288 = .ok (.getfield 44, 3) := by decide +kernel
theorem dX11_nextToken_291 : decode cX11_nextToken 291 = .ok (.aload_n 0, 1) := by decide +kernel
theorem dX11_nextToken_292 : decode cX11_nextToken 292 = .ok (.getfield 179, 3) := by decide +kernel
theorem dX11_nextToken_295 : decode cX11_nextToken 295 = .ok (.iaload, 1) := by decide +kernel
theorem dX11_nextToken_296 : decode cX11_nextToken 296 = .ok (.iadd, 1) := by decide +kernel
theorem dX11_nextToken_297 : decode cX11_nextToken 297 = .ok (.bipush 48, 2) := by decide +kernel
theorem dX11_nextToken_299 : decode cX11_nextToken 299 = .ok (.isub, 1) := by decide +kernel
theorem dX11_nextToken_300 : decode cX11_nextToken 300 = .ok (.goto 7, 3) := by decide +kernel
theorem dX11_nextToken_303 : decode cX11_nextToken 303 = .ok (.aload_n 0, 1) := by decide +kernel
theorem dX11_nextToken_304 : decode cX11_nextToken 304 = .ok (.getfield 188, 3) := by decide +kernel
theorem dX11_nextToken_307 : decode cX11_nextToken 307 = .ok (.putfield 188, 3) := by decide +kernel
theorem dX11_nextToken_310 : decode cX11_nextToken 310 = .ok (.aload_n 0, 1) := by decide +kernel
theorem dX11_nextToken_311 : decode cX11_nextToken 311 = .ok (.dup, 1) := by decide +kernel
theorem dX11_nextToken_312 : decode cX11_nextToken 312 = .ok (.getfield 185, 3) := by decide +kernel
theorem dX11_nextToken_315 : decode cX11_nextToken 315 = .ok (.iconst 1, 1) := by decide +kernel
theorem dX11_nextToken_316 : decode cX11_nextToken 316 = .ok (.iadd, 1) := by decide +kernel
theorem dX11_nextToken_317 : decode cX11_nextToken 317 = .ok (.putfield 185, 3) := by decide +kernel
theorem dX11_nextToken_320 : decode cX11_nextToken 320 = .ok (.aload_n 0, 1) := by decide +kernel
theorem dX11_nextToken_321 : decode cX11_nextToken 321 = .ok (.dup, 1) := by decide +kernel
theorem dX11_nextToken_322 : decode cX11_nextToken 322 = .ok (.getfield 179, 3) := by decide +kernel
theorem dX11_nextToken_325 : decode cX11_nextToken 325 = .ok (.iconst 1, 1) := by decide +kernel
theorem dX11_nextToken_326 : decode cX11_nextToken 326 = .ok (.iadd, 1) := by decide +kernel
theorem dX11_nextToken_327 : decode cX11_nextToken 327 = .ok (.putfield 179, 3) := by decide +kernel
theorem dX11_nextToken_330 : decode cX11_nextToken 330 = .ok (.goto (-89), 3) := by decide +kernel
theorem dX11_nextToken_333 : decode cX11_nextToken 333 = .ok (.aload_n 0, 1) := by decide +kernel
theorem dX11_nextToken_334 : decode cX11_nextToken 334 = .ok (.aload_n 0, 1) := by decide +kernel
theorem dX11_nextToken_335 : decode cX11_nextToken 335 = .ok (.getfield 185, 3) := by decide +kernel
theorem dX11_nextToken_338 : decode cX11_nextToken 338 = .ok (.iconst 2, 1) := by decide +kernel
theorem dX11_nextToken_339 : decode cX11_nextToken 339 = .ok (.if_icmp .le 9, 3) := by decide +kernel
theorem dX11_nextToken_342 : decode cX11_nextToken 342 = .ok (.ldc2_w 201, 3) := by decide +kernel
theorem dX11_nextToken_345 : decode cX11_nextToken 345 = .ok (.goto 6, 3) := by decide +kernel
theorem dX11_nextToken_348 : decode cX11_nextToken 348 = .ok (.ldc2_w 203, 3) := by decide +kernel
theorem dX11_nextToken_351 : decode cX11_nextToken 351 = .ok (.putfield 193, 3) := by decide +kernel
theorem dX11_nextToken_354 : decode cX11_nextToken 354 = .ok (.goto 60, 3) := by decide +kernel
theorem dX11_nextToken_357 : decode cX11_nextToken 357 = .ok (.aload_n 0, 1) := by decide +kernel
theorem dX11_nextToken_358 : decode cX11_nextToken 358 = .ok (.aload_n 0, 1) := by decide +kernel
theorem dX11_nextToken_359 : decode cX11_nextToken 359 = .ok (.getfield 44, 3) := by decide +kernel
theorem dX11_nextToken_362 : decode cX11_nextToken 362 = .ok (.aload_n 0, 1) := by decide +kernel
theorem dX11_nextToken_363 : decode cX11_nextToken 363 = .ok (.getfield 179, 3) := by decide +kernel
theorem dX11_nextToken_366 : decode cX11_nextToken 366 = .ok (.iaload, 1) := by decide +kernel
theorem dX11_nextToken_367 : decode cX11_nextToken 367 = .ok (.bipush 59, 2) := by decide +kernel
theorem dX11_nextToken_369 : decode cX11_nextToken 369 = .ok (.if_icmp .ne 9, 3) := by decide +kernel
theorem dX11_nextToken_372 : decode cX11_nextToken 372 = .ok (.ldc2_w 205, 3) := by decide +kernel
theorem dX11_nextToken_375 : decode cX11_nextToken 375 = .ok (.goto 26, 3) := by decide +kernel
theorem dX11_nextToken_378 : decode cX11_nextToken 378 = .ok (.aload_n 0, 1) := by decide +kernel
theorem dX11_nextToken_379 : decode cX11_nextToken 379 = .ok (.getfield 44, 3) := by decide +kernel
theorem dX11_nextToken_382 : decode cX11_nextToken 382 = .ok (.aload_n 0, 1) := by decide +kernel
theorem dX11_nextToken_383 : decode cX11_nextToken 383 = .ok (.getfield 179, 3) := by decide +kernel
theorem dX11_nextToken_386 : decode cX11_nextToken 386 = .ok (.iaload, 1) := by decide +kernel
theorem dX11_nextToken_387 : decode cX11_nextToken 387 = .ok (.bipush 35, 2) := by decide +kernel
theorem dX11_nextToken_389 : decode cX11_nextToken 389 = .ok (.if_icmp .ne 9, 3) := by decide +kernel
theorem dX11_nextToken_392 : decode cX11_nextToken 392 = .ok (.ldc2_w 207, 3) := by decide +kernel
theorem dX11_nextToken_395 : decode cX11_nextToken 395 = .ok (.goto 6, 3) := by decide +kernel
theorem dX11_nextToken_398 : decode cX11_nextToken 398 = .ok (.ldc2_w 201, 3) := by decide +kernel
theorem dX11_nextToken_401 : decode cX11_nextToken 401 = .ok (.putfield 193, 3) := by decide +kernel
theorem dX11_nextToken_404 : decode cX11_nextToken 404 = .ok (.aload_n 0, 1) := by decide +kernel
theorem dX11_nextToken_405 : decode cX11_nextToken 405 = .ok (.dup, 1) := by decide +kernel
theorem dX11_nextToken_406 : decode cX11_nextToken 406 = .ok (.getfield 179, 3) := by decide +kernel
theorem dX11_nextToken_409 : decode cX11_nextToken 409 = .ok (.iconst 1, 1) := by decide +kernel
theorem dX11_nextToken_410 : decode cX11_nextToken 410 = .ok (.iadd, 1) := by decide +kernel
theorem dX11_nextToken_411 : decode cX11_nextToken 411 = .ok (.putfield 179, 3) := by decide +kernel
theorem dX11_nextToken_414 : decode cX11_nextToken 414 = .ok (.return_, 1) := by decide +kernel
theorem dX11_fails_0 : decode cX11_fails 0 = .ok (.aload_n 0, 1) := by decide +kernel
theorem dX11_fails_1 : decode cX11_fails 1 = .ok (.aload_n 0, 1) := by decide +kernel
theorem dX11_fails_2 : decode cX11_fails 2 = .ok (.getfield 182, 3) := by decide +kernel
theorem dX11_fails_5 : decode cX11_fails 5 = .ok (.putfield 209, 3) := by decide +kernel
theorem dX11_fails_8 : decode cX11_fails 8 = .ok (.iconst 0, 1) := by decide +kernel
theorem dX11_fails_9 : decode cX11_fails 9 = .ok (.ireturn, 1) := by decide +kernel
theorem dX11_isNumber_0 : decode cX11_isNumber 0 = .ok (.aload_n 0, 1) := by decide +kernel
theorem dX11_isNumber_1 : decode cX11_isNumber 1 = .ok (.invokevirtual 212, 3) := by decide +kernel
theorem dX11_isNumber_4 : decode cX11_isNumber 4 = .ok (.aload_n 0, 1) := by decide +kernel
theorem dX11_isNumber_5 : decode cX11_isNumber 5 = .ok (.getfield 193, 3) := by decide +kernel
theorem dX11_isNumber_8 : decode cX11_isNumber 8 = .ok (.ldc2_w 203, 3) := by decide +kernel
theorem dX11_isNumber_11 : decode cX11_isNumber 11 = .ok (.lcmp, 1) := by decide +kernel
theorem dX11_isNumber_12 : decode cX11_isNumber 12 = .ok (.ifCond .ne 15, 3) := by decide +kernel
theorem dX11_isNumber_15 : decode cX11_isNumber 15 = .ok (.aload_n 0, 1) := by decide +kernel
theorem dX11_isNumber_16 : decode cX11_isNumber 16 = .ok (.getfield 188, 3) := by decide +kernel
theorem dX11_isNumber_19 : decode cX11_isNumber 19 = .ok (.iload_n 2, 1) := by decide +kernel
theorem dX11_isNumber_20 : decode cX11_isNumber 20 = .ok (.iload_n 3, 1) := by decide +kernel
theorem dX11_isNumber_21 : decode cX11_isNumber 21 = .ok (.invokestatic 120, 3) := by decide +kernel
theorem dX11_isNumber_24 : decode cX11_isNumber 24 = .ok (.ifCond .ne 8, 3) := by decide +kernel
theorem dX11_isNumber_27 : decode cX11_isNumber 27 = .ok (.aload_n 0, 1) := by decide +kernel
theorem dX11_isNumber_28 : decode cX11_isNumber 28 = .ok (.invokevirtual 215, 3) := by decide +kernel
theorem dX11_isNumber_31 : decode cX11_isNumber 31 = .ok (.ireturn, 1) := by decide +kernel
theorem dX11_isNumber_32 : decode cX11_isNumber 32 = .ok (.aload_n 0, 1) := by decide +kernel
theorem dX11_isNumber_33 : decode cX11_isNumber 33 = .ok (.getfield 47, 3) := by decide +kernel
theorem dX11_isNumber_36 : decode cX11_isNumber 36 = .ok (.iload_n 1, 1) := by decide +kernel
theorem dX11_isNumber_37 : decode cX11_isNumber 37 = .ok (.aload_n 0, 1) := by decide +kernel
theorem dX11_isNumber_38 : decode cX11_isNumber 38 = .ok (.getfield 188, 3) := by decide +kernel
theorem dX11_isNumber_41 : decode cX11_isNumber 41 = .ok (.iastore, 1) := by decide +kernel
theorem dX11_isNumber_42 : decode cX11_isNumber 42 = .ok (.iconst 1, 1) := by decide +kernel
theorem dX11_isNumber_43 : decode cX11_isNumber 43 = .ok (.ireturn, 1) := by decide +kernel
theorem dX11_isIs_0 : decode cX11_isIs 0 = .ok (.aload_n 0, 1) := by decide +kernel
theorem dX11_isIs_1 : decode cX11_isIs 1 = .ok (.invokevirtual 212, 3) := by decide +kernel
theorem dX11_isIs_4 : decode cX11_isIs 4 = .ok (.aload_n 0, 1) := by decide +kernel
theorem dX11_isIs_5 : decode cX11_isIs 5 = .ok (.getfield 193, 3) := by decide +kernel
theorem dX11_isIs_8 : decode cX11_isIs 8 = .ok (.ldc2_w 219, 3) := by decide +kernel
theorem dX11_isIs_11 : decode cX11_isIs 11 = .ok (.lcmp, 1) := by decide +kernel
theorem dX11_isIs_12 : decode cX11_isIs 12 = .ok (.ifCond .eq 10, 3) := by decide +kernel
theorem dX11_isIs_15 : decode cX11_isIs 15 = .ok (.aload_n 0, 1) := by decide +kernel
theorem dX11_isIs_16 : decode cX11_isIs 16 = .ok (.invokevirtual 215, 3) := by decide +kernel
theorem dX11_isIs_19 : decode cX11_isIs 19 = .ok (.ifCond .eq 7, 3) := by decide +kernel
theorem dX11_isIs_22 : decode cX11_isIs 22 = .ok (.iconst 1, 1) := by decide +kernel
theorem dX11_isIs_23 : decode cX11_isIs 23 = .ok (.goto 4, 3) := by decide +kernel
theorem dX11_isIs_26 : decode cX11_isIs 26 = .ok (.iconst 0, 1) := by decide +kernel
theorem dX11_isIs_27 : decode cX11_isIs 27 = .ok (.ireturn, 1) := by decide +kernel
theorem dX11_isRow_0 : decode cX11_isRow 0 = .ok (.aload_n 0, 1) := by decide +kernel
theorem dX11_isRow_1 : decode cX11_isRow 1 = .ok (.invokevirtual 212, 3) := by decide +kernel
theorem dX11_isRow_4 : decode cX11_isRow 4 = .ok (.aload_n 0, 1) := by decide +kernel
theorem dX11_isRow_5 : decode cX11_isRow 5 = .ok (.getfield 179, 3) := by decide +kernel
theorem dX11_isRow_8 : decode cX11_isRow 8 = .ok (.aload_n 0, 1) := by decide +kernel
theorem dX11_isRow_9 : decode cX11_isRow 9 = .ok (.getfield 182, 3) := by decide +kernel
theorem dX11_isRow_12 : decode cX11_isRow 12 = .ok (.isub, 1) := by decide +kernel
theorem dX11_isRow_13 : decode cX11_isRow 13 = .ok (.istore_n 2, 1) := by decide +kernel
theorem dX11_isRow_14 : decode cX11_isRow 14 = .ok (.aload_n 0, 1) := by decide +kernel
theorem dX11_isRow_15 : decode cX11_isRow 15 = .ok (.getfield 193, 3) := by decide +kernel
theorem dX11_isRow_18 : decode cX11_isRow 18 = .ok (.lconst 0, 1) := by decide +kernel
theorem dX11_isRow_19 : decode cX11_isRow 19 = .ok (.lcmp, 1) := by decide +kernel
theorem dX11_isRow_20 : decode cX11_isRow 20 = .ok (.ifCond .lt 9, 3) := by decide +kernel
theorem dX11_isRow_23 : decode cX11_isRow 23 = .ok (.iload_n 2, 1) := by decide +kernel
theorem dX11_isRow_24 : decode cX11_isRow 24 = .ok (.bipush 8, 2) := by decide +kernel
theorem dX11_isRow_26 : decode cX11_isRow 26 = .ok (.if_icmp .le 8, 3) := by decide +kernel
theorem dX11_isRow_29 : decode cX11_isRow 29 = .ok (.aload_n 0, 1) := by decide +kernel
theorem dX11_isRow_30 : decode cX11_isRow 30 = .ok (.invokevirtual 215, 3) := by decide +kernel
theorem dX11_isRow_33 : decode cX11_isRow 33 = .ok (.ireturn, 1) := by decide +kernel
theorem dX11_isRow_34 : decode cX11_isRow 34 = .ok (.iconst 0, 1) := by decide +kernel
theorem dX11_isRow_35 : decode cX11_isRow 35 = .ok (.istore_n 3, 1) := by decide +kernel
theorem dX11_isRow_36 : decode cX11_isRow 36 = .ok (.iload_n 3, 1) := by decide +kernel
theorem dX11_isRow_37 : decode cX11_isRow 37 = .ok (.iload_n 2, 1) := by decide +kernel
theorem dX11_isRow_38 : decode cX11_isRow 38 = .ok (.if_icmp .ge 54, 3) := by decide +kernel
theorem dX11_isRow_41 : decode cX11_isRow 41 = .ok (.aload_n 0, 1) := by decide +kernel
theorem dX11_isRow_42 : decode cX11_isRow 42 = .ok (.getfield 44, 3) := by decide +kernel
theorem dX11_isRow_45 : decode cX11_isRow 45 = .ok (.aload_n 0, 1) := by decide +kernel
theorem dX11_isRow_46 : decode cX11_isRow 46 = .ok (.getfield 182, 3) := by decide +kernel
theorem dX11_isRow_49 : decode cX11_isRow 49 = .ok (.iload_n 3, 1) := by decide +kernel
theorem dX11_isRow_50 : decode cX11_isRow 50 = .ok (.iadd, 1) := by decide +kernel
theorem dX11_isRow_51 : decode cX11_isRow 51 = .ok (.iaload, 1) := by decide +kernel
theorem dX11_isRow_52 : decode cX11_isRow 52 = .ok (.bipush 112, 2) := by decide +kernel
theorem dX11_isRow_54 : decode cX11_isRow 54 = .ok (.if_icmp .le 8, 3) := by decide +kernel
theorem dX11_isRow_57 : decode cX11_isRow 57 = .ok (.aload_n 0, 1) := by decide +kernel
theorem dX11_isRow_58 : decode cX11_isRow 58 = .ok (.invokevirtual 215, 3) := by decide +kernel
theorem dX11_isRow_61 : decode cX11_isRow 61 = .ok (.ireturn, 1) := by decide +kernel
theorem dX11_isRow_62 : decode cX11_isRow 62 = .ok (.aload_n 0, 1) := by decide +kernel
theorem dX11_isRow_63 : decode cX11_isRow 63 = .ok (.getfield 47, 3) := by decide +kernel
theorem dX11_isRow_66 : decode cX11_isRow 66 = .ok (.iload_n 1, 1) := by decide +kernel
theorem dX11_isRow_67 : decode cX11_isRow 67 = .ok (.iconst 3, 1) := by decide +kernel
theorem dX11_isRow_68 : decode cX11_isRow 68 = .ok (.iadd, 1) := by decide +kernel
theorem dX11_isRow_69 : decode cX11_isRow 69 = .ok (.iload_n 3, 1) := by decide +kernel
theorem dX11_isRow_70 : decode cX11_isRow 70 = .ok (.iadd, 1) := by decide +kernel
theorem dX11_isRow_71 : decode cX11_isRow 71 = .ok (.aload_n 0, 1) := by decide +kernel
theorem dX11_isRow_72 : decode cX11_isRow 72 = .ok (.getfield 44, 3) := by decide +kernel
theorem dX11_isRow_75 : decode cX11_isRow 75 = .ok (.aload_n 0, 1) := by decide +kernel
theorem dX11_isRow_76 : decode cX11_isRow 76 = .ok (.getfield 182, 3) := by decide +kernel
theorem dX11_isRow_79 : decode cX11_isRow 79 = .ok (.iload_n 3, 1) := by decide +kernel
theorem dX11_isRow_80 : decode cX11_isRow 80 = .ok (.iadd, 1) := by decide +kernel
theorem dX11_isRow_81 : decode cX11_isRow 81 = .ok (.iaload, 1) := by decide +kernel
theorem dX11_isRow_82 : decode cX11_isRow 82 = .ok (.bipush 97, 2) := by decide +kernel
theorem dX11_isRow_84 : decode cX11_isRow 84 = .ok (.isub, 1) := by decide +kernel
theorem dX11_isRow_85 : decode cX11_isRow 85 = .ok (.iastore, 1) := by decide +kernel
theorem dX11_isRow_86 : decode cX11_isRow 86 = .ok (.iinc 3 1, 3) := by decide +kernel
theorem dX11_isRow_89 : decode cX11_isRow 89 = .ok (.goto (-53), 3) := by decide +kernel
theorem dX11_isRow_92 : decode cX11_isRow 92 = .ok (.aload_n 0, 1) := by decide +kernel
theorem dX11_isRow_93 : decode cX11_isRow 93 = .ok (.getfield 47, 3) := by decide +kernel
theorem dX11_isRow_96 : decode cX11_isRow 96 = .ok (.iload_n 1, 1) := by decide +kernel
theorem dX11_isRow_97 : decode cX11_isRow 97 = .ok (.iconst 2, 1) := by decide +kernel
theorem dX11_isRow_98 : decode cX11_isRow 98 = .ok (.iadd, 1) := by decide +kernel
theorem dX11_isRow_99 : decode cX11_isRow 99 = .ok (.iload_n 2, 1) := by decide +kernel
theorem dX11_isRow_100 : decode cX11_isRow 100 = .ok (.iastore, 1) := by decide +kernel
theorem dX11_isRow_101 : decode cX11_isRow 101 = .ok (.aload_n 0, 1) := by decide +kernel
theorem dX11_isRow_102 : decode cX11_isRow 102 = .ok (.invokevirtual 212, 3) := by decide +kernel
theorem dX11_isRow_105 : decode cX11_isRow 105 = .ok (.iconst 1, 1) := by decide +kernel
theorem dX11_isRow_106 : decode cX11_isRow 106 = .ok (.ireturn, 1) := by decide +kernel
theorem dX11_areParts_0 : decode cX11_areParts 0 = .ok (.iconst 0, 1) := by decide +kernel
theorem dX11_areParts_1 : decode cX11_areParts 1 = .ok (.istore_n 2, 1) := by decide +kernel
theorem dX11_areParts_2 : decode cX11_areParts 2 = .ok (.aload_n 0, 1) := by decide +kernel
theorem dX11_areParts_3 : decode cX11_areParts 3 = .ok (.invokevirtual 212, 3) := by decide +kernel
theorem dX11_areParts_6 : decode cX11_areParts 6 = .ok (.aload_n 0, 1) := by decide +kernel
theorem dX11_areParts_7 : decode cX11_areParts 7 = .ok (.getfield 193, 3) := by decide +kernel
theorem dX11_areParts_10 : decode cX11_areParts 10 = .ok (.ldc2_w 203, 3) := by decide +kernel
theorem dX11_areParts_13 : decode cX11_areParts 13 = .ok (.lcmp, 1) := by decide +kernel
theorem dX11_areParts_14 : decode cX11_areParts 14 = .ok (.ifCond .eq 14, 3) := by decide +kernel
theorem dX11_areParts_17 : decode cX11_areParts 17 = .ok (.aload_n 0, 1) := by decide +kernel
theorem dX11_areParts_18 : decode cX11_areParts 18 = .ok (.getfield 193, 3) := by decide +kernel
theorem dX11_areParts_21 : decode cX11_areParts 21 = .ok (.ldc2_w 207, 3) := by decide +kernel
theorem dX11_areParts_24 : decode cX11_areParts 24 = .ok (.lcmp, 1) := by decide +kernel
theorem dX11_areParts_25 : decode cX11_areParts 25 = .ok (.ifCond .ne 74, 3) := by decide +kernel
theorem dX11_areParts_28 : decode cX11_areParts 28 = .ok (.iload_n 2, 1) := by decide +kernel
theorem dX11_areParts_29 : decode cX11_areParts 29 = .ok (.bipush 8, 2) := by decide +kernel
theorem dX11_areParts_31 : decode cX11_areParts 31 = .ok (.if_icmp .eq 23, 3) := by decide +kernel
theorem dX11_areParts_34 : decode cX11_areParts 34 = .ok (.aload_n 0, 1) := by decide +kernel
theorem dX11_areParts_35 : decode cX11_areParts 35 = .ok (.getfield 193, 3) := by decide +kernel
theorem dX11_areParts_38 : decode cX11_areParts 38 = .ok (.ldc2_w 203, 3) := by decide +kernel
theorem dX11_areParts_41 : decode cX11_areParts 41 = .ok (.lcmp, 1) := by decide +kernel
theorem dX11_areParts_42 : decode cX11_areParts 42 = .ok (.ifCond .ne 17, 3) := by decide +kernel
theorem dX11_areParts_45 : decode cX11_areParts 45 = .ok (.aload_n 0, 1) := by decide +kernel
theorem dX11_areParts_46 : decode cX11_areParts 46 = .ok (.getfield 188, 3) := by decide +kernel
theorem dX11_areParts_49 : decode cX11_areParts 49 = .ok (.bipush 31, 2) := by decide +kernel
theorem dX11_areParts_51 : decode cX11_areParts 51 = .ok (.if_icmp .le 8, 3) := by decide +kernel
theorem dX11_areParts_54 : decode cX11_areParts 54 = .ok (.aload_n 0, 1) := by decide +kernel
theorem dX11_areParts_55 : decode cX11_areParts 55 = .ok (.invokevirtual 215, 3) := by decide +kernel
theorem dX11_areParts_58 : decode cX11_areParts 58 = .ok (.ireturn, 1) := by decide +kernel
theorem dX11_areParts_59 : decode cX11_areParts 59 = .ok (.aload_n 0, 1) := by decide +kernel
theorem dX11_areParts_60 : decode cX11_areParts 60 = .ok (.getfield 47, 3) := by decide +kernel
theorem dX11_areParts_63 : decode cX11_areParts 63 = .ok (.iload_n 1, 1) := by decide +kernel
theorem dX11_areParts_64 : decode cX11_areParts 64 = .ok (.iconst 3, 1) := by decide +kernel
theorem dX11_areParts_65 : decode cX11_areParts 65 = .ok (.iadd, 1) := by decide +kernel
theorem dX11_areParts_66 : decode cX11_areParts 66 = .ok (.iload_n 2, 1) := by decide +kernel
theorem dX11_areParts_67 : decode cX11_areParts 67 = .ok (.iadd, 1) := by decide +kernel
theorem dX11_areParts_68 : decode cX11_areParts 68 = .ok (.aload_n 0, 1) := by decide +kernel
theorem dX11_areParts_69 : decode cX11_areParts 69 = .ok (.getfield 193, 3) := by decide +kernel
theorem dX11_areParts_72 : decode cX11_areParts 72 = .ok (.ldc2_w 203, 3) := by decide +kernel
theorem dX11_areParts_75 : decode cX11_areParts 75 = .ok (.lcmp, 1) := by decide +kernel
theorem dX11_areParts_76 : decode cX11_areParts 76 = .ok (.ifCond .ne 10, 3) := by decide +kernel
theorem dX11_areParts_79 : decode cX11_areParts 79 = .ok (.aload_n 0, 1) := by decide +kernel
theorem dX11_areParts_80 : decode cX11_areParts 80 = .ok (.getfield 188, 3) := by decide +kernel
theorem dX11_areParts_83 : decode cX11_areParts 83 = .ok (.goto 5, 3) := by decide +kernel
theorem dX11_areParts_86 : decode cX11_areParts 86 = .ok (.bipush 32, 2) := by decide +kernel
theorem dX11_areParts_88 : decode cX11_areParts 88 = .ok (.iastore, 1) := by decide +kernel
theorem dX11_areParts_89 : decode cX11_areParts 89 = .ok (.iinc 2 1, 3) := by decide +kernel
theorem dX11_areParts_92 : decode cX11_areParts 92 = .ok (.aload_n 0, 1) := by decide +kernel
theorem dX11_areParts_93 : decode cX11_areParts 93 = .ok (.invokevirtual 212, 3) := by decide +kernel
theorem dX11_areParts_96 : decode cX11_areParts 96 = .ok (.goto (-90), 3) := by decide +kernel
theorem dX11_areParts_99 : decode cX11_areParts 99 = .ok (.aload_n 0, 1) := by decide +kernel
theorem dX11_areParts_100 : decode cX11_areParts 100 = .ok (.getfield 47, 3) := by decide +kernel
theorem dX11_areParts_103 : decode cX11_areParts 103 = .ok (.iload_n 1, 1) := by decide +kernel
theorem dX11_areParts_104 : decode cX11_areParts 104 = .ok (.iconst 2, 1) := by decide +kernel
theorem dX11_areParts_105 : decode cX11_areParts 105 = .ok (.iadd, 1) := by decide +kernel
theorem dX11_areParts_106 : decode cX11_areParts 106 = .ok (.iload_n 2, 1) := by decide +kernel
theorem dX11_areParts_107 : decode cX11_areParts 107 = .ok (.iastore, 1) := by decide +kernel
theorem dX11_areParts_108 : decode cX11_areParts 108 = .ok (.iload_n 2, 1) := by decide +kernel
theorem dX11_areParts_109 : decode cX11_areParts 109 = .ok (.ifCond .gt 10, 3) := by decide +kernel
theorem dX11_areParts_112 : decode cX11_areParts 112 = .ok (.aload_n 0, 1) := by decide +kernel
theorem dX11_areParts_113 : decode cX11_areParts 113 = .ok (.invokevirtual 215, 3) := by decide +kernel
theorem dX11_areParts_116 : decode cX11_areParts 116 = .ok (.ifCond .eq 7, 3) := by decide +kernel
theorem dX11_areParts_119 : decode cX11_areParts 119 = .ok (.iconst 1, 1) := by decide +kernel
theorem dX11_areParts_120 : decode cX11_areParts 120 = .ok (.goto 4, 3) := by decide +kernel
theorem dX11_areParts_123 : decode cX11_areParts 123 = .ok (.iconst 0, 1) := by decide +kernel
theorem dX11_areParts_124 : decode cX11_areParts 124 = .ok (.ireturn, 1) := by decide +kernel
theorem dX11_areTwo_0 : decode cX11_areTwo 0 = .ok (.aload_n 0, 1) := by decide +kernel
theorem dX11_areTwo_1 : decode cX11_areTwo 1 = .ok (.iload_n 1, 1) := by decide +kernel
theorem dX11_areTwo_2 : decode cX11_areTwo 2 = .ok (.iconst 1, 1) := by decide +kernel
theorem dX11_areTwo_3 : decode cX11_areTwo 3 = .ok (.iadd, 1) := by decide +kernel
theorem dX11_areTwo_4 : decode cX11_areTwo 4 = .ok (.iconst 0, 1) := by decide +kernel
theorem dX11_areTwo_5 : decode cX11_areTwo 5 = .ok (.iconst 5, 1) := by decide +kernel
theorem dX11_areTwo_6 : decode cX11_areTwo 6 = .ok (.invokevirtual 221, 3) := by decide +kernel
theorem dX11_areTwo_9 : decode cX11_areTwo 9 = .ok (.ifCond .eq 15, 3) := by decide +kernel
theorem dX11_areTwo_12 : decode cX11_areTwo 12 = .ok (.aload_n 0, 1) := by decide +kernel
theorem dX11_areTwo_13 : decode cX11_areTwo 13 = .ok (.iload_n 1, 1) := by decide +kernel
theorem dX11_areTwo_14 : decode cX11_areTwo 14 = .ok (.iconst 2, 1) := by decide +kernel
theorem dX11_areTwo_15 : decode cX11_areTwo 15 = .ok (.iadd, 1) := by decide +kernel
theorem dX11_areTwo_16 : decode cX11_areTwo 16 = .ok (.iconst 0, 1) := by decide +kernel
theorem dX11_areTwo_17 : decode cX11_areTwo 17 = .ok (.iconst 5, 1) := by decide +kernel
theorem dX11_areTwo_18 : decode cX11_areTwo 18 = .ok (.invokevirtual 221, 3) := by decide +kernel
theorem dX11_areTwo_21 : decode cX11_areTwo 21 = .ok (.ifCond .ne 5, 3) := by decide +kernel
theorem dX11_areTwo_24 : decode cX11_areTwo 24 = .ok (.iconst 0, 1) := by decide +kernel
theorem dX11_areTwo_25 : decode cX11_areTwo 25 = .ok (.ireturn, 1) := by decide +kernel
theorem dX11_areTwo_26 : decode cX11_areTwo 26 = .ok (.aload_n 0, 1) := by decide +kernel
theorem dX11_areTwo_27 : decode cX11_areTwo 27 = .ok (.getfield 47, 3) := by decide +kernel
theorem dX11_areTwo_30 : decode cX11_areTwo 30 = .ok (.iload_n 1, 1) := by decide +kernel
theorem dX11_areTwo_31 : decode cX11_areTwo 31 = .ok (.iconst 1, 1) := by decide +kernel
theorem dX11_areTwo_32 : decode cX11_areTwo 32 = .ok (.iadd, 1) := by decide +kernel
theorem dX11_areTwo_33 : decode cX11_areTwo 33 = .ok (.iaload, 1) := by decide +kernel
theorem dX11_areTwo_34 : decode cX11_areTwo 34 = .ok (.aload_n 0, 1) := by decide +kernel
theorem dX11_areTwo_35 : decode cX11_areTwo 35 = .ok (.getfield 47, 3) := by decide +kernel
theorem dX11_areTwo_38 : decode cX11_areTwo 38 = .ok (.iload_n 1, 1) := by decide +kernel
theorem dX11_areTwo_39 : decode cX11_areTwo 39 = .ok (.iconst 2, 1) := by decide +kernel
theorem dX11_areTwo_40 : decode cX11_areTwo 40 = .ok (.iadd, 1) := by decide +kernel
theorem dX11_areTwo_41 : decode cX11_areTwo 41 = .ok (.iaload, 1) := by decide +kernel
theorem dX11_areTwo_42 : decode cX11_areTwo 42 = .ok (.if_icmp .ne 8, 3) := by decide +kernel
theorem dX11_areTwo_45 : decode cX11_areTwo 45 = .ok (.aload_n 0, 1) := by decide +kernel
theorem dX11_areTwo_46 : decode cX11_areTwo 46 = .ok (.invokevirtual 215, 3) := by decide +kernel
theorem dX11_areTwo_49 : decode cX11_areTwo 49 = .ok (.ireturn, 1) := by decide +kernel
theorem dX11_areTwo_50 : decode cX11_areTwo 50 = .ok (.aload_n 0, 1) := by decide +kernel
theorem dX11_areTwo_51 : decode cX11_areTwo 51 = .ok (.invokevirtual 212, 3) := by decide +kernel
theorem dX11_areTwo_54 : decode cX11_areTwo 54 = .ok (.iconst 1, 1) := by decide +kernel
theorem dX11_areTwo_55 : decode cX11_areTwo 55 = .ok (.ireturn, 1) := by decide +kernel
theorem dX11_isRowOfText_0 : decode cX11_isRowOfText 0 = .ok (.aload_n 0, 1) := by decide +kernel
theorem dX11_isRowOfText_1 : decode cX11_isRowOfText 1 = .ok (.invokevirtual 212, 3) := by decide +kernel
theorem dX11_isRowOfText_4 : decode cX11_isRowOfText 4 = .ok (.aload_n 0, 1) := by decide +kernel
theorem dX11_isRowOfText_5 : decode cX11_isRowOfText 5 = .ok (.getfield 47, 3) := by decide +kernel
theorem dX11_isRowOfText_8 : decode cX11_isRowOfText 8 = .ok (.iload_n 1, 1) := by decide +kernel
theorem dX11_isRowOfText_9 : decode cX11_isRowOfText 9 = .ok (.aload_n 0, 1) := by decide +kernel
theorem dX11_isRowOfText_10 : decode cX11_isRowOfText 10 = .ok (.getfield 193, 3) := by decide +kernel
theorem dX11_isRowOfText_13 : decode cX11_isRowOfText 13 = .ok (.ldc2_w 224, 3) := by decide +kernel
theorem dX11_isRowOfText_16 : decode cX11_isRowOfText 16 = .ok (.lcmp, 1) := by decide +kernel
theorem dX11_isRowOfText_17 : decode cX11_isRowOfText 17 = .ok (.ifCond .ne 7, 3) := by decide +kernel
theorem dX11_isRowOfText_20 : decode cX11_isRowOfText 20 = .ok (.iconst 0, 1) := by decide +kernel
theorem dX11_isRowOfText_21 : decode cX11_isRowOfText 21 = .ok (.goto 64, 3) := by decide +kernel
theorem dX11_isRowOfText_24 : decode cX11_isRowOfText 24 = .ok (.aload_n 0, 1) := by decide +kernel
theorem dX11_isRowOfText_25 : decode cX11_isRowOfText 25 = .ok (.getfield 193, 3) := by decide +kernel
theorem dX11_isRowOfText_28 : decode cX11_isRowOfText 28 = .ok (.ldc2_w 226, 3) := by decide +kernel
theorem dX11_isRowOfText_31 : decode cX11_isRowOfText 31 = .ok (.lcmp, 1) := by decide +kernel
theorem dX11_isRowOfText_32 : decode cX11_isRowOfText 32 = .ok (.ifCond .ne 7, 3) := by decide +kernel
theorem dX11_isRowOfText_35 : decode cX11_isRowOfText 35 = .ok (.iconst 1, 1) := by decide +kernel
theorem dX11_isRowOfText_36 : decode cX11_isRowOfText 36 = .ok (.goto 49, 3) := by decide +kernel
theorem dX11_isRowOfText_39 : decode cX11_isRowOfText 39 = .ok (.aload_n 0, 1) := by decide +kernel
theorem dX11_isRowOfText_40 : decode cX11_isRowOfText 40 = .ok (.getfield 193, 3) := by decide +kernel
theorem dX11_isRowOfText_43 : decode cX11_isRowOfText 43 = .ok (.ldc2_w 228, 3) := by decide +kernel
theorem dX11_isRowOfText_46 : decode cX11_isRowOfText 46 = .ok (.lcmp, 1) := by decide +kernel
theorem dX11_isRowOfText_47 : decode cX11_isRowOfText 47 = .ok (.ifCond .ne 7, 3) := by decide +kernel
theorem dX11_isRowOfText_50 : decode cX11_isRowOfText 50 = .ok (.iconst 2, 1) := by decide +kernel
theorem dX11_isRowOfText_51 : decode cX11_isRowOfText 51 = .ok (.goto 34, 3) := by decide +kernel
theorem dX11_isRowOfText_54 : decode cX11_isRowOfText 54 = .ok (.aload_n 0, 1) := by decide +kernel
theorem dX11_isRowOfText_55 : decode cX11_isRowOfText 55 = .ok (.getfield 193, 3) := by decide +kernel
theorem dX11_isRowOfText_58 : decode cX11_isRowOfText 58 = .ok (.ldc2_w 230, 3) := by decide +kernel
theorem dX11_isRowOfText_61 : decode cX11_isRowOfText 61 = .ok (.lcmp, 1) := by decide +kernel
theorem dX11_isRowOfText_62 : decode cX11_isRowOfText 62 = .ok (.ifCond .ne 7, 3) := by decide +kernel
theorem dX11_isRowOfText_65 : decode cX11_isRowOfText 65 = .ok (.iconst 3, 1) := by decide +kernel
theorem dX11_isRowOfText_66 : decode cX11_isRowOfText 66 = .ok (.goto 19, 3) := by decide +kernel
theorem dX11_isRowOfText_69 : decode cX11_isRowOfText 69 = .ok (.aload_n 0, 1) := by decide +kernel
theorem dX11_isRowOfText_70 : decode cX11_isRowOfText 70 = .ok (.getfield 193, 3) := by decide +kernel
theorem dX11_isRowOfText_73 : decode cX11_isRowOfText 73 = .ok (.ldc2_w 232, 3) := by decide +kernel
theorem dX11_isRowOfText_76 : decode cX11_isRowOfText 76 = .ok (.lcmp, 1) := by decide +kernel
theorem dX11_isRowOfText_77 : decode cX11_isRowOfText 77 = .ok (.ifCond .ne 7, 3) := by decide +kernel
theorem dX11_isRowOfText_80 : decode cX11_isRowOfText 80 = .ok (.iconst 4, 1) := by decide +kernel
theorem dX11_isRowOfText_81 : decode cX11_isRowOfText 81 = .ok (.goto 4, 3) := by decide +kernel
theorem dX11_isRowOfText_84 : decode cX11_isRowOfText 84 = .ok (.iconst (-1), 1) := by decide +kernel
theorem dX11_isRowOfText_85 : decode cX11_isRowOfText 85 = .ok (.iastore, 1) := by decide +kernel
theorem dX11_isRowOfText_86 : decode cX11_isRowOfText 86 = .ok (.aload_n 0, 1) := by decide +kernel
theorem dX11_isRowOfText_87 : decode cX11_isRowOfText 87 = .ok (.getfield 47, 3) := by decide +kernel
theorem dX11_isRowOfText_90 : decode cX11_isRowOfText 90 = .ok (.iload_n 1, 1) := by decide +kernel
theorem dX11_isRowOfText_91 : decode cX11_isRowOfText 91 = .ok (.iaload, 1) := by decide +kernel
theorem dX11_isRowOfText_92 : decode cX11_isRowOfText 92 = .ok (.tableswitch 131 0 4 #[36, 70, 104, 125, 125], 36) := by decide +kernel
theorem dX11_isRowOfText_128 : decode cX11_isRowOfText 128 = .ok (.aload_n 0, 1) := by decide +kernel
theorem dX11_isRowOfText_129 : decode cX11_isRowOfText 129 = .ok (.iload_n 1, 1) := by decide +kernel
theorem dX11_isRowOfText_130 : decode cX11_isRowOfText 130 = .ok (.iconst 1, 1) := by decide +kernel
theorem dX11_isRowOfText_131 : decode cX11_isRowOfText 131 = .ok (.iadd, 1) := by decide +kernel
theorem dX11_isRowOfText_132 : decode cX11_isRowOfText 132 = .ok (.iconst 0, 1) := by decide +kernel
theorem dX11_isRowOfText_133 : decode cX11_isRowOfText 133 = .ok (.bipush 31, 2) := by decide +kernel
theorem dX11_isRowOfText_135 : decode cX11_isRowOfText 135 = .ok (.invokevirtual 221, 3) := by decide +kernel
theorem dX11_isRowOfText_138 : decode cX11_isRowOfText 138 = .ok (.ifCond .eq 22, 3) := by decide +kernel
theorem dX11_isRowOfText_141 : decode cX11_isRowOfText 141 = .ok (.aload_n 0, 1) := by decide +kernel
theorem dX11_isRowOfText_142 : decode cX11_isRowOfText 142 = .ok (.invokevirtual 234, 3) := by decide +kernel
theorem dX11_isRowOfText_145 : decode cX11_isRowOfText 145 = .ok (.ifCond .eq 15, 3) := by decide +kernel
theorem dX11_isRowOfText_148 : decode cX11_isRowOfText 148 = .ok (.aload_n 0, 1) := by decide +kernel
theorem dX11_isRowOfText_149 : decode cX11_isRowOfText 149 = .ok (.iload_n 1, 1) := by decide +kernel
theorem dX11_isRowOfText_150 : decode cX11_isRowOfText 150 = .ok (.invokevirtual 237, 3) := by decide +kernel
theorem dX11_isRowOfText_153 : decode cX11_isRowOfText 153 = .ok (.ifCond .eq 7, 3) := by decide +kernel
theorem dX11_isRowOfText_156 : decode cX11_isRowOfText 156 = .ok (.iconst 1, 1) := by decide +kernel
theorem dX11_isRowOfText_157 : decode cX11_isRowOfText 157 = .ok (.goto 4, 3) := by decide +kernel
theorem dX11_isRowOfText_160 : decode cX11_isRowOfText 160 = .ok (.iconst 0, 1) := by decide +kernel
theorem dX11_isRowOfText_161 : decode cX11_isRowOfText 161 = .ok (.ireturn, 1) := by decide +kernel
theorem dX11_isRowOfText_162 : decode cX11_isRowOfText 162 = .ok (.aload_n 0, 1) := by decide +kernel
theorem dX11_isRowOfText_163 : decode cX11_isRowOfText 163 = .ok (.iload_n 1, 1) := by decide +kernel
theorem dX11_isRowOfText_164 : decode cX11_isRowOfText 164 = .ok (.iconst 1, 1) := by decide +kernel
theorem dX11_isRowOfText_165 : decode cX11_isRowOfText 165 = .ok (.iadd, 1) := by decide +kernel
theorem dX11_isRowOfText_166 : decode cX11_isRowOfText 166 = .ok (.iconst 0, 1) := by decide +kernel
theorem dX11_isRowOfText_167 : decode cX11_isRowOfText 167 = .ok (.bipush 7, 2) := by decide +kernel
theorem dX11_isRowOfText_169 : decode cX11_isRowOfText 169 = .ok (.invokevirtual 221, 3) := by decide +kernel
theorem dX11_isRowOfText_172 : decode cX11_isRowOfText 172 = .ok (.ifCond .eq 22, 3) := by decide +kernel
theorem dX11_isRowOfText_175 : decode cX11_isRowOfText 175 = .ok (.aload_n 0, 1) := by decide +kernel
theorem dX11_isRowOfText_176 : decode cX11_isRowOfText 176 = .ok (.invokevirtual 234, 3) := by decide +kernel
theorem dX11_isRowOfText_179 : decode cX11_isRowOfText 179 = .ok (.ifCond .eq 15, 3) := by decide +kernel
theorem dX11_isRowOfText_182 : decode cX11_isRowOfText 182 = .ok (.aload_n 0, 1) := by decide +kernel
theorem dX11_isRowOfText_183 : decode cX11_isRowOfText 183 = .ok (.iload_n 1, 1) := by decide +kernel
theorem dX11_isRowOfText_184 : decode cX11_isRowOfText 184 = .ok (.invokevirtual 240, 3) := by decide +kernel
theorem dX11_isRowOfText_187 : decode cX11_isRowOfText 187 = .ok (.ifCond .eq 7, 3) := by decide +kernel
theorem dX11_isRowOfText_190 : decode cX11_isRowOfText 190 = .ok (.iconst 1, 1) := by decide +kernel
theorem dX11_isRowOfText_191 : decode cX11_isRowOfText 191 = .ok (.goto 4, 3) := by decide +kernel
theorem dX11_isRowOfText_194 : decode cX11_isRowOfText 194 = .ok (.iconst 0, 1) := by decide +kernel
theorem dX11_isRowOfText_195 : decode cX11_isRowOfText 195 = .ok (.ireturn, 1) := by decide +kernel
theorem dX11_isRowOfText_196 : decode cX11_isRowOfText 196 = .ok (.aload_n 0, 1) := by decide +kernel
theorem dX11_isRowOfText_197 : decode cX11_isRowOfText 197 = .ok (.iload_n 1, 1) := by decide +kernel
theorem dX11_isRowOfText_198 : decode cX11_isRowOfText 198 = .ok (.iconst 1, 1) := by decide +kernel
theorem dX11_isRowOfText_199 : decode cX11_isRowOfText 199 = .ok (.iadd, 1) := by decide +kernel
theorem dX11_isRowOfText_200 : decode cX11_isRowOfText 200 = .ok (.iconst 0, 1) := by decide +kernel
theorem dX11_isRowOfText_201 : decode cX11_isRowOfText 201 = .ok (.bipush 99, 2) := by decide +kernel
theorem dX11_isRowOfText_203 : decode cX11_isRowOfText 203 = .ok (.invokevirtual 221, 3) := by decide +kernel
theorem dX11_isRowOfText_206 : decode cX11_isRowOfText 206 = .ok (.ifCond .ne 5, 3) := by decide +kernel
theorem dX11_isRowOfText_209 : decode cX11_isRowOfText 209 = .ok (.iconst 0, 1) := by decide +kernel
theorem dX11_isRowOfText_210 : decode cX11_isRowOfText 210 = .ok (.ireturn, 1) := by decide +kernel
theorem dX11_isRowOfText_211 : decode cX11_isRowOfText 211 = .ok (.aload_n 0, 1) := by decide +kernel
theorem dX11_isRowOfText_212 : decode cX11_isRowOfText 212 = .ok (.invokevirtual 212, 3) := by decide +kernel
theorem dX11_isRowOfText_215 : decode cX11_isRowOfText 215 = .ok (.iconst 1, 1) := by decide +kernel
theorem dX11_isRowOfText_216 : decode cX11_isRowOfText 216 = .ok (.ireturn, 1) := by decide +kernel
theorem dX11_isRowOfText_217 : decode cX11_isRowOfText 217 = .ok (.aload_n 0, 1) := by decide +kernel
theorem dX11_isRowOfText_218 : decode cX11_isRowOfText 218 = .ok (.iload_n 1, 1) := by decide +kernel
theorem dX11_isRowOfText_219 : decode cX11_isRowOfText 219 = .ok (.invokevirtual 243, 3) := by decide +kernel
theorem dX11_isRowOfText_222 : decode cX11_isRowOfText 222 = .ok (.ireturn, 1) := by decide +kernel
theorem dX11_isRowOfText_223 : decode cX11_isRowOfText 223 = .ok (.aload_n 0, 1) := by decide +kernel
theorem dX11_isRowOfText_224 : decode cX11_isRowOfText 224 = .ok (.invokevirtual 215, 3) := by decide +kernel
theorem dX11_isRowOfText_227 : decode cX11_isRowOfText 227 = .ok (.ireturn, 1) := by decide +kernel
theorem dX11_isRead_0 : decode cX11_isRead 0 = .ok (.aload_n 0, 1) := by decide +kernel
theorem dX11_isRead_1 : decode cX11_isRead 1 = .ok (.iconst 0, 1) := by decide +kernel
theorem dX11_isRead_2 : decode cX11_isRead 2 = .ok (.putfield 179, 3) := by decide +kernel
theorem dX11_isRead_5 : decode cX11_isRead 5 = .ok (.aload_n 0, 1) := by decide +kernel
theorem dX11_isRead_6 : decode cX11_isRead 6 = .ok (.iconst 0, 1) := by decide +kernel
theorem dX11_isRead_7 : decode cX11_isRead 7 = .ok (.putfield 246, 3) := by decide +kernel
theorem dX11_isRead_10 : decode cX11_isRead 10 = .ok (.iconst 1, 1) := by decide +kernel
theorem dX11_isRead_11 : decode cX11_isRead 11 = .ok (.istore_n 1, 1) := by decide +kernel
theorem dX11_isRead_12 : decode cX11_isRead 12 = .ok (.iload_n 1, 1) := by decide +kernel
theorem dX11_isRead_13 : decode cX11_isRead 13 = .ok (.ifCond .eq 58, 3) := by decide +kernel
theorem dX11_isRead_16 : decode cX11_isRead 16 = .ok (.aload_n 0, 1) := by decide +kernel
theorem dX11_isRead_17 : decode cX11_isRead 17 = .ok (.bipush 11, 2) := by decide +kernel
theorem dX11_isRead_19 : decode cX11_isRead 19 = .ok (.aload_n 0, 1) := by decide +kernel
theorem dX11_isRead_20 : decode cX11_isRead 20 = .ok (.getfield 246, 3) := by decide +kernel
theorem dX11_isRead_23 : decode cX11_isRead 23 = .ok (.imul, 1) := by decide +kernel
theorem dX11_isRead_24 : decode cX11_isRead 24 = .ok (.invokevirtual 249, 3) := by decide +kernel
theorem dX11_isRead_27 : decode cX11_isRead 27 = .ok (.ifCond .ne 5, 3) := by decide +kernel
theorem dX11_isRead_30 : decode cX11_isRead 30 = .ok (.iconst 0, 1) := by decide +kernel
theorem dX11_isRead_31 : decode cX11_isRead 31 = .ok (.ireturn, 1) := by decide +kernel
theorem dX11_isRead_32 : decode cX11_isRead 32 = .ok (.aload_n 0, 1) := by decide +kernel
theorem dX11_isRead_33 : decode cX11_isRead 33 = .ok (.dup, 1) := by decide +kernel
theorem dX11_isRead_34 : decode cX11_isRead 34 = .ok (.getfield 246, 3) := by decide +kernel
theorem dX11_isRead_37 : decode cX11_isRead 37 = .ok (.iconst 1, 1) := by decide +kernel
theorem dX11_isRead_38 : decode cX11_isRead 38 = .ok (.iadd, 1) := by decide +kernel
theorem dX11_isRead_39 : decode cX11_isRead 39 = .ok (.putfield 246, 3) := by decide +kernel
theorem dX11_isRead_42 : decode cX11_isRead 42 = .ok (.aload_n 0, 1) := by decide +kernel
theorem dX11_isRead_43 : decode cX11_isRead 43 = .ok (.getfield 193, 3) := by decide +kernel
theorem dX11_isRead_46 : decode cX11_isRead 46 = .ok (.ldc2_w 205, 3) := by decide +kernel
theorem dX11_isRead_49 : decode cX11_isRead 49 = .ok (.lcmp, 1) := by decide +kernel
theorem dX11_isRead_50 : decode cX11_isRead 50 = .ok (.ifCond .ne 16, 3) := by decide +kernel
theorem dX11_isRead_53 : decode cX11_isRead 53 = .ok (.aload_n 0, 1) := by decide +kernel
theorem dX11_isRead_54 : decode cX11_isRead 54 = .ok (.getfield 246, 3) := by decide +kernel
theorem dX11_isRead_57 : decode cX11_isRead 57 = .ok (.bipush 10, 2) := by decide +kernel
theorem dX11_isRead_59 : decode cX11_isRead 59 = .ok (.if_icmp .ge 7, 3) := by decide +kernel
theorem dX11_isRead_62 : decode cX11_isRead 62 = .ok (.iconst 1, 1) := by decide +kernel
theorem dX11_isRead_63 : decode cX11_isRead 63 = .ok (.goto 4, 3) := by decide +kernel
theorem dX11_isRead_66 : decode cX11_isRead 66 = .ok (.iconst 0, 1) := by decide +kernel
theorem dX11_isRead_67 : decode cX11_isRead 67 = .ok (.istore_n 1, 1) := by decide +kernel
theorem dX11_isRead_68 : decode cX11_isRead 68 = .ok (.goto (-56), 3) := by decide +kernel
theorem dX11_isRead_71 : decode cX11_isRead 71 = .ok (.aload_n 0, 1) := by decide +kernel
theorem dX11_isRead_72 : decode cX11_isRead 72 = .ok (.getfield 193, 3) := by decide +kernel
theorem dX11_isRead_75 : decode cX11_isRead 75 = .ok (.ldc2_w 191, 3) := by decide +kernel
theorem dX11_isRead_78 : decode cX11_isRead 78 = .ok (.lcmp, 1) := by decide +kernel
theorem dX11_isRead_79 : decode cX11_isRead 79 = .ok (.ifCond .eq 10, 3) := by decide +kernel
theorem dX11_isRead_82 : decode cX11_isRead 82 = .ok (.aload_n 0, 1) := by decide +kernel
theorem dX11_isRead_83 : decode cX11_isRead 83 = .ok (.invokevirtual 215, 3) := by decide +kernel
theorem dX11_isRead_86 : decode cX11_isRead 86 = .ok (.ifCond .eq 7, 3) := by decide +kernel
theorem dX11_isRead_89 : decode cX11_isRead 89 = .ok (.iconst 1, 1) := by decide +kernel
theorem dX11_isRead_90 : decode cX11_isRead 90 = .ok (.goto 4, 3) := by decide +kernel
theorem dX11_isRead_93 : decode cX11_isRead 93 = .ok (.iconst 0, 1) := by decide +kernel
theorem dX11_isRead_94 : decode cX11_isRead 94 = .ok (.ireturn, 1) := by decide +kernel
theorem dX11_fault_0 : decode cX11_fault 0 = .ok (.aload_n 0, 1) := by decide +kernel
theorem dX11_fault_1 : decode cX11_fault 1 = .ok (.invokevirtual 252, 3) := by decide +kernel
theorem dX11_fault_4 : decode cX11_fault 4 = .ok (.ifCond .eq 7, 3) := by decide +kernel
theorem dX11_fault_7 : decode cX11_fault 7 = .ok (.iconst (-1), 1) := by decide +kernel
theorem dX11_fault_8 : decode cX11_fault 8 = .ok (.goto 7, 3) := by decide +kernel
theorem dX11_fault_11 : decode cX11_fault 11 = .ok (.aload_n 0, 1) := by decide +kernel
theorem dX11_fault_12 : decode cX11_fault 12 = .ok (.getfield 209, 3) := by decide +kernel
theorem dX11_fault_15 : decode cX11_fault 15 = .ok (.ireturn, 1) := by decide +kernel
theorem dX11_doRow_0 : decode cX11_doRow 0 = .ok (.aload_n 0, 1) := by decide +kernel
theorem dX11_doRow_1 : decode cX11_doRow 1 = .ok (.getfield 47, 3) := by decide +kernel
theorem dX11_doRow_4 : decode cX11_doRow 4 = .ok (.iload_n 1, 1) := by decide +kernel
theorem dX11_doRow_5 : decode cX11_doRow 5 = .ok (.iconst 1, 1) := by decide +kernel
theorem dX11_doRow_6 : decode cX11_doRow 6 = .ok (.iadd, 1) := by decide +kernel
theorem dX11_doRow_7 : decode cX11_doRow 7 = .ok (.iaload, 1) := by decide +kernel
theorem dX11_doRow_8 : decode cX11_doRow 8 = .ok (.istore_n 2, 1) := by decide +kernel
theorem dX11_doRow_9 : decode cX11_doRow 9 = .ok (.aload_n 0, 1) := by decide +kernel
theorem dX11_doRow_10 : decode cX11_doRow 10 = .ok (.getfield 47, 3) := by decide +kernel
theorem dX11_doRow_13 : decode cX11_doRow 13 = .ok (.iload_n 1, 1) := by decide +kernel
theorem dX11_doRow_14 : decode cX11_doRow 14 = .ok (.iconst 2, 1) := by decide +kernel
theorem dX11_doRow_15 : decode cX11_doRow 15 = .ok (.iadd, 1) := by decide +kernel
theorem dX11_doRow_16 : decode cX11_doRow 16 = .ok (.iaload, 1) := by decide +kernel
theorem dX11_doRow_17 : decode cX11_doRow 17 = .ok (.istore_n 3, 1) := by decide +kernel
theorem dX11_doRow_18 : decode cX11_doRow 18 = .ok (.aload_n 0, 1) := by decide +kernel
theorem dX11_doRow_19 : decode cX11_doRow 19 = .ok (.getfield 47, 3) := by decide +kernel
theorem dX11_doRow_22 : decode cX11_doRow 22 = .ok (.iload_n 1, 1) := by decide +kernel
theorem dX11_doRow_23 : decode cX11_doRow 23 = .ok (.iaload, 1) := by decide +kernel
theorem dX11_doRow_24 : decode cX11_doRow 24 = .ok (.tableswitch 171 0 3 #[32, 80, 128, 136], 32) := by decide +kernel
theorem dX11_doRow_56 : decode cX11_doRow 56 = .ok (.aload_n 0, 1) := by decide +kernel
theorem dX11_doRow_57 : decode cX11_doRow 57 = .ok (.getfield 50, 3) := by decide +kernel
theorem dX11_doRow_60 : decode cX11_doRow 60 = .ok (.iload_n 2, 1) := by decide +kernel
theorem dX11_doRow_61 : decode cX11_doRow 61 = .ok (.iload_n 3, 1) := by decide +kernel
theorem dX11_doRow_62 : decode cX11_doRow 62 = .ok (.iastore, 1) := by decide +kernel
theorem dX11_doRow_63 : decode cX11_doRow 63 = .ok (.iconst 0, 1) := by decide +kernel
theorem dX11_doRow_64 : decode cX11_doRow 64 = .ok (.istore 4, 2) := by decide +kernel
theorem dX11_doRow_66 : decode cX11_doRow 66 = .ok (.iload 4, 2) := by decide +kernel
theorem dX11_doRow_68 : decode cX11_doRow 68 = .ok (.iload_n 3, 1) := by decide +kernel
theorem dX11_doRow_69 : decode cX11_doRow 69 = .ok (.if_icmp .ge 32, 3) := by decide +kernel
theorem dX11_doRow_72 : decode cX11_doRow 72 = .ok (.aload_n 0, 1) := by decide +kernel
theorem dX11_doRow_73 : decode cX11_doRow 73 = .ok (.getfield 53, 3) := by decide +kernel
theorem dX11_doRow_76 : decode cX11_doRow 76 = .ok (.bipush 8, 2) := by decide +kernel
theorem dX11_doRow_78 : decode cX11_doRow 78 = .ok (.iload_n 2, 1) := by decide +kernel
theorem dX11_doRow_79 : decode cX11_doRow 79 = .ok (.imul, 1) := by decide +kernel
theorem dX11_doRow_80 : decode cX11_doRow 80 = .ok (.iload 4, 2) := by decide +kernel
theorem dX11_doRow_82 : decode cX11_doRow 82 = .ok (.iadd, 1) := by decide +kernel
theorem dX11_doRow_83 : decode cX11_doRow 83 = .ok (.aload_n 0, 1) := by decide +kernel
theorem dX11_doRow_84 : decode cX11_doRow 84 = .ok (.getfield 47, 3) := by decide +kernel
theorem dX11_doRow_87 : decode cX11_doRow 87 = .ok (.iload_n 1, 1) := by decide +kernel
theorem dX11_doRow_88 : decode cX11_doRow 88 = .ok (.iconst 3, 1) := by decide +kernel
theorem dX11_doRow_89 : decode cX11_doRow 89 = .ok (.iadd, 1) := by decide +kernel
theorem dX11_doRow_90 : decode cX11_doRow 90 = .ok (.iload 4, 2) := by decide +kernel
theorem dX11_doRow_92 : decode cX11_doRow 92 = .ok (.iadd, 1) := by decide +kernel
theorem dX11_doRow_93 : decode cX11_doRow 93 = .ok (.iaload, 1) := by decide +kernel
theorem dX11_doRow_94 : decode cX11_doRow 94 = .ok (.iastore, 1) := by decide +kernel
theorem dX11_doRow_95 : decode cX11_doRow 95 = .ok (.iinc 4 1, 3) := by decide +kernel
theorem dX11_doRow_98 : decode cX11_doRow 98 = .ok (.goto (-32), 3) := by decide +kernel
theorem dX11_doRow_101 : decode cX11_doRow 101 = .ok (.goto 130, 3) := by decide +kernel
theorem dX11_doRow_104 : decode cX11_doRow 104 = .ok (.aload_n 0, 1) := by decide +kernel
theorem dX11_doRow_105 : decode cX11_doRow 105 = .ok (.getfield 56, 3) := by decide +kernel
theorem dX11_doRow_108 : decode cX11_doRow 108 = .ok (.iload_n 2, 1) := by decide +kernel
theorem dX11_doRow_109 : decode cX11_doRow 109 = .ok (.iload_n 3, 1) := by decide +kernel
theorem dX11_doRow_110 : decode cX11_doRow 110 = .ok (.iastore, 1) := by decide +kernel
theorem dX11_doRow_111 : decode cX11_doRow 111 = .ok (.iconst 0, 1) := by decide +kernel
theorem dX11_doRow_112 : decode cX11_doRow 112 = .ok (.istore 4, 2) := by decide +kernel
theorem dX11_doRow_114 : decode cX11_doRow 114 = .ok (.iload 4, 2) := by decide +kernel
theorem dX11_doRow_116 : decode cX11_doRow 116 = .ok (.iload_n 3, 1) := by decide +kernel
theorem dX11_doRow_117 : decode cX11_doRow 117 = .ok (.if_icmp .ge 32, 3) := by decide +kernel
theorem dX11_doRow_120 : decode cX11_doRow 120 = .ok (.aload_n 0, 1) := by decide +kernel
theorem dX11_doRow_121 : decode cX11_doRow 121 = .ok (.getfield 59, 3) := by decide +kernel
theorem dX11_doRow_124 : decode cX11_doRow 124 = .ok (.bipush 8, 2) := by decide +kernel
theorem dX11_doRow_126 : decode cX11_doRow 126 = .ok (.iload_n 2, 1) := by decide +kernel
theorem dX11_doRow_127 : decode cX11_doRow 127 = .ok (.imul, 1) := by decide +kernel
theorem dX11_doRow_128 : decode cX11_doRow 128 = .ok (.iload 4, 2) := by decide +kernel
theorem dX11_doRow_130 : decode cX11_doRow 130 = .ok (.iadd, 1) := by decide +kernel
theorem dX11_doRow_131 : decode cX11_doRow 131 = .ok (.aload_n 0, 1) := by decide +kernel
theorem dX11_doRow_132 : decode cX11_doRow 132 = .ok (.getfield 47, 3) := by decide +kernel
theorem dX11_doRow_135 : decode cX11_doRow 135 = .ok (.iload_n 1, 1) := by decide +kernel
theorem dX11_doRow_136 : decode cX11_doRow 136 = .ok (.iconst 3, 1) := by decide +kernel
theorem dX11_doRow_137 : decode cX11_doRow 137 = .ok (.iadd, 1) := by decide +kernel
theorem dX11_doRow_138 : decode cX11_doRow 138 = .ok (.iload 4, 2) := by decide +kernel
theorem dX11_doRow_140 : decode cX11_doRow 140 = .ok (.iadd, 1) := by decide +kernel
theorem dX11_doRow_141 : decode cX11_doRow 141 = .ok (.iaload, 1) := by decide +kernel
theorem dX11_doRow_142 : decode cX11_doRow 142 = .ok (.iastore, 1) := by decide +kernel
theorem dX11_doRow_143 : decode cX11_doRow 143 = .ok (.iinc 4 1, 3) := by decide +kernel
theorem dX11_doRow_146 : decode cX11_doRow 146 = .ok (.goto (-32), 3) := by decide +kernel
theorem dX11_doRow_149 : decode cX11_doRow 149 = .ok (.goto 82, 3) := by decide +kernel
theorem dX11_doRow_152 : decode cX11_doRow 152 = .ok (.aload_n 0, 1) := by decide +kernel
theorem dX11_doRow_153 : decode cX11_doRow 153 = .ok (.iload_n 2, 1) := by decide +kernel
theorem dX11_doRow_154 : decode cX11_doRow 154 = .ok (.putfield 28, 3) := by decide +kernel
theorem dX11_doRow_157 : decode cX11_doRow 157 = .ok (.goto 74, 3) := by decide +kernel
theorem dX11_doRow_160 : decode cX11_doRow 160 = .ok (.aload_n 0, 1) := by decide +kernel
theorem dX11_doRow_161 : decode cX11_doRow 161 = .ok (.getfield 65, 3) := by decide +kernel
theorem dX11_doRow_164 : decode cX11_doRow 164 = .ok (.iload_n 2, 1) := by decide +kernel
theorem dX11_doRow_165 : decode cX11_doRow 165 = .ok (.aload_n 0, 1) := by decide +kernel
theorem dX11_doRow_166 : decode cX11_doRow 166 = .ok (.getfield 65, 3) := by decide +kernel
theorem dX11_doRow_169 : decode cX11_doRow 169 = .ok (.iload_n 2, 1) := by decide +kernel
theorem dX11_doRow_170 : decode cX11_doRow 170 = .ok (.iaload, 1) := by decide +kernel
theorem dX11_doRow_171 : decode cX11_doRow 171 = .ok (.iconst 1, 1) := by decide +kernel
theorem dX11_doRow_172 : decode cX11_doRow 172 = .ok (.iload_n 3, 1) := by decide +kernel
theorem dX11_doRow_173 : decode cX11_doRow 173 = .ok (.ishl, 1) := by decide +kernel
theorem dX11_doRow_174 : decode cX11_doRow 174 = .ok (.ior, 1) := by decide +kernel
theorem dX11_doRow_175 : decode cX11_doRow 175 = .ok (.iastore, 1) := by decide +kernel
theorem dX11_doRow_176 : decode cX11_doRow 176 = .ok (.aload_n 0, 1) := by decide +kernel
theorem dX11_doRow_177 : decode cX11_doRow 177 = .ok (.getfield 65, 3) := by decide +kernel
theorem dX11_doRow_180 : decode cX11_doRow 180 = .ok (.iload_n 3, 1) := by decide +kernel
theorem dX11_doRow_181 : decode cX11_doRow 181 = .ok (.aload_n 0, 1) := by decide +kernel
theorem dX11_doRow_182 : decode cX11_doRow 182 = .ok (.getfield 65, 3) := by decide +kernel
theorem dX11_doRow_185 : decode cX11_doRow 185 = .ok (.iload_n 3, 1) := by decide +kernel
theorem dX11_doRow_186 : decode cX11_doRow 186 = .ok (.iaload, 1) := by decide +kernel
theorem dX11_doRow_187 : decode cX11_doRow 187 = .ok (.iconst 1, 1) := by decide +kernel
theorem dX11_doRow_188 : decode cX11_doRow 188 = .ok (.iload_n 2, 1) := by decide +kernel
theorem dX11_doRow_189 : decode cX11_doRow 189 = .ok (.ishl, 1) := by decide +kernel
theorem dX11_doRow_190 : decode cX11_doRow 190 = .ok (.ior, 1) := by decide +kernel
theorem dX11_doRow_191 : decode cX11_doRow 191 = .ok (.iastore, 1) := by decide +kernel
theorem dX11_doRow_192 : decode cX11_doRow 192 = .ok (.goto 39, 3) := by decide +kernel
theorem dX11_doRow_195 : decode cX11_doRow 195 = .ok (.aload_n 0, 1) := by decide +kernel
theorem dX11_doRow_196 : decode cX11_doRow 196 = .ok (.getfield 65, 3) := by decide +kernel
theorem dX11_doRow_199 : decode cX11_doRow 199 = .ok (.iload_n 2, 1) := by decide +kernel
theorem dX11_doRow_200 : decode cX11_doRow 200 = .ok (.aload_n 0, 1) := by decide +kernel
theorem dX11_doRow_201 : decode cX11_doRow 201 = .ok (.getfield 65, 3) := by decide +kernel
theorem dX11_doRow_204 : decode cX11_doRow 204 = .ok (.iload_n 2, 1) := by decide +kernel
theorem dX11_doRow_205 : decode cX11_doRow 205 = .ok (.iaload, 1) := by decide +kernel
theorem dX11_doRow_206 : decode cX11_doRow 206 = .ok (.iconst 1, 1) := by decide +kernel
theorem dX11_doRow_207 : decode cX11_doRow 207 = .ok (.iload_n 3, 1) := by decide +kernel
theorem dX11_doRow_208 : decode cX11_doRow 208 = .ok (.ishl, 1) := by decide +kernel
theorem dX11_doRow_209 : decode cX11_doRow 209 = .ok (.iconst (-1), 1) := by decide +kernel
theorem dX11_doRow_210 : decode cX11_doRow 210 = .ok (.ixor, 1) := by decide +kernel
theorem dX11_doRow_211 : decode cX11_doRow 211 = .ok (.iand, 1) := by decide +kernel
theorem dX11_doRow_212 : decode cX11_doRow 212 = .ok (.iastore, 1) := by decide +kernel
theorem dX11_doRow_213 : decode cX11_doRow 213 = .ok (.aload_n 0, 1) := by decide +kernel
theorem dX11_doRow_214 : decode cX11_doRow 214 = .ok (.getfield 65, 3) := by decide +kernel
theorem dX11_doRow_217 : decode cX11_doRow 217 = .ok (.iload_n 3, 1) := by decide +kernel
theorem dX11_doRow_218 : decode cX11_doRow 218 = .ok (.aload_n 0, 1) := by decide +kernel
theorem dX11_doRow_219 : decode cX11_doRow 219 = .ok (.getfield 65, 3) := by decide +kernel
theorem dX11_doRow_222 : decode cX11_doRow 222 = .ok (.iload_n 3, 1) := by decide +kernel
theorem dX11_doRow_223 : decode cX11_doRow 223 = .ok (.iaload, 1) := by decide +kernel
theorem dX11_doRow_224 : decode cX11_doRow 224 = .ok (.iconst 1, 1) := by decide +kernel
theorem dX11_doRow_225 : decode cX11_doRow 225 = .ok (.iload_n 2, 1) := by decide +kernel
theorem dX11_doRow_226 : decode cX11_doRow 226 = .ok (.ishl, 1) := by decide +kernel
theorem dX11_doRow_227 : decode cX11_doRow 227 = .ok (.iconst (-1), 1) := by decide +kernel
theorem dX11_doRow_228 : decode cX11_doRow 228 = .ok (.ixor, 1) := by decide +kernel
theorem dX11_doRow_229 : decode cX11_doRow 229 = .ok (.iand, 1) := by decide +kernel
theorem dX11_doRow_230 : decode cX11_doRow 230 = .ok (.iastore, 1) := by decide +kernel
theorem dX11_doRow_231 : decode cX11_doRow 231 = .ok (.return_, 1) := by decide +kernel
theorem dX11_told_0 : decode cX11_told 0 = .ok (.aload_n 0, 1) := by decide +kernel
theorem dX11_told_1 : decode cX11_told 1 = .ok (.invokevirtual 252, 3) := by decide +kernel
theorem dX11_told_4 : decode cX11_told 4 = .ok (.ifCond .ne 6, 3) := by decide +kernel
theorem dX11_told_7 : decode cX11_told 7 = .ok (.bipush (-4), 2) := by decide +kernel
theorem dX11_told_9 : decode cX11_told 9 = .ok (.ireturn, 1) := by decide +kernel
theorem dX11_told_10 : decode cX11_told 10 = .ok (.iconst 0, 1) := by decide +kernel
theorem dX11_told_11 : decode cX11_told 11 = .ok (.istore_n 1, 1) := by decide +kernel
theorem dX11_told_12 : decode cX11_told 12 = .ok (.iload_n 1, 1) := by decide +kernel
theorem dX11_told_13 : decode cX11_told 13 = .ok (.aload_n 0, 1) := by decide +kernel
theorem dX11_told_14 : decode cX11_told 14 = .ok (.getfield 246, 3) := by decide +kernel
theorem dX11_told_17 : decode cX11_told 17 = .ok (.if_icmp .ge 17, 3) := by decide +kernel
theorem dX11_told_20 : decode cX11_told 20 = .ok (.aload_n 0, 1) := by decide +kernel
theorem dX11_told_21 : decode cX11_told 21 = .ok (.bipush 11, 2) := by decide +kernel
theorem dX11_told_23 : decode cX11_told 23 = .ok (.iload_n 1, 1) := by decide +kernel
theorem dX11_told_24 : decode cX11_told 24 = .ok (.imul, 1) := by decide +kernel
theorem dX11_told_25 : decode cX11_told 25 = .ok (.invokevirtual 255, 3) := by decide +kernel
theorem dX11_told_28 : decode cX11_told 28 = .ok (.iinc 1 1, 3) := by decide +kernel
theorem dX11_told_31 : decode cX11_told 31 = .ok (.goto (-19), 3) := by decide +kernel
theorem dX11_told_34 : decode cX11_told 34 = .ok (.aload_n 0, 1) := by decide +kernel
theorem dX11_told_35 : decode cX11_told 35 = .ok (.iconst 0, 1) := by decide +kernel
theorem dX11_told_36 : decode cX11_told 36 = .ok (.putfield 174, 3) := by decide +kernel
theorem dX11_told_39 : decode cX11_told 39 = .ok (.aload_n 0, 1) := by decide +kernel
theorem dX11_told_40 : decode cX11_told 40 = .ok (.getfield 246, 3) := by decide +kernel
theorem dX11_told_43 : decode cX11_told 43 = .ok (.ireturn, 1) := by decide +kernel
theorem dX11_word_0 : decode cX11_word 0 = .ok (.iload_n 1, 1) := by decide +kernel
theorem dX11_word_1 : decode cX11_word 1 = .ok (.iconst 0, 1) := by decide +kernel
theorem dX11_word_2 : decode cX11_word 2 = .ok (.bipush 31, 2) := by decide +kernel
theorem dX11_word_4 : decode cX11_word 4 = .ok (.invokestatic 120, 3) := by decide +kernel
theorem dX11_word_7 : decode cX11_word 7 = .ok (.ifCond .ne 6, 3) := by decide +kernel
theorem dX11_word_10 : decode cX11_word 10 = .ok (.bipush (-2), 2) := by decide +kernel
theorem dX11_word_12 : decode cX11_word 12 = .ok (.ireturn, 1) := by decide +kernel
theorem dX11_word_13 : decode cX11_word 13 = .ok (.iload_n 2, 1) := by decide +kernel
theorem dX11_word_14 : decode cX11_word 14 = .ok (.iconst (-1), 1) := by decide +kernel
theorem dX11_word_15 : decode cX11_word 15 = .ok (.if_icmp .ge 6, 3) := by decide +kernel
theorem dX11_word_18 : decode cX11_word 18 = .ok (.bipush (-3), 2) := by decide +kernel
theorem dX11_word_20 : decode cX11_word 20 = .ok (.ireturn, 1) := by decide +kernel
theorem dX11_word_21 : decode cX11_word 21 = .ok (.iload_n 2, 1) := by decide +kernel
theorem dX11_word_22 : decode cX11_word 22 = .ok (.iconst (-1), 1) := by decide +kernel
theorem dX11_word_23 : decode cX11_word 23 = .ok (.if_icmp .ne 12, 3) := by decide +kernel
theorem dX11_word_26 : decode cX11_word 26 = .ok (.aload_n 0, 1) := by decide +kernel
theorem dX11_word_27 : decode cX11_word 27 = .ok (.getfield 50, 3) := by decide +kernel
theorem dX11_word_30 : decode cX11_word 30 = .ok (.iload_n 1, 1) := by decide +kernel
theorem dX11_word_31 : decode cX11_word 31 = .ok (.iaload, 1) := by decide +kernel
theorem dX11_word_32 : decode cX11_word 32 = .ok (.goto 28, 3) := by decide +kernel
theorem dX11_word_35 : decode cX11_word 35 = .ok (.iload_n 2, 1) := by decide +kernel
theorem dX11_word_36 : decode cX11_word 36 = .ok (.aload_n 0, 1) := by decide +kernel
theorem dX11_word_37 : decode cX11_word 37 = .ok (.getfield 50, 3) := by decide +kernel
theorem dX11_word_40 : decode cX11_word 40 = .ok (.iload_n 1, 1) := by decide +kernel
theorem dX11_word_41 : decode cX11_word 41 = .ok (.iaload, 1) := by decide +kernel
theorem dX11_word_42 : decode cX11_word 42 = .ok (.if_icmp .ge 17, 3) := by decide +kernel
theorem dX11_word_45 : decode cX11_word 45 = .ok (.aload_n 0, 1) := by decide +kernel
theorem dX11_word_46 : decode cX11_word 46 = .ok (.getfield 53, 3) := by decide +kernel
theorem dX11_word_49 : decode cX11_word 49 = .ok (.bipush 8, 2) := by decide +kernel
theorem dX11_word_51 : decode cX11_word 51 = .ok (.iload_n 1, 1) := by decide +kernel
theorem dX11_word_52 : decode cX11_word 52 = .ok (.imul, 1) := by decide +kernel
theorem dX11_word_53 : decode cX11_word 53 = .ok (.iload_n 2, 1) := by decide +kernel
theorem dX11_word_54 : decode cX11_word 54 = .ok (.iadd, 1) := by decide +kernel
theorem dX11_word_55 : decode cX11_word 55 = .ok (.iaload, 1) := by decide +kernel
theorem dX11_word_56 : decode cX11_word 56 = .ok (.goto 4, 3) := by decide +kernel
theorem dX11_word_59 : decode cX11_word 59 = .ok (.iconst (-1), 1) := by decide +kernel
theorem dX11_word_60 : decode cX11_word 60 = .ok (.ireturn, 1) := by decide +kernel
theorem dX11_isLine_0 : decode cX11_isLine 0 = .ok (.iload_n 1, 1) := by decide +kernel
theorem dX11_isLine_1 : decode cX11_isLine 1 = .ok (.iconst 0, 1) := by decide +kernel
theorem dX11_isLine_2 : decode cX11_isLine 2 = .ok (.bipush 7, 2) := by decide +kernel
theorem dX11_isLine_4 : decode cX11_isLine 4 = .ok (.invokestatic 120, 3) := by decide +kernel
theorem dX11_isLine_7 : decode cX11_isLine 7 = .ok (.ifCond .eq 16, 3) := by decide +kernel
theorem dX11_isLine_10 : decode cX11_isLine 10 = .ok (.aload_n 0, 1) := by decide +kernel
theorem dX11_isLine_11 : decode cX11_isLine 11 = .ok (.getfield 56, 3) := by decide +kernel
theorem dX11_isLine_14 : decode cX11_isLine 14 = .ok (.iload_n 1, 1) := by decide +kernel
theorem dX11_isLine_15 : decode cX11_isLine 15 = .ok (.iaload, 1) := by decide +kernel
theorem dX11_isLine_16 : decode cX11_isLine 16 = .ok (.ifCond .le 7, 3) := by decide +kernel
theorem dX11_isLine_19 : decode cX11_isLine 19 = .ok (.iconst 1, 1) := by decide +kernel
theorem dX11_isLine_20 : decode cX11_isLine 20 = .ok (.goto 4, 3) := by decide +kernel
theorem dX11_isLine_23 : decode cX11_isLine 23 = .ok (.iconst 0, 1) := by decide +kernel
theorem dX11_isLine_24 : decode cX11_isLine 24 = .ok (.ireturn, 1) := by decide +kernel
theorem dX11_speak_0 : decode cX11_speak 0 = .ok (.aload_n 0, 1) := by decide +kernel
theorem dX11_speak_1 : decode cX11_speak 1 = .ok (.getfield 62, 3) := by decide +kernel
theorem dX11_speak_4 : decode cX11_speak 4 = .ok (.aload_n 0, 1) := by decide +kernel
theorem dX11_speak_5 : decode cX11_speak 5 = .ok (.getfield 259, 3) := by decide +kernel
theorem dX11_speak_8 : decode cX11_speak 8 = .ok (.iload_n 1, 1) := by decide +kernel
theorem dX11_speak_9 : decode cX11_speak 9 = .ok (.iastore, 1) := by decide +kernel
theorem dX11_speak_10 : decode cX11_speak 10 = .ok (.aload_n 0, 1) := by decide +kernel
theorem dX11_speak_11 : decode cX11_speak 11 = .ok (.dup, 1) := by decide +kernel
theorem dX11_speak_12 : decode cX11_speak 12 = .ok (.getfield 259, 3) := by decide +kernel
theorem dX11_speak_15 : decode cX11_speak 15 = .ok (.iconst 1, 1) := by decide +kernel
theorem dX11_speak_16 : decode cX11_speak 16 = .ok (.iadd, 1) := by decide +kernel
theorem dX11_speak_17 : decode cX11_speak 17 = .ok (.putfield 259, 3) := by decide +kernel
theorem dX11_speak_20 : decode cX11_speak 20 = .ok (.return_, 1) := by decide +kernel
theorem dX11_canSpeak_0 : decode cX11_canSpeak 0 = .ok (.aload_n 0, 1) := by decide +kernel
theorem dX11_canSpeak_1 : decode cX11_canSpeak 1 = .ok (.iconst 0, 1) := by decide +kernel
theorem dX11_canSpeak_2 : decode cX11_canSpeak 2 = .ok (.putfield 259, 3) := by decide +kernel
theorem dX11_canSpeak_5 : decode cX11_canSpeak 5 = .ok (.iconst 0, 1) := by decide +kernel
theorem dX11_canSpeak_6 : decode cX11_canSpeak 6 = .ok (.istore_n 3, 1) := by decide +kernel
theorem dX11_canSpeak_7 : decode cX11_canSpeak 7 = .ok (.iload_n 3, 1) := by decide +kernel
theorem dX11_canSpeak_8 : decode cX11_canSpeak 8 = .ok (.aload_n 0, 1) := by decide +kernel
theorem dX11_canSpeak_9 : decode cX11_canSpeak 9 = .ok (.getfield 56, 3) := by decide +kernel
theorem dX11_canSpeak_12 : decode cX11_canSpeak 12 = .ok (.iload_n 1, 1) := by decide +kernel
theorem dX11_canSpeak_13 : decode cX11_canSpeak 13 = .ok (.iaload, 1) := by decide +kernel
theorem dX11_canSpeak_14 : decode cX11_canSpeak 14 = .ok (.if_icmp .ge 78, 3) := by decide +kernel
theorem dX11_canSpeak_17 : decode cX11_canSpeak 17 = .ok (.aload_n 0, 1) := by decide +kernel
theorem dX11_canSpeak_18 : decode cX11_canSpeak 18 = .ok (.getfield 59, 3) := by decide +kernel
theorem dX11_canSpeak_21 : decode cX11_canSpeak 21 = .ok (.bipush 8, 2) := by decide +kernel
theorem dX11_canSpeak_23 : decode cX11_canSpeak 23 = .ok (.iload_n 1, 1) := by decide +kernel
theorem dX11_canSpeak_24 : decode cX11_canSpeak 24 = .ok (.imul, 1) := by decide +kernel
theorem dX11_canSpeak_25 : decode cX11_canSpeak 25 = .ok (.iload_n 3, 1) := by decide +kernel
theorem dX11_canSpeak_26 : decode cX11_canSpeak 26 = .ok (.iadd, 1) := by decide +kernel
theorem dX11_canSpeak_27 : decode cX11_canSpeak 27 = .ok (.iaload, 1) := by decide +kernel
theorem dX11_canSpeak_28 : decode cX11_canSpeak 28 = .ok (.istore 4, 2) := by decide +kernel
theorem dX11_canSpeak_30 : decode cX11_canSpeak 30 = .ok (.iload 4, 2) := by decide +kernel
theorem dX11_canSpeak_32 : decode cX11_canSpeak 32 = .ok (.bipush 32, 2) := by decide +kernel
theorem dX11_canSpeak_34 : decode cX11_canSpeak 34 = .ok (.if_icmp .ge 12, 3) := by decide +kernel
theorem dX11_canSpeak_37 : decode cX11_canSpeak 37 = .ok (.aload_n 0, 1) := by decide +kernel
theorem dX11_canSpeak_38 : decode cX11_canSpeak 38 = .ok (.iload 4, 2) := by decide +kernel
theorem dX11_canSpeak_40 : decode cX11_canSpeak 40 = .ok (.invokevirtual 262, 3) := by decide +kernel
theorem dX11_canSpeak_43 : decode cX11_canSpeak 43 = .ok (.goto 43, 3) := by decide +kernel
theorem dX11_canSpeak_46 : decode cX11_canSpeak 46 = .ok (.iload_n 2, 1) := by decide +kernel
theorem dX11_canSpeak_47 : decode cX11_canSpeak 47 = .ok (.bipush 20, 2) := by decide +kernel
theorem dX11_canSpeak_49 : decode cX11_canSpeak 49 = .ok (.if_icmp .ge 11, 3) := by decide +kernel
theorem dX11_canSpeak_52 : decode cX11_canSpeak 52 = .ok (.aload_n 0, 1) := by decide +kernel
theorem dX11_canSpeak_53 : decode cX11_canSpeak 53 = .ok (.iload_n 2, 1) := by decide +kernel
theorem dX11_canSpeak_54 : decode cX11_canSpeak 54 = .ok (.invokevirtual 262, 3) := by decide +kernel
theorem dX11_canSpeak_57 : decode cX11_canSpeak 57 = .ok (.goto 29, 3) := by decide +kernel
theorem dX11_canSpeak_60 : decode cX11_canSpeak 60 = .ok (.aload_n 0, 1) := by decide +kernel
theorem dX11_canSpeak_61 : decode cX11_canSpeak 61 = .ok (.bipush 18, 2) := by decide +kernel
theorem dX11_canSpeak_63 : decode cX11_canSpeak 63 = .ok (.iload_n 2, 1) := by decide +kernel
theorem dX11_canSpeak_64 : decode cX11_canSpeak 64 = .ok (.bipush 10, 2) := by decide +kernel
theorem dX11_canSpeak_66 : decode cX11_canSpeak 66 = .ok (.idiv, 1) := by decide +kernel
theorem dX11_canSpeak_67 : decode cX11_canSpeak 67 = .ok (.iadd, 1) := by decide +kernel
theorem dX11_canSpeak_68 : decode cX11_canSpeak 68 = .ok (.invokevirtual 262, 3) := by decide +kernel
theorem dX11_canSpeak_71 : decode cX11_canSpeak 71 = .ok (.iload_n 2, 1) := by decide +kernel
theorem dX11_canSpeak_72 : decode cX11_canSpeak 72 = .ok (.bipush 10, 2) := by decide +kernel
theorem dX11_canSpeak_74 : decode cX11_canSpeak 74 = .ok (.irem, 1) := by decide +kernel
theorem dX11_canSpeak_75 : decode cX11_canSpeak 75 = .ok (.ifCond .le 11, 3) := by decide +kernel
theorem dX11_canSpeak_78 : decode cX11_canSpeak 78 = .ok (.aload_n 0, 1) := by decide +kernel
theorem dX11_canSpeak_79 : decode cX11_canSpeak 79 = .ok (.iload_n 2, 1) := by decide +kernel
theorem dX11_canSpeak_80 : decode cX11_canSpeak 80 = .ok (.bipush 10, 2) := by decide +kernel
theorem dX11_canSpeak_82 : decode cX11_canSpeak 82 = .ok (.irem, 1) := by decide +kernel
theorem dX11_canSpeak_83 : decode cX11_canSpeak 83 = .ok (.invokevirtual 262, 3) := by decide +kernel
theorem dX11_canSpeak_86 : decode cX11_canSpeak 86 = .ok (.iinc 3 1, 3) := by decide +kernel
theorem dX11_canSpeak_89 : decode cX11_canSpeak 89 = .ok (.goto (-82), 3) := by decide +kernel
theorem dX11_canSpeak_92 : decode cX11_canSpeak 92 = .ok (.iconst 1, 1) := by decide +kernel
theorem dX11_canSpeak_93 : decode cX11_canSpeak 93 = .ok (.istore_n 3, 1) := by decide +kernel
theorem dX11_canSpeak_94 : decode cX11_canSpeak 94 = .ok (.iconst 0, 1) := by decide +kernel
theorem dX11_canSpeak_95 : decode cX11_canSpeak 95 = .ok (.istore 4, 2) := by decide +kernel
theorem dX11_canSpeak_97 : decode cX11_canSpeak 97 = .ok (.iload 4, 2) := by decide +kernel
theorem dX11_canSpeak_99 : decode cX11_canSpeak 99 = .ok (.aload_n 0, 1) := by decide +kernel
theorem dX11_canSpeak_100 : decode cX11_canSpeak 100 = .ok (.getfield 259, 3) := by decide +kernel
theorem dX11_canSpeak_103 : decode cX11_canSpeak 103 = .ok (.if_icmp .ge 34, 3) := by decide +kernel
theorem dX11_canSpeak_106 : decode cX11_canSpeak 106 = .ok (.iload_n 3, 1) := by decide +kernel
theorem dX11_canSpeak_107 : decode cX11_canSpeak 107 = .ok (.ifCond .eq 22, 3) := by decide +kernel
theorem dX11_canSpeak_110 : decode cX11_canSpeak 110 = .ok (.aload_n 0, 1) := by decide +kernel
theorem dX11_canSpeak_111 : decode cX11_canSpeak 111 = .ok (.getfield 50, 3) := by decide +kernel
theorem dX11_canSpeak_114 : decode cX11_canSpeak 114 = .ok (.aload_n 0, 1) := by decide +kernel
theorem dX11_canSpeak_115 : decode cX11_canSpeak 115 = .ok (.getfield 62, 3) := by decide +kernel
theorem dX11_canSpeak_118 : decode cX11_canSpeak 118 = .ok (.iload 4, 2) := by decide +kernel
theorem dX11_canSpeak_120 : decode cX11_canSpeak 120 = .ok (.iaload, 1) := by decide +kernel
theorem dX11_canSpeak_121 : decode cX11_canSpeak 121 = .ok (.iaload, 1) := by decide +kernel
theorem dX11_canSpeak_122 : decode cX11_canSpeak 122 = .ok (.ifCond .le 7, 3) := by decide +kernel
theorem dX11_canSpeak_125 : decode cX11_canSpeak 125 = .ok (.iconst 1, 1) := by decide +kernel
theorem dX11_canSpeak_126 : decode cX11_canSpeak 126 = .ok (.goto 4, 3) := by decide +kernel
theorem dX11_canSpeak_129 : decode cX11_canSpeak 129 = .ok (.iconst 0, 1) := by decide +kernel
theorem dX11_canSpeak_130 : decode cX11_canSpeak 130 = .ok (.istore_n 3, 1) := by decide +kernel
theorem dX11_canSpeak_131 : decode cX11_canSpeak 131 = .ok (.iinc 4 1, 3) := by decide +kernel
theorem dX11_canSpeak_134 : decode cX11_canSpeak 134 = .ok (.goto (-37), 3) := by decide +kernel
theorem dX11_canSpeak_137 : decode cX11_canSpeak 137 = .ok (.iload_n 3, 1) := by decide +kernel
theorem dX11_canSpeak_138 : decode cX11_canSpeak 138 = .ok (.ireturn, 1) := by decide +kernel
theorem dX11_line_0 : decode cX11_line 0 = .ok (.aload_n 0, 1) := by decide +kernel
theorem dX11_line_1 : decode cX11_line 1 = .ok (.iload_n 1, 1) := by decide +kernel
theorem dX11_line_2 : decode cX11_line 2 = .ok (.invokevirtual 265, 3) := by decide +kernel
theorem dX11_line_5 : decode cX11_line 5 = .ok (.ifCond .ne 6, 3) := by decide +kernel
theorem dX11_line_8 : decode cX11_line 8 = .ok (.bipush (-2), 2) := by decide +kernel
theorem dX11_line_10 : decode cX11_line 10 = .ok (.ireturn, 1) := by decide +kernel
theorem dX11_line_11 : decode cX11_line 11 = .ok (.iload_n 2, 1) := by decide +kernel
theorem dX11_line_12 : decode cX11_line 12 = .ok (.iconst 0, 1) := by decide +kernel
theorem dX11_line_13 : decode cX11_line 13 = .ok (.bipush 99, 2) := by decide +kernel
theorem dX11_line_15 : decode cX11_line 15 = .ok (.invokestatic 120, 3) := by decide +kernel
theorem dX11_line_18 : decode cX11_line 18 = .ok (.ifCond .eq 8, 3) := by decide +kernel
theorem dX11_line_21 : decode cX11_line 21 = .ok (.iload_n 3, 1) := by decide +kernel
theorem dX11_line_22 : decode cX11_line 22 = .ok (.iconst (-1), 1) := by decide +kernel
theorem dX11_line_23 : decode cX11_line 23 = .ok (.if_icmp .ge 6, 3) := by decide +kernel
theorem dX11_line_26 : decode cX11_line 26 = .ok (.bipush (-3), 2) := by decide +kernel
theorem dX11_line_28 : decode cX11_line 28 = .ok (.ireturn, 1) := by decide +kernel
theorem dX11_line_29 : decode cX11_line 29 = .ok (.aload_n 0, 1) := by decide +kernel
theorem dX11_line_30 : decode cX11_line 30 = .ok (.iload_n 1, 1) := by decide +kernel
theorem dX11_line_31 : decode cX11_line 31 = .ok (.iload_n 2, 1) := by decide +kernel
theorem dX11_line_32 : decode cX11_line 32 = .ok (.invokevirtual 268, 3) := by decide +kernel
theorem dX11_line_35 : decode cX11_line 35 = .ok (.ifCond .ne 6, 3) := by decide +kernel
theorem dX11_line_38 : decode cX11_line 38 = .ok (.bipush (-4), 2) := by decide +kernel
theorem dX11_line_40 : decode cX11_line 40 = .ok (.ireturn, 1) := by decide +kernel
theorem dX11_line_41 : decode cX11_line 41 = .ok (.iconst 0, 1) := by decide +kernel
theorem dX11_line_42 : decode cX11_line 42 = .ok (.istore 4, 2) := by decide +kernel
theorem dX11_line_44 : decode cX11_line 44 = .ok (.iconst 0, 1) := by decide +kernel
theorem dX11_line_45 : decode cX11_line 45 = .ok (.istore 5, 2) := by decide +kernel
theorem dX11_line_47 : decode cX11_line 47 = .ok (.iload 5, 2) := by decide +kernel
theorem dX11_line_49 : decode cX11_line 49 = .ok (.aload_n 0, 1) := by decide +kernel
theorem dX11_line_50 : decode cX11_line 50 = .ok (.getfield 259, 3) := by decide +kernel
theorem dX11_line_53 : decode cX11_line 53 = .ok (.if_icmp .ge 67, 3) := by decide +kernel
theorem dX11_line_56 : decode cX11_line 56 = .ok (.aload_n 0, 1) := by decide +kernel
theorem dX11_line_57 : decode cX11_line 57 = .ok (.getfield 50, 3) := by decide +kernel
theorem dX11_line_60 : decode cX11_line 60 = .ok (.aload_n 0, 1) := by decide +kernel
theorem dX11_line_61 : decode cX11_line 61 = .ok (.getfield 62, 3) := by decide +kernel
theorem dX11_line_64 : decode cX11_line 64 = .ok (.iload 5, 2) := by decide +kernel
theorem dX11_line_66 : decode cX11_line 66 = .ok (.iaload, 1) := by decide +kernel
theorem dX11_line_67 : decode cX11_line 67 = .ok (.iaload, 1) := by decide +kernel
theorem dX11_line_68 : decode cX11_line 68 = .ok (.istore 6, 2) := by decide +kernel
theorem dX11_line_70 : decode cX11_line 70 = .ok (.iload_n 3, 1) := by decide +kernel
theorem dX11_line_71 : decode cX11_line 71 = .ok (.iload 4, 2) := by decide +kernel
theorem dX11_line_73 : decode cX11_line 73 = .ok (.iload 4, 2) := by decide +kernel
theorem dX11_line_75 : decode cX11_line 75 = .ok (.iload 6, 2) := by decide +kernel
theorem dX11_line_77 : decode cX11_line 77 = .ok (.iadd, 1) := by decide +kernel
theorem dX11_line_78 : decode cX11_line 78 = .ok (.iconst 1, 1) := by decide +kernel
theorem dX11_line_79 : decode cX11_line 79 = .ok (.isub, 1) := by decide +kernel
theorem dX11_line_80 : decode cX11_line 80 = .ok (.invokestatic 120, 3) := by decide +kernel
theorem dX11_line_83 : decode cX11_line 83 = .ok (.ifCond .eq 24, 3) := by decide +kernel
theorem dX11_line_86 : decode cX11_line 86 = .ok (.aload_n 0, 1) := by decide +kernel
theorem dX11_line_87 : decode cX11_line 87 = .ok (.getfield 53, 3) := by decide +kernel
theorem dX11_line_90 : decode cX11_line 90 = .ok (.bipush 8, 2) := by decide +kernel
theorem dX11_line_92 : decode cX11_line 92 = .ok (.aload_n 0, 1) := by decide +kernel
theorem dX11_line_93 : decode cX11_line 93 = .ok (.getfield 62, 3) := by decide +kernel
theorem dX11_line_96 : decode cX11_line 96 = .ok (.iload 5, 2) := by decide +kernel
theorem dX11_line_98 : decode cX11_line 98 = .ok (.iaload, 1) := by decide +kernel
theorem dX11_line_99 : decode cX11_line 99 = .ok (.imul, 1) := by decide +kernel
theorem dX11_line_100 : decode cX11_line 100 = .ok (.iload_n 3, 1) := by decide +kernel
theorem dX11_line_101 : decode cX11_line 101 = .ok (.iadd, 1) := by decide +kernel
theorem dX11_line_102 : decode cX11_line 102 = .ok (.iload 4, 2) := by decide +kernel
theorem dX11_line_104 : decode cX11_line 104 = .ok (.isub, 1) := by decide +kernel
theorem dX11_line_105 : decode cX11_line 105 = .ok (.iaload, 1) := by decide +kernel
theorem dX11_line_106 : decode cX11_line 106 = .ok (.ireturn, 1) := by decide +kernel
theorem dX11_line_107 : decode cX11_line 107 = .ok (.iload 4, 2) := by decide +kernel
theorem dX11_line_109 : decode cX11_line 109 = .ok (.iload 6, 2) := by decide +kernel
theorem dX11_line_111 : decode cX11_line 111 = .ok (.iadd, 1) := by decide +kernel
theorem dX11_line_112 : decode cX11_line 112 = .ok (.istore 4, 2) := by decide +kernel
theorem dX11_line_114 : decode cX11_line 114 = .ok (.iinc 5 1, 3) := by decide +kernel
theorem dX11_line_117 : decode cX11_line 117 = .ok (.goto (-70), 3) := by decide +kernel
theorem dX11_line_120 : decode cX11_line 120 = .ok (.iload_n 3, 1) := by decide +kernel
theorem dX11_line_121 : decode cX11_line 121 = .ok (.iconst (-1), 1) := by decide +kernel
theorem dX11_line_122 : decode cX11_line 122 = .ok (.if_icmp .ne 8, 3) := by decide +kernel
theorem dX11_line_125 : decode cX11_line 125 = .ok (.iload 4, 2) := by decide +kernel
theorem dX11_line_127 : decode cX11_line 127 = .ok (.goto 4, 3) := by decide +kernel
theorem dX11_line_130 : decode cX11_line 130 = .ok (.iconst (-1), 1) := by decide +kernel
theorem dX11_line_131 : decode cX11_line 131 = .ok (.ireturn, 1) := by decide +kernel
theorem dX11_jarOf_0 : decode cX11_jarOf 0 = .ok (.iconst 0, 1) := by decide +kernel
theorem dX11_jarOf_1 : decode cX11_jarOf 1 = .ok (.istore_n 3, 1) := by decide +kernel
theorem dX11_jarOf_2 : decode cX11_jarOf 2 = .ok (.iload_n 3, 1) := by decide +kernel
theorem dX11_jarOf_3 : decode cX11_jarOf 3 = .ok (.aload_n 0, 1) := by decide +kernel
theorem dX11_jarOf_4 : decode cX11_jarOf 4 = .ok (.getfield 50, 3) := by decide +kernel
theorem dX11_jarOf_7 : decode cX11_jarOf 7 = .ok (.iload_n 1, 1) := by decide +kernel
theorem dX11_jarOf_8 : decode cX11_jarOf 8 = .ok (.iaload, 1) := by decide +kernel
theorem dX11_jarOf_9 : decode cX11_jarOf 9 = .ok (.if_icmp .ge 26, 3) := by decide +kernel
theorem dX11_jarOf_12 : decode cX11_jarOf 12 = .ok (.aload_n 0, 1) := by decide +kernel
theorem dX11_jarOf_13 : decode cX11_jarOf 13 = .ok (.getfield 38, 3) := by decide +kernel
theorem dX11_jarOf_16 : decode cX11_jarOf 16 = .ok (.iload_n 3, 1) := by decide +kernel
theorem dX11_jarOf_17 : decode cX11_jarOf 17 = .ok (.aload_n 0, 1) := by decide +kernel
theorem dX11_jarOf_18 : decode cX11_jarOf 18 = .ok (.getfield 53, 3) := by decide +kernel
theorem dX11_jarOf_21 : decode cX11_jarOf 21 = .ok (.bipush 8, 2) := by decide +kernel
theorem dX11_jarOf_23 : decode cX11_jarOf 23 = .ok (.iload_n 1, 1) := by decide +kernel
theorem dX11_jarOf_24 : decode cX11_jarOf 24 = .ok (.imul, 1) := by decide +kernel
theorem dX11_jarOf_25 : decode cX11_jarOf 25 = .ok (.iload_n 3, 1) := by decide +kernel
theorem dX11_jarOf_26 : decode cX11_jarOf 26 = .ok (.iadd, 1) := by decide +kernel
theorem dX11_jarOf_27 : decode cX11_jarOf 27 = .ok (.iaload, 1) := by decide +kernel
theorem dX11_jarOf_28 : decode cX11_jarOf 28 = .ok (.iastore, 1) := by decide +kernel
theorem dX11_jarOf_29 : decode cX11_jarOf 29 = .ok (.iinc 3 1, 3) := by decide +kernel
theorem dX11_jarOf_32 : decode cX11_jarOf 32 = .ok (.goto (-30), 3) := by decide +kernel
theorem dX11_jarOf_35 : decode cX11_jarOf 35 = .ok (.aload_n 0, 1) := by decide +kernel
theorem dX11_jarOf_36 : decode cX11_jarOf 36 = .ok (.iload_n 2, 1) := by decide +kernel
theorem dX11_jarOf_37 : decode cX11_jarOf 37 = .ok (.aload_n 0, 1) := by decide +kernel
theorem dX11_jarOf_38 : decode cX11_jarOf 38 = .ok (.getfield 50, 3) := by decide +kernel
theorem dX11_jarOf_41 : decode cX11_jarOf 41 = .ok (.iload_n 1, 1) := by decide +kernel
theorem dX11_jarOf_42 : decode cX11_jarOf 42 = .ok (.iaload, 1) := by decide +kernel
theorem dX11_jarOf_43 : decode cX11_jarOf 43 = .ok (.invokevirtual 166, 3) := by decide +kernel
theorem dX11_jarOf_46 : decode cX11_jarOf 46 = .ok (.aload_n 0, 1) := by decide +kernel
theorem dX11_jarOf_47 : decode cX11_jarOf 47 = .ok (.invokevirtual 170, 3) := by decide +kernel
theorem dX11_jarOf_50 : decode cX11_jarOf 50 = .ok (.ireturn, 1) := by decide +kernel
theorem dX11_jarOfAll_0 : decode cX11_jarOfAll 0 = .ok (.iconst 0, 1) := by decide +kernel
theorem dX11_jarOfAll_1 : decode cX11_jarOfAll 1 = .ok (.istore_n 2, 1) := by decide +kernel
theorem dX11_jarOfAll_2 : decode cX11_jarOfAll 2 = .ok (.iconst 0, 1) := by decide +kernel
theorem dX11_jarOfAll_3 : decode cX11_jarOfAll 3 = .ok (.istore_n 3, 1) := by decide +kernel
theorem dX11_jarOfAll_4 : decode cX11_jarOfAll 4 = .ok (.iload_n 3, 1) := by decide +kernel
theorem dX11_jarOfAll_5 : decode cX11_jarOfAll 5 = .ok (.aload_n 0, 1) := by decide +kernel
theorem dX11_jarOfAll_6 : decode cX11_jarOfAll 6 = .ok (.getfield 259, 3) := by decide +kernel
theorem dX11_jarOfAll_9 : decode cX11_jarOfAll 9 = .ok (.if_icmp .ge 36, 3) := by decide +kernel
theorem dX11_jarOfAll_12 : decode cX11_jarOfAll 12 = .ok (.aload_n 0, 1) := by decide +kernel
theorem dX11_jarOfAll_13 : decode cX11_jarOfAll 13 = .ok (.aload_n 0, 1) := by decide +kernel
theorem dX11_jarOfAll_14 : decode cX11_jarOfAll 14 = .ok (.getfield 62, 3) := by decide +kernel
theorem dX11_jarOfAll_17 : decode cX11_jarOfAll 17 = .ok (.iload_n 3, 1) := by decide +kernel
theorem dX11_jarOfAll_18 : decode cX11_jarOfAll 18 = .ok (.iaload, 1) := by decide +kernel
theorem dX11_jarOfAll_19 : decode cX11_jarOfAll 19 = .ok (.iload_n 1, 1) := by decide +kernel
theorem dX11_jarOfAll_20 : decode cX11_jarOfAll 20 = .ok (.invokevirtual 271, 3) := by decide +kernel
theorem dX11_jarOfAll_23 : decode cX11_jarOfAll 23 = .ok (.istore 4, 2) := by decide +kernel
theorem dX11_jarOfAll_25 : decode cX11_jarOfAll 25 = .ok (.iload 4, 2) := by decide +kernel
theorem dX11_jarOfAll_27 : decode cX11_jarOfAll 27 = .ok (.ldc 142, 2) := by decide +kernel
theorem dX11_jarOfAll_29 : decode cX11_jarOfAll 29 = .ok (.if_icmp .ne 5, 3) := by decide +kernel
theorem dX11_jarOfAll_32 : decode cX11_jarOfAll 32 = .ok (.iconst (-1), 1) := by decide +kernel
theorem dX11_jarOfAll_33 : decode cX11_jarOfAll 33 = .ok (.ireturn, 1) := by decide +kernel
theorem dX11_jarOfAll_34 : decode cX11_jarOfAll 34 = .ok (.iload_n 2, 1) := by decide +kernel
theorem dX11_jarOfAll_35 : decode cX11_jarOfAll 35 = .ok (.iload 4, 2) := by decide +kernel
theorem dX11_jarOfAll_37 : decode cX11_jarOfAll 37 = .ok (.iadd, 1) := by decide +kernel
theorem dX11_jarOfAll_38 : decode cX11_jarOfAll 38 = .ok (.istore_n 2, 1) := by decide +kernel
theorem dX11_jarOfAll_39 : decode cX11_jarOfAll 39 = .ok (.iinc 3 1, 3) := by decide +kernel
theorem dX11_jarOfAll_42 : decode cX11_jarOfAll 42 = .ok (.goto (-38), 3) := by decide +kernel
theorem dX11_jarOfAll_45 : decode cX11_jarOfAll 45 = .ok (.iload_n 2, 1) := by decide +kernel
theorem dX11_jarOfAll_46 : decode cX11_jarOfAll 46 = .ok (.ireturn, 1) := by decide +kernel
theorem dX11_jar_0 : decode cX11_jar 0 = .ok (.aload_n 0, 1) := by decide +kernel
theorem dX11_jar_1 : decode cX11_jar 1 = .ok (.iload_n 1, 1) := by decide +kernel
theorem dX11_jar_2 : decode cX11_jar 2 = .ok (.invokevirtual 265, 3) := by decide +kernel
theorem dX11_jar_5 : decode cX11_jar 5 = .ok (.ifCond .ne 6, 3) := by decide +kernel
theorem dX11_jar_8 : decode cX11_jar 8 = .ok (.bipush (-2), 2) := by decide +kernel
theorem dX11_jar_10 : decode cX11_jar 10 = .ok (.ireturn, 1) := by decide +kernel
theorem dX11_jar_11 : decode cX11_jar 11 = .ok (.iload_n 2, 1) := by decide +kernel
theorem dX11_jar_12 : decode cX11_jar 12 = .ok (.iconst 0, 1) := by decide +kernel
theorem dX11_jar_13 : decode cX11_jar 13 = .ok (.bipush 99, 2) := by decide +kernel
theorem dX11_jar_15 : decode cX11_jar 15 = .ok (.invokestatic 120, 3) := by decide +kernel
theorem dX11_jar_18 : decode cX11_jar 18 = .ok (.ifCond .eq 12, 3) := by decide +kernel
theorem dX11_jar_21 : decode cX11_jar 21 = .ok (.iload_n 3, 1) := by decide +kernel
theorem dX11_jar_22 : decode cX11_jar 22 = .ok (.iconst 0, 1) := by decide +kernel
theorem dX11_jar_23 : decode cX11_jar 23 = .ok (.iconst 3, 1) := by decide +kernel
theorem dX11_jar_24 : decode cX11_jar 24 = .ok (.invokestatic 120, 3) := by decide +kernel
theorem dX11_jar_27 : decode cX11_jar 27 = .ok (.ifCond .ne 6, 3) := by decide +kernel
theorem dX11_jar_30 : decode cX11_jar 30 = .ok (.bipush (-3), 2) := by decide +kernel
theorem dX11_jar_32 : decode cX11_jar 32 = .ok (.ireturn, 1) := by decide +kernel
theorem dX11_jar_33 : decode cX11_jar 33 = .ok (.aload_n 0, 1) := by decide +kernel
theorem dX11_jar_34 : decode cX11_jar 34 = .ok (.iload_n 1, 1) := by decide +kernel
theorem dX11_jar_35 : decode cX11_jar 35 = .ok (.iload_n 2, 1) := by decide +kernel
theorem dX11_jar_36 : decode cX11_jar 36 = .ok (.invokevirtual 268, 3) := by decide +kernel
theorem dX11_jar_39 : decode cX11_jar 39 = .ok (.ifCond .eq 11, 3) := by decide +kernel
theorem dX11_jar_42 : decode cX11_jar 42 = .ok (.aload_n 0, 1) := by decide +kernel
theorem dX11_jar_43 : decode cX11_jar 43 = .ok (.iload_n 3, 1) := by decide +kernel
theorem dX11_jar_44 : decode cX11_jar 44 = .ok (.invokevirtual 274, 3) := by decide +kernel
theorem dX11_jar_47 : decode cX11_jar 47 = .ok (.goto 5, 3) := by decide +kernel
theorem dX11_jar_50 : decode cX11_jar 50 = .ok (.bipush (-4), 2) := by decide +kernel
theorem dX11_jar_52 : decode cX11_jar 52 = .ok (.ireturn, 1) := by decide +kernel
theorem dX11_isPlatform_0 : decode cX11_isPlatform 0 = .ok (.iload_n 0, 1) := by decide +kernel
theorem dX11_isPlatform_1 : decode cX11_isPlatform 1 = .ok (.iconst 0, 1) := by decide +kernel
theorem dX11_isPlatform_2 : decode cX11_isPlatform 2 = .ok (.iconst 5, 1) := by decide +kernel
theorem dX11_isPlatform_3 : decode cX11_isPlatform 3 = .ok (.invokestatic 120, 3) := by decide +kernel
theorem dX11_isPlatform_6 : decode cX11_isPlatform 6 = .ok (.ireturn, 1) := by decide +kernel
theorem dX11_call_0 : decode cX11_call 0 = .ok (.iload_n 1, 1) := by decide +kernel
theorem dX11_call_1 : decode cX11_call 1 = .ok (.invokestatic 278, 3) := by decide +kernel
theorem dX11_call_4 : decode cX11_call 4 = .ok (.ifCond .eq 11, 3) := by decide +kernel
theorem dX11_call_7 : decode cX11_call 7 = .ok (.aload_n 0, 1) := by decide +kernel
theorem dX11_call_8 : decode cX11_call 8 = .ok (.iload_n 2, 1) := by decide +kernel
theorem dX11_call_9 : decode cX11_call 9 = .ok (.invokevirtual 265, 3) := by decide +kernel
theorem dX11_call_12 : decode cX11_call 12 = .ok (.ifCond .ne 6, 3) := by decide +kernel
theorem dX11_call_15 : decode cX11_call 15 = .ok (.bipush (-2), 2) := by decide +kernel
theorem dX11_call_17 : decode cX11_call 17 = .ok (.ireturn, 1) := by decide +kernel
theorem dX11_call_18 : decode cX11_call 18 = .ok (.iload_n 3, 1) := by decide +kernel
theorem dX11_call_19 : decode cX11_call 19 = .ok (.iconst 0, 1) := by decide +kernel
theorem dX11_call_20 : decode cX11_call 20 = .ok (.bipush 99, 2) := by decide +kernel
theorem dX11_call_22 : decode cX11_call 22 = .ok (.invokestatic 120, 3) := by decide +kernel
theorem dX11_call_25 : decode cX11_call 25 = .ok (.ifCond .eq 30, 3) := by decide +kernel
theorem dX11_call_28 : decode cX11_call 28 = .ok (.iload 4, 2) := by decide +kernel
theorem dX11_call_30 : decode cX11_call 30 = .ok (.iconst 0, 1) := by decide +kernel
theorem dX11_call_31 : decode cX11_call 31 = .ok (.sipush 2000, 3) := by decide +kernel
theorem dX11_call_34 : decode cX11_call 34 = .ok (.invokestatic 120, 3) := by decide +kernel
theorem dX11_call_37 : decode cX11_call 37 = .ok (.ifCond .eq 18, 3) := by decide +kernel
theorem dX11_call_40 : decode cX11_call 40 = .ok (.iload 5, 2) := by decide +kernel
theorem dX11_call_42 : decode cX11_call 42 = .ok (.iload 4, 2) := by decide +kernel
theorem dX11_call_44 : decode cX11_call 44 = .ok (.iconst 1, 1) := by decide +kernel
theorem dX11_call_45 : decode cX11_call 45 = .ok (.iadd, 1) := by decide +kernel
theorem dX11_call_46 : decode cX11_call 46 = .ok (.sipush 3000, 3) := by decide +kernel
theorem dX11_call_49 : decode cX11_call 49 = .ok (.invokestatic 120, 3) := by decide +kernel
theorem dX11_call_52 : decode cX11_call 52 = .ok (.ifCond .ne 6, 3) := by decide +kernel
theorem dX11_call_55 : decode cX11_call 55 = .ok (.bipush (-3), 2) := by decide +kernel
theorem dX11_call_57 : decode cX11_call 57 = .ok (.ireturn, 1) := by decide +kernel
theorem dX11_call_58 : decode cX11_call 58 = .ok (.aload_n 0, 1) := by decide +kernel
theorem dX11_call_59 : decode cX11_call 59 = .ok (.getfield 281, 3) := by decide +kernel
theorem dX11_call_62 : decode cX11_call 62 = .ok (.bipush 24, 2) := by decide +kernel
theorem dX11_call_64 : decode cX11_call 64 = .ok (.if_icmp .ne 6, 3) := by decide +kernel
theorem dX11_call_67 : decode cX11_call 67 = .ok (.bipush (-5), 2) := by decide +kernel
theorem dX11_call_69 : decode cX11_call 69 = .ok (.ireturn, 1) := by decide +kernel
theorem dX11_call_70 : decode cX11_call 70 = .ok (.aload_n 0, 1) := by decide +kernel
theorem dX11_call_71 : decode cX11_call 71 = .ok (.getfield 74, 3) := by decide +kernel
theorem dX11_call_74 : decode cX11_call 74 = .ok (.aload_n 0, 1) := by decide +kernel
theorem dX11_call_75 : decode cX11_call 75 = .ok (.getfield 281, 3) := by decide +kernel
theorem dX11_call_78 : decode cX11_call 78 = .ok (.iload_n 1, 1) := by decide +kernel
theorem dX11_call_79 : decode cX11_call 79 = .ok (.iastore, 1) := by decide +kernel
theorem dX11_call_80 : decode cX11_call 80 = .ok (.aload_n 0, 1) := by decide +kernel
theorem dX11_call_81 : decode cX11_call 81 = .ok (.getfield 77, 3) := by decide +kernel
theorem dX11_call_84 : decode cX11_call 84 = .ok (.aload_n 0, 1) := by decide +kernel
theorem dX11_call_85 : decode cX11_call 85 = .ok (.getfield 281, 3) := by decide +kernel
theorem dX11_call_88 : decode cX11_call 88 = .ok (.iload_n 2, 1) := by decide +kernel
theorem dX11_call_89 : decode cX11_call 89 = .ok (.iastore, 1) := by decide +kernel
theorem dX11_call_90 : decode cX11_call 90 = .ok (.aload_n 0, 1) := by decide +kernel
theorem dX11_call_91 : decode cX11_call 91 = .ok (.getfield 80, 3) := by decide +kernel
theorem dX11_call_94 : decode cX11_call 94 = .ok (.aload_n 0, 1) := by decide +kernel
theorem dX11_call_95 : decode cX11_call 95 = .ok (.getfield 281, 3) := by decide +kernel
theorem dX11_call_98 : decode cX11_call 98 = .ok (.iload_n 3, 1) := by decide +kernel
theorem dX11_call_99 : decode cX11_call 99 = .ok (.iastore, 1) := by decide +kernel
theorem dX11_call_100 : decode cX11_call 100 = .ok (.aload_n 0, 1) := by decide +kernel
theorem dX11_call_101 : decode cX11_call 101 = .ok (.getfield 83, 3) := by decide +kernel
theorem dX11_call_104 : decode cX11_call 104 = .ok (.aload_n 0, 1) := by decide +kernel
theorem dX11_call_105 : decode cX11_call 105 = .ok (.getfield 281, 3) := by decide +kernel
theorem dX11_call_108 : decode cX11_call 108 = .ok (.iload 4, 2) := by decide +kernel
theorem dX11_call_110 : decode cX11_call 110 = .ok (.iastore, 1) := by decide +kernel
theorem dX11_call_111 : decode cX11_call 111 = .ok (.aload_n 0, 1) := by decide +kernel
theorem dX11_call_112 : decode cX11_call 112 = .ok (.getfield 86, 3) := by decide +kernel
theorem dX11_call_115 : decode cX11_call 115 = .ok (.aload_n 0, 1) := by decide +kernel
theorem dX11_call_116 : decode cX11_call 116 = .ok (.getfield 281, 3) := by decide +kernel
theorem dX11_call_119 : decode cX11_call 119 = .ok (.iload 5, 2) := by decide +kernel
theorem dX11_call_121 : decode cX11_call 121 = .ok (.iastore, 1) := by decide +kernel
theorem dX11_call_122 : decode cX11_call 122 = .ok (.aload_n 0, 1) := by decide +kernel
theorem dX11_call_123 : decode cX11_call 123 = .ok (.getfield 89, 3) := by decide +kernel
theorem dX11_call_126 : decode cX11_call 126 = .ok (.aload_n 0, 1) := by decide +kernel
theorem dX11_call_127 : decode cX11_call 127 = .ok (.getfield 281, 3) := by decide +kernel
theorem dX11_call_130 : decode cX11_call 130 = .ok (.iload 6, 2) := by decide +kernel
theorem dX11_call_132 : decode cX11_call 132 = .ok (.bastore, 1) := by decide +kernel
theorem dX11_call_133 : decode cX11_call 133 = .ok (.aload_n 0, 1) := by decide +kernel
theorem dX11_call_134 : decode cX11_call 134 = .ok (.getfield 93, 3) := by decide +kernel
theorem dX11_call_137 : decode cX11_call 137 = .ok (.aload_n 0, 1) := by decide +kernel
theorem dX11_call_138 : decode cX11_call 138 = .ok (.getfield 281, 3) := by decide +kernel
theorem dX11_call_141 : decode cX11_call 141 = .ok (.iconst 0, 1) := by decide +kernel
theorem dX11_call_142 : decode cX11_call 142 = .ok (.iastore, 1) := by decide +kernel
theorem dX11_call_143 : decode cX11_call 143 = .ok (.aload_n 0, 1) := by decide +kernel
theorem dX11_call_144 : decode cX11_call 144 = .ok (.getfield 96, 3) := by decide +kernel
theorem dX11_call_147 : decode cX11_call 147 = .ok (.aload_n 0, 1) := by decide +kernel
theorem dX11_call_148 : decode cX11_call 148 = .ok (.getfield 281, 3) := by decide +kernel
theorem dX11_call_151 : decode cX11_call 151 = .ok (.iconst 0, 1) := by decide +kernel
theorem dX11_call_152 : decode cX11_call 152 = .ok (.iastore, 1) := by decide +kernel
theorem dX11_call_153 : decode cX11_call 153 = .ok (.aload_n 0, 1) := by decide +kernel
theorem dX11_call_154 : decode cX11_call 154 = .ok (.getfield 99, 3) := by decide +kernel
theorem dX11_call_157 : decode cX11_call 157 = .ok (.aload_n 0, 1) := by decide +kernel
theorem dX11_call_158 : decode cX11_call 158 = .ok (.getfield 281, 3) := by decide +kernel
theorem dX11_call_161 : decode cX11_call 161 = .ok (.iconst (-1), 1) := by decide +kernel
theorem dX11_call_162 : decode cX11_call 162 = .ok (.iastore, 1) := by decide +kernel
theorem dX11_call_163 : decode cX11_call 163 = .ok (.aload_n 0, 1) := by decide +kernel
theorem dX11_call_164 : decode cX11_call 164 = .ok (.getfield 102, 3) := by decide +kernel
theorem dX11_call_167 : decode cX11_call 167 = .ok (.aload_n 0, 1) := by decide +kernel
theorem dX11_call_168 : decode cX11_call 168 = .ok (.getfield 281, 3) := by decide +kernel
theorem dX11_call_171 : decode cX11_call 171 = .ok (.iconst 0, 1) := by decide +kernel
theorem dX11_call_172 : decode cX11_call 172 = .ok (.bastore, 1) := by decide +kernel
theorem dX11_call_173 : decode cX11_call 173 = .ok (.aload_n 0, 1) := by decide +kernel
theorem dX11_call_174 : decode cX11_call 174 = .ok (.dup, 1) := by decide +kernel
theorem dX11_call_175 : decode cX11_call 175 = .ok (.getfield 281, 3) := by decide +kernel
theorem dX11_call_178 : decode cX11_call 178 = .ok (.iconst 1, 1) := by decide +kernel
theorem dX11_call_179 : decode cX11_call 179 = .ok (.iadd, 1) := by decide +kernel
theorem dX11_call_180 : decode cX11_call 180 = .ok (.putfield 281, 3) := by decide +kernel
theorem dX11_call_183 : decode cX11_call 183 = .ok (.aload_n 0, 1) := by decide +kernel
theorem dX11_call_184 : decode cX11_call 184 = .ok (.getfield 281, 3) := by decide +kernel
theorem dX11_call_187 : decode cX11_call 187 = .ok (.iconst 1, 1) := by decide +kernel
theorem dX11_call_188 : decode cX11_call 188 = .ok (.isub, 1) := by decide +kernel
theorem dX11_call_189 : decode cX11_call 189 = .ok (.ireturn, 1) := by decide +kernel
theorem dX11_isNear_0 : decode cX11_isNear 0 = .ok (.aload_n 0, 1) := by decide +kernel
theorem dX11_isNear_1 : decode cX11_isNear 1 = .ok (.getfield 74, 3) := by decide +kernel
theorem dX11_isNear_4 : decode cX11_isNear 4 = .ok (.iload_n 1, 1) := by decide +kernel
theorem dX11_isNear_5 : decode cX11_isNear 5 = .ok (.iaload, 1) := by decide +kernel
theorem dX11_isNear_6 : decode cX11_isNear 6 = .ok (.aload_n 0, 1) := by decide +kernel
theorem dX11_isNear_7 : decode cX11_isNear 7 = .ok (.getfield 74, 3) := by decide +kernel
theorem dX11_isNear_10 : decode cX11_isNear 10 = .ok (.iload_n 2, 1) := by decide +kernel
theorem dX11_isNear_11 : decode cX11_isNear 11 = .ok (.iaload, 1) := by decide +kernel
theorem dX11_isNear_12 : decode cX11_isNear 12 = .ok (.if_icmp .eq 27, 3) := by decide +kernel
theorem dX11_isNear_15 : decode cX11_isNear 15 = .ok (.aload_n 0, 1) := by decide +kernel
theorem dX11_isNear_16 : decode cX11_isNear 16 = .ok (.getfield 65, 3) := by decide +kernel
theorem dX11_isNear_19 : decode cX11_isNear 19 = .ok (.aload_n 0, 1) := by decide +kernel
theorem dX11_isNear_20 : decode cX11_isNear 20 = .ok (.getfield 74, 3) := by decide +kernel
theorem dX11_isNear_23 : decode cX11_isNear 23 = .ok (.iload_n 1, 1) := by decide +kernel
theorem dX11_isNear_24 : decode cX11_isNear 24 = .ok (.iaload, 1) := by decide +kernel
theorem dX11_isNear_25 : decode cX11_isNear 25 = .ok (.iaload, 1) := by decide +kernel
theorem dX11_isNear_26 : decode cX11_isNear 26 = .ok (.aload_n 0, 1) := by decide +kernel
theorem dX11_isNear_27 : decode cX11_isNear 27 = .ok (.getfield 74, 3) := by decide +kernel
theorem dX11_isNear_30 : decode cX11_isNear 30 = .ok (.iload_n 2, 1) := by decide +kernel
theorem dX11_isNear_31 : decode cX11_isNear 31 = .ok (.iaload, 1) := by decide +kernel
theorem dX11_isNear_32 : decode cX11_isNear 32 = .ok (.ishr, 1) := by decide +kernel
theorem dX11_isNear_33 : decode cX11_isNear 33 = .ok (.iconst 1, 1) := by decide +kernel
theorem dX11_isNear_34 : decode cX11_isNear 34 = .ok (.iand, 1) := by decide +kernel
theorem dX11_isNear_35 : decode cX11_isNear 35 = .ok (.iconst 1, 1) := by decide +kernel
theorem dX11_isNear_36 : decode cX11_isNear 36 = .ok (.if_icmp .ne 7, 3) := by decide +kernel
theorem dX11_isNear_39 : decode cX11_isNear 39 = .ok (.iconst 1, 1) := by decide +kernel
theorem dX11_isNear_40 : decode cX11_isNear 40 = .ok (.goto 4, 3) := by decide +kernel
theorem dX11_isNear_43 : decode cX11_isNear 43 = .ok (.iconst 0, 1) := by decide +kernel
theorem dX11_isNear_44 : decode cX11_isNear 44 = .ok (.ireturn, 1) := by decide +kernel
theorem dX11_isWaiting_0 : decode cX11_isWaiting 0 = .ok (.aload_n 0, 1) := by decide +kernel
theorem dX11_isWaiting_1 : decode cX11_isWaiting 1 = .ok (.getfield 93, 3) := by decide +kernel
theorem dX11_isWaiting_4 : decode cX11_isWaiting 4 = .ok (.iload_n 1, 1) := by decide +kernel
theorem dX11_isWaiting_5 : decode cX11_isWaiting 5 = .ok (.iaload, 1) := by decide +kernel
theorem dX11_isWaiting_6 : decode cX11_isWaiting 6 = .ok (.ifCond .ne 20, 3) := by decide +kernel
theorem dX11_isWaiting_9 : decode cX11_isWaiting 9 = .ok (.aload_n 0, 1) := by decide +kernel
theorem dX11_isWaiting_10 : decode cX11_isWaiting 10 = .ok (.getfield 83, 3) := by decide +kernel
theorem dX11_isWaiting_13 : decode cX11_isWaiting 13 = .ok (.iload_n 1, 1) := by decide +kernel
theorem dX11_isWaiting_14 : decode cX11_isWaiting 14 = .ok (.iaload, 1) := by decide +kernel
theorem dX11_isWaiting_15 : decode cX11_isWaiting 15 = .ok (.aload_n 0, 1) := by decide +kernel
theorem dX11_isWaiting_16 : decode cX11_isWaiting 16 = .ok (.getfield 284, 3) := by decide +kernel
theorem dX11_isWaiting_19 : decode cX11_isWaiting 19 = .ok (.if_icmp .gt 7, 3) := by decide +kernel
theorem dX11_isWaiting_22 : decode cX11_isWaiting 22 = .ok (.iconst 1, 1) := by decide +kernel
theorem dX11_isWaiting_23 : decode cX11_isWaiting 23 = .ok (.goto 4, 3) := by decide +kernel
theorem dX11_isWaiting_26 : decode cX11_isWaiting 26 = .ok (.iconst 0, 1) := by decide +kernel
theorem dX11_isWaiting_27 : decode cX11_isWaiting 27 = .ok (.ireturn, 1) := by decide +kernel
theorem dX11_start_0 : decode cX11_start 0 = .ok (.aload_n 0, 1) := by decide +kernel
theorem dX11_start_1 : decode cX11_start 1 = .ok (.aload_n 0, 1) := by decide +kernel
theorem dX11_start_2 : decode cX11_start 2 = .ok (.getfield 77, 3) := by decide +kernel
theorem dX11_start_5 : decode cX11_start 5 = .ok (.iload_n 1, 1) := by decide +kernel
theorem dX11_start_6 : decode cX11_start 6 = .ok (.iaload, 1) := by decide +kernel
theorem dX11_start_7 : decode cX11_start 7 = .ok (.aload_n 0, 1) := by decide +kernel
theorem dX11_start_8 : decode cX11_start 8 = .ok (.getfield 80, 3) := by decide +kernel
theorem dX11_start_11 : decode cX11_start 11 = .ok (.iload_n 1, 1) := by decide +kernel
theorem dX11_start_12 : decode cX11_start 12 = .ok (.iaload, 1) := by decide +kernel
theorem dX11_start_13 : decode cX11_start 13 = .ok (.invokevirtual 268, 3) := by decide +kernel
theorem dX11_start_16 : decode cX11_start 16 = .ok (.ifCond .eq 22, 3) := by decide +kernel
theorem dX11_start_19 : decode cX11_start 19 = .ok (.aload_n 0, 1) := by decide +kernel
theorem dX11_start_20 : decode cX11_start 20 = .ok (.aload_n 0, 1) := by decide +kernel
theorem dX11_start_21 : decode cX11_start 21 = .ok (.getfield 68, 3) := by decide +kernel
theorem dX11_start_24 : decode cX11_start 24 = .ok (.aload_n 0, 1) := by decide +kernel
theorem dX11_start_25 : decode cX11_start 25 = .ok (.getfield 74, 3) := by decide +kernel
theorem dX11_start_28 : decode cX11_start 28 = .ok (.iload_n 1, 1) := by decide +kernel
theorem dX11_start_29 : decode cX11_start 29 = .ok (.iaload, 1) := by decide +kernel
