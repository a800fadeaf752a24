theorem dX2_findBestSitting_0 : decode cX2_findBestSitting 0 = .ok (.iconst 0, 1) := by decide +kernel
theorem dX2_findBestSitting_1 : decode cX2_findBestSitting 1 = .ok (.istore_n 2, 1) := by decide +kernel
theorem dX2_findBestSitting_2 : decode cX2_findBestSitting 2 = .ok (.iload_n 2, 1) := by decide +kernel
theorem dX2_findBestSitting_3 : decode cX2_findBestSitting 3 = .ok (.aload_n 0, 1) := by decide +kernel
theorem dX2_findBestSitting_4 : decode cX2_findBestSitting 4 = .ok (.getfield 32, 3) := by decide +kernel
theorem dX2_findBestSitting_7 : decode cX2_findBestSitting 7 = .ok (.arraylength, 1) := by decide +kernel
theorem dX2_findBestSitting_8 : decode cX2_findBestSitting 8 = .ok (.if_icmp .ge 16, 3) := by decide +kernel
theorem dX2_findBestSitting_11 : decode cX2_findBestSitting 11 = .ok (.aload_n 0, 1) := by decide +kernel
theorem dX2_findBestSitting_12 : decode cX2_findBestSitting 12 = .ok (.getfield 32, 3) := by decide +kernel
theorem dX2_findBestSitting_15 : decode cX2_findBestSitting 15 = .ok (.iload_n 2, 1) := by decide +kernel
theorem dX2_findBestSitting_16 : decode cX2_findBestSitting 16 = .ok (.iload_n 2, 1) := by decide +kernel
theorem dX2_findBestSitting_17 : decode cX2_findBestSitting 17 = .ok (.iastore, 1) := by decide +kernel
theorem dX2_findBestSitting_18 : decode cX2_findBestSitting 18 = .ok (.iinc 2 1, 3) := by decide +kernel
theorem dX2_findBestSitting_21 : decode cX2_findBestSitting 21 = .ok (.goto (-19), 3) := by decide +kernel
theorem dX2_findBestSitting_24 : decode cX2_findBestSitting 24 = .ok (.iconst 0, 1) := by decide +kernel
theorem dX2_findBestSitting_25 : decode cX2_findBestSitting 25 = .ok (.istore_n 2, 1) := by decide +kernel
theorem dX2_findBestSitting_26 : decode cX2_findBestSitting 26 = .ok (.iconst 1, 1) := by decide +kernel
theorem dX2_findBestSitting_27 : decode cX2_findBestSitting 27 = .ok (.istore_n 3, 1) := by decide +kernel
theorem dX2_findBestSitting_28 : decode cX2_findBestSitting 28 = .ok (.iconst 0, 1) := by decide +kernel
theorem dX2_findBestSitting_29 : decode cX2_findBestSitting 29 = .ok (.istore 4, 2) := by decide +kernel
theorem dX2_findBestSitting_31 : decode cX2_findBestSitting 31 = .ok (.iload 4, 2) := by decide +kernel
theorem dX2_findBestSitting_33 : decode cX2_findBestSitting 33 = .ok (.sipush 720, 3) := by decide +kernel
theorem dX2_findBestSitting_36 : decode cX2_findBestSitting 36 = .ok (.if_icmp .ge 64, 3) := by decide +kernel
theorem dX2_findBestSitting_39 : decode cX2_findBestSitting 39 = .ok (.iload_n 3, 1) := by decide +kernel
theorem dX2_findBestSitting_40 : decode cX2_findBestSitting 40 = .ok (.ifCond .eq 60, 3) := by decide +kernel
theorem dX2_findBestSitting_43 : decode cX2_findBestSitting 43 = .ok (.aload_n 0, 1) := by decide +kernel
theorem dX2_findBestSitting_44 : decode cX2_findBestSitting 44 = .ok (.iload_n 1, 1) := by decide +kernel
theorem dX2_findBestSitting_45 : decode cX2_findBestSitting 45 = .ok (.invokevirtual 306, 3) := by decide +kernel
theorem dX2_findBestSitting_48 : decode cX2_findBestSitting 48 = .ok (.istore 5, 2) := by decide +kernel
theorem dX2_findBestSitting_50 : decode cX2_findBestSitting 50 = .ok (.iload 4, 2) := by decide +kernel
theorem dX2_findBestSitting_52 : decode cX2_findBestSitting 52 = .ok (.ifCond .eq 9, 3) := by decide +kernel
theorem dX2_findBestSitting_55 : decode cX2_findBestSitting 55 = .ok (.iload 5, 2) := by decide +kernel
theorem dX2_findBestSitting_57 : decode cX2_findBestSitting 57 = .ok (.iload_n 2, 1) := by decide +kernel
theorem dX2_findBestSitting_58 : decode cX2_findBestSitting 58 = .ok (.if_icmp .le 24, 3) := by decide +kernel
theorem dX2_findBestSitting_61 : decode cX2_findBestSitting 61 = .ok (.iload 5, 2) := by decide +kernel
theorem dX2_findBestSitting_63 : decode cX2_findBestSitting 63 = .ok (.istore_n 2, 1) := by decide +kernel
theorem dX2_findBestSitting_64 : decode cX2_findBestSitting 64 = .ok (.aload_n 0, 1) := by decide +kernel
theorem dX2_findBestSitting_65 : decode cX2_findBestSitting 65 = .ok (.getfield 32, 3) := by decide +kernel
theorem dX2_findBestSitting_68 : decode cX2_findBestSitting 68 = .ok (.iconst 0, 1) := by decide +kernel
theorem dX2_findBestSitting_69 : decode cX2_findBestSitting 69 = .ok (.aload_n 0, 1) := by decide +kernel
theorem dX2_findBestSitting_70 : decode cX2_findBestSitting 70 = .ok (.getfield 36, 3) := by decide +kernel
theorem dX2_findBestSitting_73 : decode cX2_findBestSitting 73 = .ok (.iconst 0, 1) := by decide +kernel
theorem dX2_findBestSitting_74 : decode cX2_findBestSitting 74 = .ok (.aload_n 0, 1) := by decide +kernel
theorem dX2_findBestSitting_75 : decode cX2_findBestSitting 75 = .ok (.getfield 32, 3) := by decide +kernel
theorem dX2_findBestSitting_78 : decode cX2_findBestSitting 78 = .ok (.arraylength, 1) := by decide +kernel
theorem dX2_findBestSitting_79 : decode cX2_findBestSitting 79 = .ok (.invokestatic 276, 3) := by decide +kernel
theorem dX2_findBestSitting_82 : decode cX2_findBestSitting 82 = .ok (.aload_n 0, 1) := by decide +kernel
theorem dX2_findBestSitting_83 : decode cX2_findBestSitting 83 = .ok (.aload_n 0, 1) := by decide +kernel
theorem dX2_findBestSitting_84 : decode cX2_findBestSitting 84 = .ok (.getfield 12, 3) := by decide +kernel
theorem dX2_findBestSitting_87 : decode cX2_findBestSitting 87 = .ok (.getfield 110, 3) := by decide +kernel
theorem dX2_findBestSitting_90 : decode cX2_findBestSitting 90 = .ok (.invokevirtual 309, 3) := by decide +kernel
theorem dX2_findBestSitting_93 : decode cX2_findBestSitting 93 = .ok (.istore_n 3, 1) := by decide +kernel
theorem dX2_findBestSitting_94 : decode cX2_findBestSitting 94 = .ok (.iinc 4 1, 3) := by decide +kernel
theorem dX2_findBestSitting_97 : decode cX2_findBestSitting 97 = .ok (.goto (-66), 3) := by decide +kernel
theorem dX2_findBestSitting_100 : decode cX2_findBestSitting 100 = .ok (.iload_n 2, 1) := by decide +kernel
theorem dX2_findBestSitting_101 : decode cX2_findBestSitting 101 = .ok (.ireturn, 1) := by decide +kernel
theorem dX2_joyBySitting_0 : decode cX2_joyBySitting 0 = .ok (.aload_n 0, 1) := by decide +kernel
theorem dX2_joyBySitting_1 : decode cX2_joyBySitting 1 = .ok (.getfield 16, 3) := by decide +kernel
theorem dX2_joyBySitting_4 : decode cX2_joyBySitting 4 = .ok (.aload_n 0, 1) := by decide +kernel
theorem dX2_joyBySitting_5 : decode cX2_joyBySitting 5 = .ok (.getfield 12, 3) := by decide +kernel
theorem dX2_joyBySitting_8 : decode cX2_joyBySitting 8 = .ok (.invokevirtual 59, 3) := by decide +kernel
theorem dX2_joyBySitting_11 : decode cX2_joyBySitting 11 = .ok (.aload_n 0, 1) := by decide +kernel
theorem dX2_joyBySitting_12 : decode cX2_joyBySitting 12 = .ok (.getfield 16, 3) := by decide +kernel
theorem dX2_joyBySitting_15 : decode cX2_joyBySitting 15 = .ok (.invokevirtual 312, 3) := by decide +kernel
theorem dX2_joyBySitting_18 : decode cX2_joyBySitting 18 = .ok (.iconst 0, 1) := by decide +kernel
theorem dX2_joyBySitting_19 : decode cX2_joyBySitting 19 = .ok (.istore_n 2, 1) := by decide +kernel
theorem dX2_joyBySitting_20 : decode cX2_joyBySitting 20 = .ok (.iload_n 2, 1) := by decide +kernel
theorem dX2_joyBySitting_21 : decode cX2_joyBySitting 21 = .ok (.aload_n 0, 1) := by decide +kernel
theorem dX2_joyBySitting_22 : decode cX2_joyBySitting 22 = .ok (.getfield 16, 3) := by decide +kernel
theorem dX2_joyBySitting_25 : decode cX2_joyBySitting 25 = .ok (.getfield 110, 3) := by decide +kernel
theorem dX2_joyBySitting_28 : decode cX2_joyBySitting 28 = .ok (.if_icmp .ge 55, 3) := by decide +kernel
theorem dX2_joyBySitting_31 : decode cX2_joyBySitting 31 = .ok (.aload_n 0, 1) := by decide +kernel
theorem dX2_joyBySitting_32 : decode cX2_joyBySitting 32 = .ok (.getfield 16, 3) := by decide +kernel
theorem dX2_joyBySitting_35 : decode cX2_joyBySitting 35 = .ok (.getfield 71, 3) := by decide +kernel
theorem dX2_joyBySitting_38 : decode cX2_joyBySitting 38 = .ok (.iload_n 2, 1) := by decide +kernel
theorem dX2_joyBySitting_39 : decode cX2_joyBySitting 39 = .ok (.aload_n 0, 1) := by decide +kernel
theorem dX2_joyBySitting_40 : decode cX2_joyBySitting 40 = .ok (.getfield 12, 3) := by decide +kernel
theorem dX2_joyBySitting_43 : decode cX2_joyBySitting 43 = .ok (.getfield 71, 3) := by decide +kernel
theorem dX2_joyBySitting_46 : decode cX2_joyBySitting 46 = .ok (.aload_n 0, 1) := by decide +kernel
theorem dX2_joyBySitting_47 : decode cX2_joyBySitting 47 = .ok (.getfield 32, 3) := by decide +kernel
theorem dX2_joyBySitting_50 : decode cX2_joyBySitting 50 = .ok (.iload_n 2, 1) := by decide +kernel
theorem dX2_joyBySitting_51 : decode cX2_joyBySitting 51 = .ok (.iaload, 1) := by decide +kernel
theorem dX2_joyBySitting_52 : decode cX2_joyBySitting 52 = .ok (.iaload, 1) := by decide +kernel
theorem dX2_joyBySitting_53 : decode cX2_joyBySitting 53 = .ok (.iastore, 1) := by decide +kernel
theorem dX2_joyBySitting_54 : decode cX2_joyBySitting 54 = .ok (.aload_n 0, 1) := by decide +kernel
theorem dX2_joyBySitting_55 : decode cX2_joyBySitting 55 = .ok (.getfield 16, 3) := by decide +kernel
theorem dX2_joyBySitting_58 : decode cX2_joyBySitting 58 = .ok (.getfield 74, 3) := by decide +kernel
theorem dX2_joyBySitting_61 : decode cX2_joyBySitting 61 = .ok (.iload_n 2, 1) := by decide +kernel
theorem dX2_joyBySitting_62 : decode cX2_joyBySitting 62 = .ok (.aload_n 0, 1) := by decide +kernel
theorem dX2_joyBySitting_63 : decode cX2_joyBySitting 63 = .ok (.getfield 12, 3) := by decide +kernel
theorem dX2_joyBySitting_66 : decode cX2_joyBySitting 66 = .ok (.getfield 74, 3) := by decide +kernel
theorem dX2_joyBySitting_69 : decode cX2_joyBySitting 69 = .ok (.aload_n 0, 1) := by decide +kernel
theorem dX2_joyBySitting_70 : decode cX2_joyBySitting 70 = .ok (.getfield 32, 3) := by decide +kernel
theorem dX2_joyBySitting_73 : decode cX2_joyBySitting 73 = .ok (.iload_n 2, 1) := by decide +kernel
theorem dX2_joyBySitting_74 : decode cX2_joyBySitting 74 = .ok (.iaload, 1) := by decide +kernel
theorem dX2_joyBySitting_75 : decode cX2_joyBySitting 75 = .ok (.iaload, 1) := by decide +kernel
theorem dX2_joyBySitting_76 : decode cX2_joyBySitting 76 = .ok (.iastore, 1) := by decide +kernel
theorem dX2_joyBySitting_77 : decode cX2_joyBySitting 77 = .ok (.iinc 2 1, 3) := by decide +kernel
theorem dX2_joyBySitting_80 : decode cX2_joyBySitting 80 = .ok (.goto (-60), 3) := by decide +kernel
theorem dX2_joyBySitting_83 : decode cX2_joyBySitting 83 = .ok (.aload_n 0, 1) := by decide +kernel
theorem dX2_joyBySitting_84 : decode cX2_joyBySitting 84 = .ok (.getfield 16, 3) := by decide +kernel
theorem dX2_joyBySitting_87 : decode cX2_joyBySitting 87 = .ok (.iload_n 1, 1) := by decide +kernel
theorem dX2_joyBySitting_88 : decode cX2_joyBySitting 88 = .ok (.invokevirtual 142, 3) := by decide +kernel
theorem dX2_joyBySitting_91 : decode cX2_joyBySitting 91 = .ok (.pop, 1) := by decide +kernel
theorem dX2_joyBySitting_92 : decode cX2_joyBySitting 92 = .ok (.aload_n 0, 1) := by decide +kernel
theorem dX2_joyBySitting_93 : decode cX2_joyBySitting 93 = .ok (.getfield 16, 3) := by decide +kernel
theorem dX2_joyBySitting_96 : decode cX2_joyBySitting 96 = .ok (.invokevirtual 153, 3) := by decide +kernel
theorem dX2_joyBySitting_99 : decode cX2_joyBySitting 99 = .ok (.ireturn, 1) := by decide +kernel
theorem dX2_nextSitting_0 : decode cX2_nextSitting 0 = .ok (.iload_n 1, 1) := by decide +kernel
theorem dX2_nextSitting_1 : decode cX2_nextSitting 1 = .ok (.iconst 2, 1) := by decide +kernel
theorem dX2_nextSitting_2 : decode cX2_nextSitting 2 = .ok (.isub, 1) := by decide +kernel
theorem dX2_nextSitting_3 : decode cX2_nextSitting 3 = .ok (.istore_n 2, 1) := by decide +kernel
theorem dX2_nextSitting_4 : decode cX2_nextSitting 4 = .ok (.iload_n 2, 1) := by decide +kernel
theorem dX2_nextSitting_5 : decode cX2_nextSitting 5 = .ok (.ifCond .lt 26, 3) := by decide +kernel
theorem dX2_nextSitting_8 : decode cX2_nextSitting 8 = .ok (.aload_n 0, 1) := by decide +kernel
theorem dX2_nextSitting_9 : decode cX2_nextSitting 9 = .ok (.getfield 32, 3) := by decide +kernel
theorem dX2_nextSitting_12 : decode cX2_nextSitting 12 = .ok (.iload_n 2, 1) := by decide +kernel
theorem dX2_nextSitting_13 : decode cX2_nextSitting 13 = .ok (.iaload, 1) := by decide +kernel
theorem dX2_nextSitting_14 : decode cX2_nextSitting 14 = .ok (.aload_n 0, 1) := by decide +kernel
theorem dX2_nextSitting_15 : decode cX2_nextSitting 15 = .ok (.getfield 32, 3) := by decide +kernel
theorem dX2_nextSitting_18 : decode cX2_nextSitting 18 = .ok (.iload_n 2, 1) := by decide +kernel
theorem dX2_nextSitting_19 : decode cX2_nextSitting 19 = .ok (.iconst 1, 1) := by decide +kernel
theorem dX2_nextSitting_20 : decode cX2_nextSitting 20 = .ok (.iadd, 1) := by decide +kernel
theorem dX2_nextSitting_21 : decode cX2_nextSitting 21 = .ok (.iaload, 1) := by decide +kernel
theorem dX2_nextSitting_22 : decode cX2_nextSitting 22 = .ok (.if_icmp .le 9, 3) := by decide +kernel
theorem dX2_nextSitting_25 : decode cX2_nextSitting 25 = .ok (.iinc 2 (-1), 3) := by decide +kernel
theorem dX2_nextSitting_28 : decode cX2_nextSitting 28 = .ok (.goto (-24), 3) := by decide +kernel
theorem dX2_nextSitting_31 : decode cX2_nextSitting 31 = .ok (.iload_n 2, 1) := by decide +kernel
theorem dX2_nextSitting_32 : decode cX2_nextSitting 32 = .ok (.ifCond .ge 5, 3) := by decide +kernel
theorem dX2_nextSitting_35 : decode cX2_nextSitting 35 = .ok (.iconst 0, 1) := by decide +kernel
theorem dX2_nextSitting_36 : decode cX2_nextSitting 36 = .ok (.ireturn, 1) := by decide +kernel
theorem dX2_nextSitting_37 : decode cX2_nextSitting 37 = .ok (.iload_n 1, 1) := by decide +kernel
theorem dX2_nextSitting_38 : decode cX2_nextSitting 38 = .ok (.iconst 1, 1) := by decide +kernel
theorem dX2_nextSitting_39 : decode cX2_nextSitting 39 = .ok (.isub, 1) := by decide +kernel
theorem dX2_nextSitting_40 : decode cX2_nextSitting 40 = .ok (.istore_n 3, 1) := by decide +kernel
theorem dX2_nextSitting_41 : decode cX2_nextSitting 41 = .ok (.iload_n 3, 1) := by decide +kernel
theorem dX2_nextSitting_42 : decode cX2_nextSitting 42 = .ok (.iload_n 2, 1) := by decide +kernel
theorem dX2_nextSitting_43 : decode cX2_nextSitting 43 = .ok (.if_icmp .le 24, 3) := by decide +kernel
theorem dX2_nextSitting_46 : decode cX2_nextSitting 46 = .ok (.aload_n 0, 1) := by decide +kernel
theorem dX2_nextSitting_47 : decode cX2_nextSitting 47 = .ok (.getfield 32, 3) := by decide +kernel
theorem dX2_nextSitting_50 : decode cX2_nextSitting 50 = .ok (.iload_n 3, 1) := by decide +kernel
theorem dX2_nextSitting_51 : decode cX2_nextSitting 51 = .ok (.iaload, 1) := by decide +kernel
theorem dX2_nextSitting_52 : decode cX2_nextSitting 52 = .ok (.aload_n 0, 1) := by decide +kernel
theorem dX2_nextSitting_53 : decode cX2_nextSitting 53 = .ok (.getfield 32, 3) := by decide +kernel
theorem dX2_nextSitting_56 : decode cX2_nextSitting 56 = .ok (.iload_n 2, 1) := by decide +kernel
theorem dX2_nextSitting_57 : decode cX2_nextSitting 57 = .ok (.iaload, 1) := by decide +kernel
theorem dX2_nextSitting_58 : decode cX2_nextSitting 58 = .ok (.if_icmp .ge 9, 3) := by decide +kernel
theorem dX2_nextSitting_61 : decode cX2_nextSitting 61 = .ok (.iinc 3 (-1), 3) := by decide +kernel
theorem dX2_nextSitting_64 : decode cX2_nextSitting 64 = .ok (.goto (-23), 3) := by decide +kernel
theorem dX2_nextSitting_67 : decode cX2_nextSitting 67 = .ok (.aload_n 0, 1) := by decide +kernel
theorem dX2_nextSitting_68 : decode cX2_nextSitting 68 = .ok (.iload_n 2, 1) := by decide +kernel
theorem dX2_nextSitting_69 : decode cX2_nextSitting 69 = .ok (.iload_n 3, 1) := by decide +kernel
theorem dX2_nextSitting_70 : decode cX2_nextSitting 70 = .ok (.invokevirtual 315, 3) := by decide +kernel
theorem dX2_nextSitting_73 : decode cX2_nextSitting 73 = .ok (.iload_n 2, 1) := by decide +kernel
theorem dX2_nextSitting_74 : decode cX2_nextSitting 74 = .ok (.iconst 1, 1) := by decide +kernel
theorem dX2_nextSitting_75 : decode cX2_nextSitting 75 = .ok (.iadd, 1) := by decide +kernel
theorem dX2_nextSitting_76 : decode cX2_nextSitting 76 = .ok (.istore 4, 2) := by decide +kernel
theorem dX2_nextSitting_78 : decode cX2_nextSitting 78 = .ok (.iload_n 1, 1) := by decide +kernel
theorem dX2_nextSitting_79 : decode cX2_nextSitting 79 = .ok (.iconst 1, 1) := by decide +kernel
theorem dX2_nextSitting_80 : decode cX2_nextSitting 80 = .ok (.isub, 1) := by decide +kernel
theorem dX2_nextSitting_81 : decode cX2_nextSitting 81 = .ok (.istore 5, 2) := by decide +kernel
theorem dX2_nextSitting_83 : decode cX2_nextSitting 83 = .ok (.iload 4, 2) := by decide +kernel
theorem dX2_nextSitting_85 : decode cX2_nextSitting 85 = .ok (.iload 5, 2) := by decide +kernel
theorem dX2_nextSitting_87 : decode cX2_nextSitting 87 = .ok (.if_icmp .ge 20, 3) := by decide +kernel
theorem dX2_nextSitting_90 : decode cX2_nextSitting 90 = .ok (.aload_n 0, 1) := by decide +kernel
theorem dX2_nextSitting_91 : decode cX2_nextSitting 91 = .ok (.iload 4, 2) := by decide +kernel
theorem dX2_nextSitting_93 : decode cX2_nextSitting 93 = .ok (.iload 5, 2) := by decide +kernel
theorem dX2_nextSitting_95 : decode cX2_nextSitting 95 = .ok (.invokevirtual 315, 3) := by decide +kernel
theorem dX2_nextSitting_98 : decode cX2_nextSitting 98 = .ok (.iinc 4 1, 3) := by decide +kernel
theorem dX2_nextSitting_101 : decode cX2_nextSitting 101 = .ok (.iinc 5 (-1), 3) := by decide +kernel
theorem dX2_nextSitting_104 : decode cX2_nextSitting 104 = .ok (.goto (-21), 3) := by decide +kernel
theorem dX2_nextSitting_107 : decode cX2_nextSitting 107 = .ok (.iconst 1, 1) := by decide +kernel
theorem dX2_nextSitting_108 : decode cX2_nextSitting 108 = .ok (.ireturn, 1) := by decide +kernel
theorem dX2_exchangeSitting_0 : decode cX2_exchangeSitting 0 = .ok (.aload_n 0, 1) := by decide +kernel
theorem dX2_exchangeSitting_1 : decode cX2_exchangeSitting 1 = .ok (.getfield 32, 3) := by decide +kernel
theorem dX2_exchangeSitting_4 : decode cX2_exchangeSitting 4 = .ok (.iload_n 1, 1) := by decide +kernel
theorem dX2_exchangeSitting_5 : decode cX2_exchangeSitting 5 = .ok (.iaload, 1) := by decide +kernel
theorem dX2_exchangeSitting_6 : decode cX2_exchangeSitting 6 = .ok (.istore_n 3, 1) := by decide +kernel
theorem dX2_exchangeSitting_7 : decode cX2_exchangeSitting 7 = .ok (.aload_n 0, 1) := by decide +kernel
theorem dX2_exchangeSitting_8 : decode cX2_exchangeSitting 8 = .ok (.getfield 32, 3) := by decide +kernel
theorem dX2_exchangeSitting_11 : decode cX2_exchangeSitting 11 = .ok (.iload_n 1, 1) := by decide +kernel
theorem dX2_exchangeSitting_12 : decode cX2_exchangeSitting 12 = .ok (.aload_n 0, 1) := by decide +kernel
theorem dX2_exchangeSitting_13 : decode cX2_exchangeSitting 13 = .ok (.getfield 32, 3) := by decide +kernel
theorem dX2_exchangeSitting_16 : decode cX2_exchangeSitting 16 = .ok (.iload_n 2, 1) := by decide +kernel
theorem dX2_exchangeSitting_17 : decode cX2_exchangeSitting 17 = .ok (.iaload, 1) := by decide +kernel
theorem dX2_exchangeSitting_18 : decode cX2_exchangeSitting 18 = .ok (.iastore, 1) := by decide +kernel
theorem dX2_exchangeSitting_19 : decode cX2_exchangeSitting 19 = .ok (.aload_n 0, 1) := by decide +kernel
theorem dX2_exchangeSitting_20 : decode cX2_exchangeSitting 20 = .ok (.getfield 32, 3) := by decide +kernel
theorem dX2_exchangeSitting_23 : decode cX2_exchangeSitting 23 = .ok (.iload_n 2, 1) := by decide +kernel
theorem dX2_exchangeSitting_24 : decode cX2_exchangeSitting 24 = .ok (.iload_n 3, 1) := by decide +kernel
theorem dX2_exchangeSitting_25 : decode cX2_exchangeSitting 25 = .ok (.iastore, 1) := by decide +kernel
theorem dX2_exchangeSitting_26 : decode cX2_exchangeSitting 26 = .ok (.return_, 1) := by decide +kernel
theorem dX2_joyFromUpright_0 : decode cX2_joyFromUpright 0 = .ok (.aload_n 0, 1) := by decide +kernel
theorem dX2_joyFromUpright_1 : decode cX2_joyFromUpright 1 = .ok (.getfield 16, 3) := by decide +kernel
theorem dX2_joyFromUpright_4 : decode cX2_joyFromUpright 4 = .ok (.aload_n 0, 1) := by decide +kernel
theorem dX2_joyFromUpright_5 : decode cX2_joyFromUpright 5 = .ok (.getfield 12, 3) := by decide +kernel
theorem dX2_joyFromUpright_8 : decode cX2_joyFromUpright 8 = .ok (.invokevirtual 59, 3) := by decide +kernel
theorem dX2_joyFromUpright_11 : decode cX2_joyFromUpright 11 = .ok (.aload_n 0, 1) := by decide +kernel
theorem dX2_joyFromUpright_12 : decode cX2_joyFromUpright 12 = .ok (.getfield 16, 3) := by decide +kernel
theorem dX2_joyFromUpright_15 : decode cX2_joyFromUpright 15 = .ok (.invokevirtual 312, 3) := by decide +kernel
theorem dX2_joyFromUpright_18 : decode cX2_joyFromUpright 18 = .ok (.aload_n 0, 1) := by decide +kernel
theorem dX2_joyFromUpright_19 : decode cX2_joyFromUpright 19 = .ok (.getfield 16, 3) := by decide +kernel
theorem dX2_joyFromUpright_22 : decode cX2_joyFromUpright 22 = .ok (.iload_n 1, 1) := by decide +kernel
theorem dX2_joyFromUpright_23 : decode cX2_joyFromUpright 23 = .ok (.invokevirtual 142, 3) := by decide +kernel
theorem dX2_joyFromUpright_26 : decode cX2_joyFromUpright 26 = .ok (.pop, 1) := by decide +kernel
theorem dX2_joyFromUpright_27 : decode cX2_joyFromUpright 27 = .ok (.aload_n 0, 1) := by decide +kernel
theorem dX2_joyFromUpright_28 : decode cX2_joyFromUpright 28 = .ok (.getfield 16, 3) := by decide +kernel
theorem dX2_joyFromUpright_31 : decode cX2_joyFromUpright 31 = .ok (.invokevirtual 153, 3) := by decide +kernel
theorem dX2_joyFromUpright_34 : decode cX2_joyFromUpright 34 = .ok (.ireturn, 1) := by decide +kernel
theorem dX2_joyOfChange_0 : decode cX2_joyOfChange 0 = .ok (.aload_n 0, 1) := by decide +kernel
theorem dX2_joyOfChange_1 : decode cX2_joyOfChange 1 = .ok (.getfield 16, 3) := by decide +kernel
theorem dX2_joyOfChange_4 : decode cX2_joyOfChange 4 = .ok (.aload_n 0, 1) := by decide +kernel
theorem dX2_joyOfChange_5 : decode cX2_joyOfChange 5 = .ok (.getfield 12, 3) := by decide +kernel
theorem dX2_joyOfChange_8 : decode cX2_joyOfChange 8 = .ok (.invokevirtual 59, 3) := by decide +kernel
theorem dX2_joyOfChange_11 : decode cX2_joyOfChange 11 = .ok (.aload_n 0, 1) := by decide +kernel
theorem dX2_joyOfChange_12 : decode cX2_joyOfChange 12 = .ok (.getfield 16, 3) := by decide +kernel
theorem dX2_joyOfChange_15 : decode cX2_joyOfChange 15 = .ok (.iload_n 1, 1) := by decide +kernel
theorem dX2_joyOfChange_16 : decode cX2_joyOfChange 16 = .ok (.iload_n 2, 1) := by decide +kernel
theorem dX2_joyOfChange_17 : decode cX2_joyOfChange 17 = .ok (.invokevirtual 125, 3) := by decide +kernel
theorem dX2_joyOfChange_20 : decode cX2_joyOfChange 20 = .ok (.pop, 1) := by decide +kernel
theorem dX2_joyOfChange_21 : decode cX2_joyOfChange 21 = .ok (.aload_n 0, 1) := by decide +kernel
theorem dX2_joyOfChange_22 : decode cX2_joyOfChange 22 = .ok (.getfield 16, 3) := by decide +kernel
theorem dX2_joyOfChange_25 : decode cX2_joyOfChange 25 = .ok (.iload_n 3, 1) := by decide +kernel
theorem dX2_joyOfChange_26 : decode cX2_joyOfChange 26 = .ok (.invokevirtual 142, 3) := by decide +kernel
theorem dX2_joyOfChange_29 : decode cX2_joyOfChange 29 = .ok (.pop, 1) := by decide +kernel
theorem dX2_joyOfChange_30 : decode cX2_joyOfChange 30 = .ok (.aload_n 0, 1) := by decide +kernel
theorem dX2_joyOfChange_31 : decode cX2_joyOfChange 31 = .ok (.getfield 16, 3) := by decide +kernel
theorem dX2_joyOfChange_34 : decode cX2_joyOfChange 34 = .ok (.invokevirtual 153, 3) := by decide +kernel
theorem dX2_joyOfChange_37 : decode cX2_joyOfChange 37 = .ok (.ireturn, 1) := by decide +kernel
theorem dX2_nobodyTips_0 : decode cX2_nobodyTips 0 = .ok (.aload_n 0, 1) := by decide +kernel
theorem dX2_nobodyTips_1 : decode cX2_nobodyTips 1 = .ok (.iload_n 1, 1) := by decide +kernel
theorem dX2_nobodyTips_2 : decode cX2_nobodyTips 2 = .ok (.iload_n 2, 1) := by decide +kernel
theorem dX2_nobodyTips_3 : decode cX2_nobodyTips 3 = .ok (.invokevirtual 148, 3) := by decide +kernel
theorem dX2_nobodyTips_6 : decode cX2_nobodyTips 6 = .ok (.aload_n 0, 1) := by decide +kernel
theorem dX2_nobodyTips_7 : decode cX2_nobodyTips 7 = .ok (.getfield 16, 3) := by decide +kernel
theorem dX2_nobodyTips_10 : decode cX2_nobodyTips 10 = .ok (.invokevirtual 131, 3) := by decide +kernel
theorem dX2_nobodyTips_13 : decode cX2_nobodyTips 13 = .ok (.ifCond .ne 7, 3) := by decide +kernel
theorem dX2_nobodyTips_16 : decode cX2_nobodyTips 16 = .ok (.iconst 1, 1) := by decide +kernel
theorem dX2_nobodyTips_17 : decode cX2_nobodyTips 17 = .ok (.goto 4, 3) := by decide +kernel
theorem dX2_nobodyTips_20 : decode cX2_nobodyTips 20 = .ok (.iconst 0, 1) := by decide +kernel
theorem dX2_nobodyTips_21 : decode cX2_nobodyTips 21 = .ok (.ireturn, 1) := by decide +kernel
theorem dX2_joyAtHour_0 : decode cX2_joyAtHour 0 = .ok (.aload_n 0, 1) := by decide +kernel
theorem dX2_joyAtHour_1 : decode cX2_joyAtHour 1 = .ok (.getfield 16, 3) := by decide +kernel
theorem dX2_joyAtHour_4 : decode cX2_joyAtHour 4 = .ok (.aload_n 0, 1) := by decide +kernel
theorem dX2_joyAtHour_5 : decode cX2_joyAtHour 5 = .ok (.getfield 12, 3) := by decide +kernel
theorem dX2_joyAtHour_8 : decode cX2_joyAtHour 8 = .ok (.invokevirtual 59, 3) := by decide +kernel
theorem dX2_joyAtHour_11 : decode cX2_joyAtHour 11 = .ok (.aload_n 0, 1) := by decide +kernel
theorem dX2_joyAtHour_12 : decode cX2_joyAtHour 12 = .ok (.getfield 16, 3) := by decide +kernel
theorem dX2_joyAtHour_15 : decode cX2_joyAtHour 15 = .ok (.iload_n 1, 1) := by decide +kernel
theorem dX2_joyAtHour_16 : decode cX2_joyAtHour 16 = .ok (.putfield 119, 3) := by decide +kernel
theorem dX2_joyAtHour_19 : decode cX2_joyAtHour 19 = .ok (.aload_n 0, 1) := by decide +kernel
theorem dX2_joyAtHour_20 : decode cX2_joyAtHour 20 = .ok (.getfield 16, 3) := by decide +kernel
theorem dX2_joyAtHour_23 : decode cX2_joyAtHour 23 = .ok (.iload_n 2, 1) := by decide +kernel
theorem dX2_joyAtHour_24 : decode cX2_joyAtHour 24 = .ok (.invokevirtual 142, 3) := by decide +kernel
theorem dX2_joyAtHour_27 : decode cX2_joyAtHour 27 = .ok (.pop, 1) := by decide +kernel
theorem dX2_joyAtHour_28 : decode cX2_joyAtHour 28 = .ok (.aload_n 0, 1) := by decide +kernel
theorem dX2_joyAtHour_29 : decode cX2_joyAtHour 29 = .ok (.getfield 16, 3) := by decide +kernel
theorem dX2_joyAtHour_32 : decode cX2_joyAtHour 32 = .ok (.invokevirtual 153, 3) := by decide +kernel
theorem dX2_joyAtHour_35 : decode cX2_joyAtHour 35 = .ok (.ireturn, 1) := by decide +kernel
theorem dX2_neitherWouldRather_0 : decode cX2_neitherWouldRather 0 = .ok (.aload_n 0, 1) := by decide +kernel
theorem dX2_neitherWouldRather_1 : decode cX2_neitherWouldRather 1 = .ok (.iload_n 1, 1) := by decide +kernel
theorem dX2_neitherWouldRather_2 : decode cX2_neitherWouldRather 2 = .ok (.iload_n 2, 1) := by decide +kernel
theorem dX2_neitherWouldRather_3 : decode cX2_neitherWouldRather 3 = .ok (.iload_n 3, 1) := by decide +kernel
theorem dX2_neitherWouldRather_4 : decode cX2_neitherWouldRather 4 = .ok (.iload_n 1, 1) := by decide +kernel
theorem dX2_neitherWouldRather_5 : decode cX2_neitherWouldRather 5 = .ok (.invokevirtual 318, 3) := by decide +kernel
theorem dX2_neitherWouldRather_8 : decode cX2_neitherWouldRather 8 = .ok (.aload_n 0, 1) := by decide +kernel
theorem dX2_neitherWouldRather_9 : decode cX2_neitherWouldRather 9 = .ok (.iload_n 1, 1) := by decide +kernel
theorem dX2_neitherWouldRather_10 : decode cX2_neitherWouldRather 10 = .ok (.iconst 1, 1) := by decide +kernel
theorem dX2_neitherWouldRather_11 : decode cX2_neitherWouldRather 11 = .ok (.iload_n 2, 1) := by decide +kernel
theorem dX2_neitherWouldRather_12 : decode cX2_neitherWouldRather 12 = .ok (.isub, 1) := by decide +kernel
theorem dX2_neitherWouldRather_13 : decode cX2_neitherWouldRather 13 = .ok (.iload_n 3, 1) := by decide +kernel
theorem dX2_neitherWouldRather_14 : decode cX2_neitherWouldRather 14 = .ok (.iload_n 1, 1) := by decide +kernel
theorem dX2_neitherWouldRather_15 : decode cX2_neitherWouldRather 15 = .ok (.invokevirtual 318, 3) := by decide +kernel
theorem dX2_neitherWouldRather_18 : decode cX2_neitherWouldRather 18 = .ok (.if_icmp .lt 32, 3) := by decide +kernel
theorem dX2_neitherWouldRather_21 : decode cX2_neitherWouldRather 21 = .ok (.aload_n 0, 1) := by decide +kernel
theorem dX2_neitherWouldRather_22 : decode cX2_neitherWouldRather 22 = .ok (.iload_n 1, 1) := by decide +kernel
theorem dX2_neitherWouldRather_23 : decode cX2_neitherWouldRather 23 = .ok (.iload_n 2, 1) := by decide +kernel
theorem dX2_neitherWouldRather_24 : decode cX2_neitherWouldRather 24 = .ok (.iload_n 3, 1) := by decide +kernel
theorem dX2_neitherWouldRather_25 : decode cX2_neitherWouldRather 25 = .ok (.iload_n 1, 1) := by decide +kernel
theorem dX2_neitherWouldRather_26 : decode cX2_neitherWouldRather 26 = .ok (.iconst 1, 1) := by decide +kernel
theorem dX2_neitherWouldRather_27 : decode cX2_neitherWouldRather 27 = .ok (.iadd, 1) := by decide +kernel
theorem dX2_neitherWouldRather_28 : decode cX2_neitherWouldRather 28 = .ok (.invokevirtual 318, 3) := by decide +kernel
theorem dX2_neitherWouldRather_31 : decode cX2_neitherWouldRather 31 = .ok (.aload_n 0, 1) := by decide +kernel
theorem dX2_neitherWouldRather_32 : decode cX2_neitherWouldRather 32 = .ok (.iload_n 1, 1) := by decide +kernel
theorem dX2_neitherWouldRather_33 : decode cX2_neitherWouldRather 33 = .ok (.iload_n 2, 1) := by decide +kernel
theorem dX2_neitherWouldRather_34 : decode cX2_neitherWouldRather 34 = .ok (.iconst 1, 1) := by decide +kernel
theorem dX2_neitherWouldRather_35 : decode cX2_neitherWouldRather 35 = .ok (.iload_n 3, 1) := by decide +kernel
theorem dX2_neitherWouldRather_36 : decode cX2_neitherWouldRather 36 = .ok (.isub, 1) := by decide +kernel
theorem dX2_neitherWouldRather_37 : decode cX2_neitherWouldRather 37 = .ok (.iload_n 1, 1) := by decide +kernel
theorem dX2_neitherWouldRather_38 : decode cX2_neitherWouldRather 38 = .ok (.iconst 1, 1) := by decide +kernel
theorem dX2_neitherWouldRather_39 : decode cX2_neitherWouldRather 39 = .ok (.iadd, 1) := by decide +kernel
theorem dX2_neitherWouldRather_40 : decode cX2_neitherWouldRather 40 = .ok (.invokevirtual 318, 3) := by decide +kernel
theorem dX2_neitherWouldRather_43 : decode cX2_neitherWouldRather 43 = .ok (.if_icmp .lt 7, 3) := by decide +kernel
theorem dX2_neitherWouldRather_46 : decode cX2_neitherWouldRather 46 = .ok (.iconst 1, 1) := by decide +kernel
theorem dX2_neitherWouldRather_47 : decode cX2_neitherWouldRather 47 = .ok (.goto 4, 3) := by decide +kernel
theorem dX2_neitherWouldRather_50 : decode cX2_neitherWouldRather 50 = .ok (.iconst 0, 1) := by decide +kernel
theorem dX2_neitherWouldRather_51 : decode cX2_neitherWouldRather 51 = .ok (.ireturn, 1) := by decide +kernel
theorem dX2_joyOfChoice_0 : decode cX2_joyOfChoice 0 = .ok (.aload_n 0, 1) := by decide +kernel
theorem dX2_joyOfChoice_1 : decode cX2_joyOfChoice 1 = .ok (.getfield 16, 3) := by decide +kernel
theorem dX2_joyOfChoice_4 : decode cX2_joyOfChoice 4 = .ok (.getfield 77, 3) := by decide +kernel
theorem dX2_joyOfChoice_7 : decode cX2_joyOfChoice 7 = .ok (.iload_n 1, 1) := by decide +kernel
theorem dX2_joyOfChoice_8 : decode cX2_joyOfChoice 8 = .ok (.iload_n 2, 1) := by decide +kernel
theorem dX2_joyOfChoice_9 : decode cX2_joyOfChoice 9 = .ok (.aload_n 0, 1) := by decide +kernel
theorem dX2_joyOfChoice_10 : decode cX2_joyOfChoice 10 = .ok (.getfield 16, 3) := by decide +kernel
theorem dX2_joyOfChoice_13 : decode cX2_joyOfChoice 13 = .ok (.iload_n 1, 1) := by decide +kernel
theorem dX2_joyOfChoice_14 : decode cX2_joyOfChoice 14 = .ok (.invokevirtual 83, 3) := by decide +kernel
theorem dX2_joyOfChoice_17 : decode cX2_joyOfChoice 17 = .ok (.imul, 1) := by decide +kernel
theorem dX2_joyOfChoice_18 : decode cX2_joyOfChoice 18 = .ok (.iastore, 1) := by decide +kernel
theorem dX2_joyOfChoice_19 : decode cX2_joyOfChoice 19 = .ok (.aload_n 0, 1) := by decide +kernel
theorem dX2_joyOfChoice_20 : decode cX2_joyOfChoice 20 = .ok (.getfield 16, 3) := by decide +kernel
theorem dX2_joyOfChoice_23 : decode cX2_joyOfChoice 23 = .ok (.getfield 77, 3) := by decide +kernel
theorem dX2_joyOfChoice_26 : decode cX2_joyOfChoice 26 = .ok (.iload_n 1, 1) := by decide +kernel
theorem dX2_joyOfChoice_27 : decode cX2_joyOfChoice 27 = .ok (.iconst 1, 1) := by decide +kernel
theorem dX2_joyOfChoice_28 : decode cX2_joyOfChoice 28 = .ok (.iadd, 1) := by decide +kernel
theorem dX2_joyOfChoice_29 : decode cX2_joyOfChoice 29 = .ok (.iload_n 3, 1) := by decide +kernel
theorem dX2_joyOfChoice_30 : decode cX2_joyOfChoice 30 = .ok (.aload_n 0, 1) := by decide +kernel
theorem dX2_joyOfChoice_31 : decode cX2_joyOfChoice 31 = .ok (.getfield 16, 3) := by decide +kernel
theorem dX2_joyOfChoice_34 : decode cX2_joyOfChoice 34 = .ok (.iload_n 1, 1) := by decide +kernel
theorem dX2_joyOfChoice_35 : decode cX2_joyOfChoice 35 = .ok (.iconst 1, 1) := by decide +kernel
theorem dX2_joyOfChoice_36 : decode cX2_joyOfChoice 36 = .ok (.iadd, 1) := by decide +kernel
theorem dX2_joyOfChoice_37 : decode cX2_joyOfChoice 37 = .ok (.invokevirtual 83, 3) := by decide +kernel
theorem dX2_joyOfChoice_40 : decode cX2_joyOfChoice 40 = .ok (.imul, 1) := by decide +kernel
theorem dX2_joyOfChoice_41 : decode cX2_joyOfChoice 41 = .ok (.iastore, 1) := by decide +kernel
theorem dX2_joyOfChoice_42 : decode cX2_joyOfChoice 42 = .ok (.aload_n 0, 1) := by decide +kernel
theorem dX2_joyOfChoice_43 : decode cX2_joyOfChoice 43 = .ok (.getfield 16, 3) := by decide +kernel
theorem dX2_joyOfChoice_46 : decode cX2_joyOfChoice 46 = .ok (.iload 4, 2) := by decide +kernel
theorem dX2_joyOfChoice_48 : decode cX2_joyOfChoice 48 = .ok (.invokevirtual 322, 3) := by decide +kernel
theorem dX2_joyOfChoice_51 : decode cX2_joyOfChoice 51 = .ok (.ireturn, 1) := by decide +kernel
theorem dX2_addTip_0 : decode cX2_addTip 0 = .ok (.bipush 80, 2) := by decide +kernel
theorem dX2_addTip_2 : decode cX2_addTip 2 = .ok (.iload_n 1, 1) := by decide +kernel
theorem dX2_addTip_3 : decode cX2_addTip 3 = .ok (.isub, 1) := by decide +kernel
theorem dX2_addTip_4 : decode cX2_addTip 4 = .ok (.istore 4, 2) := by decide +kernel
theorem dX2_addTip_6 : decode cX2_addTip 6 = .ok (.iload 4, 2) := by decide +kernel
theorem dX2_addTip_8 : decode cX2_addTip 8 = .ok (.ifCond .lt 47, 3) := by decide +kernel
theorem dX2_addTip_11 : decode cX2_addTip 11 = .ok (.aload_n 0, 1) := by decide +kernel
theorem dX2_addTip_12 : decode cX2_addTip 12 = .ok (.getfield 39, 3) := by decide +kernel
theorem dX2_addTip_15 : decode cX2_addTip 15 = .ok (.iload 4, 2) := by decide +kernel
theorem dX2_addTip_17 : decode cX2_addTip 17 = .ok (.laload, 1) := by decide +kernel
theorem dX2_addTip_18 : decode cX2_addTip 18 = .ok (.lstore 5, 2) := by decide +kernel
theorem dX2_addTip_20 : decode cX2_addTip 20 = .ok (.aload_n 0, 1) := by decide +kernel
theorem dX2_addTip_21 : decode cX2_addTip 21 = .ok (.getfield 39, 3) := by decide +kernel
theorem dX2_addTip_24 : decode cX2_addTip 24 = .ok (.iload 4, 2) := by decide +kernel
theorem dX2_addTip_26 : decode cX2_addTip 26 = .ok (.lload 5, 2) := by decide +kernel
theorem dX2_addTip_28 : decode cX2_addTip 28 = .ok (.iload_n 2, 1) := by decide +kernel
theorem dX2_addTip_29 : decode cX2_addTip 29 = .ok (.i2l, 1) := by decide +kernel
theorem dX2_addTip_30 : decode cX2_addTip 30 = .ok (.lmul, 1) := by decide +kernel
theorem dX2_addTip_31 : decode cX2_addTip 31 = .ok (.lastore, 1) := by decide +kernel
theorem dX2_addTip_32 : decode cX2_addTip 32 = .ok (.aload_n 0, 1) := by decide +kernel
theorem dX2_addTip_33 : decode cX2_addTip 33 = .ok (.getfield 39, 3) := by decide +kernel
theorem dX2_addTip_36 : decode cX2_addTip 36 = .ok (.iload 4, 2) := by decide +kernel
theorem dX2_addTip_38 : decode cX2_addTip 38 = .ok (.iload_n 1, 1) := by decide +kernel
theorem dX2_addTip_39 : decode cX2_addTip 39 = .ok (.iadd, 1) := by decide +kernel
theorem dX2_addTip_40 : decode cX2_addTip 40 = .ok (.dup2, 1) := by decide +kernel
theorem dX2_addTip_41 : decode cX2_addTip 41 = .ok (.laload, 1) := by decide +kernel
theorem dX2_addTip_42 : decode cX2_addTip 42 = .ok (.lload 5, 2) := by decide +kernel
theorem dX2_addTip_44 : decode cX2_addTip 44 = .ok (.iload_n 3, 1) := by decide +kernel
theorem dX2_addTip_45 : decode cX2_addTip 45 = .ok (.i2l, 1) := by decide +kernel
theorem dX2_addTip_46 : decode cX2_addTip 46 = .ok (.lmul, 1) := by decide +kernel
theorem dX2_addTip_47 : decode cX2_addTip 47 = .ok (.ladd, 1) := by decide +kernel
theorem dX2_addTip_48 : decode cX2_addTip 48 = .ok (.lastore, 1) := by decide +kernel
theorem dX2_addTip_49 : decode cX2_addTip 49 = .ok (.iinc 4 (-1), 3) := by decide +kernel
theorem dX2_addTip_52 : decode cX2_addTip 52 = .ok (.goto (-46), 3) := by decide +kernel
theorem dX2_addTip_55 : decode cX2_addTip 55 = .ok (.return_, 1) := by decide +kernel
theorem dX2_partOf_0 : decode cX2_partOf 0 = .ok (.lload_n 0, 1) := by decide +kernel
theorem dX2_partOf_1 : decode cX2_partOf 1 = .ok (.lload_n 2, 1) := by decide +kernel
theorem dX2_partOf_2 : decode cX2_partOf 2 = .ok (.invokestatic 325, 3) := by decide +kernel
theorem dX2_partOf_5 : decode cX2_partOf 5 = .ok (.lstore 5, 2) := by decide +kernel
theorem dX2_partOf_7 : decode cX2_partOf 7 = .ok (.lload 5, 2) := by decide +kernel
theorem dX2_partOf_9 : decode cX2_partOf 9 = .ok (.lconst 0, 1) := by decide +kernel
theorem dX2_partOf_10 : decode cX2_partOf 10 = .ok (.lcmp, 1) := by decide +kernel
theorem dX2_partOf_11 : decode cX2_partOf 11 = .ok (.ifCond .ne 7, 3) := by decide +kernel
theorem dX2_partOf_14 : decode cX2_partOf 14 = .ok (.iload 4, 2) := by decide +kernel
theorem dX2_partOf_16 : decode cX2_partOf 16 = .ok (.i2l, 1) := by decide +kernel
theorem dX2_partOf_17 : decode cX2_partOf 17 = .ok (.lreturn, 1) := by decide +kernel
theorem dX2_partOf_18 : decode cX2_partOf 18 = .ok (.iload 4, 2) := by decide +kernel
theorem dX2_partOf_20 : decode cX2_partOf 20 = .ok (.ifCond .ne 10, 3) := by decide +kernel
theorem dX2_partOf_23 : decode cX2_partOf 23 = .ok (.lload_n 0, 1) := by decide +kernel
theorem dX2_partOf_24 : decode cX2_partOf 24 = .ok (.lload 5, 2) := by decide +kernel
theorem dX2_partOf_26 : decode cX2_partOf 26 = .ok (.ldiv, 1) := by decide +kernel
theorem dX2_partOf_27 : decode cX2_partOf 27 = .ok (.goto 7, 3) := by decide +kernel
theorem dX2_partOf_30 : decode cX2_partOf 30 = .ok (.lload_n 2, 1) := by decide +kernel
theorem dX2_partOf_31 : decode cX2_partOf 31 = .ok (.lload 5, 2) := by decide +kernel
theorem dX2_partOf_33 : decode cX2_partOf 33 = .ok (.ldiv, 1) := by decide +kernel
theorem dX2_partOf_34 : decode cX2_partOf 34 = .ok (.lreturn, 1) := by decide +kernel
theorem dX2_commonDivisor_0 : decode cX2_commonDivisor 0 = .ok (.lload_n 0, 1) := by decide +kernel
theorem dX2_commonDivisor_1 : decode cX2_commonDivisor 1 = .ok (.lstore 4, 2) := by decide +kernel
theorem dX2_commonDivisor_3 : decode cX2_commonDivisor 3 = .ok (.lload_n 2, 1) := by decide +kernel
theorem dX2_commonDivisor_4 : decode cX2_commonDivisor 4 = .ok (.lstore 6, 2) := by decide +kernel
theorem dX2_commonDivisor_6 : decode cX2_commonDivisor 6 = .ok (.iconst 0, 1) := by decide +kernel
theorem dX2_commonDivisor_7 : decode cX2_commonDivisor 7 = .ok (.istore 8, 2) := by decide +kernel
theorem dX2_commonDivisor_9 : decode cX2_commonDivisor 9 = .ok (.iload 8, 2) := by decide +kernel
theorem dX2_commonDivisor_11 : decode cX2_commonDivisor 11 = .ok (.bipush 100, 2) := by decide +kernel
theorem dX2_commonDivisor_13 : decode cX2_commonDivisor 13 = .ok (.if_icmp .ge 31, 3) := by decide +kernel
theorem dX2_commonDivisor_16 : decode cX2_commonDivisor 16 = .ok (.lload 6, 2) := by decide +kernel
theorem dX2_commonDivisor_18 : decode cX2_commonDivisor 18 = .ok (.lconst 0, 1) := by decide +kernel
theorem dX2_commonDivisor_19 : decode cX2_commonDivisor 19 = .ok (.lcmp, 1) := by decide +kernel
theorem dX2_commonDivisor_20 : decode cX2_commonDivisor 20 = .ok (.ifCond .eq 24, 3) := by decide +kernel
theorem dX2_commonDivisor_23 : decode cX2_commonDivisor 23 = .ok (.lload 4, 2) := by decide +kernel
theorem dX2_commonDivisor_25 : decode cX2_commonDivisor 25 = .ok (.lload 6, 2) := by decide +kernel
theorem dX2_commonDivisor_27 : decode cX2_commonDivisor 27 = .ok (.lrem, 1) := by decide +kernel
theorem dX2_commonDivisor_28 : decode cX2_commonDivisor 28 = .ok (.lstore 9, 2) := by decide +kernel
theorem dX2_commonDivisor_30 : decode cX2_commonDivisor 30 = .ok (.lload 6, 2) := by decide +kernel
theorem dX2_commonDivisor_32 : decode cX2_commonDivisor 32 = .ok (.lstore 4, 2) := by decide +kernel
theorem dX2_commonDivisor_34 : decode cX2_commonDivisor 34 = .ok (.lload 9, 2) := by decide +kernel
theorem dX2_commonDivisor_36 : decode cX2_commonDivisor 36 = .ok (.lstore 6, 2) := by decide +kernel
theorem dX2_commonDivisor_38 : decode cX2_commonDivisor 38 = .ok (.iinc 8 1, 3) := by decide +kernel
theorem dX2_commonDivisor_41 : decode cX2_commonDivisor 41 = .ok (.goto (-32), 3) := by decide +kernel
theorem dX2_commonDivisor_44 : decode cX2_commonDivisor 44 = .ok (.lload 4, 2) := by decide +kernel
theorem dX2_commonDivisor_46 : decode cX2_commonDivisor 46 = .ok (.lreturn, 1) := by decide +kernel
theorem dX2_kindsAsTold_0 : decode cX2_kindsAsTold 0 = .ok (.iconst 0, 1) := by decide +kernel
theorem dX2_kindsAsTold_1 : decode cX2_kindsAsTold 1 = .ok (.istore_n 3, 1) := by decide +kernel
theorem dX2_kindsAsTold_2 : decode cX2_kindsAsTold 2 = .ok (.iconst 0, 1) := by decide +kernel
theorem dX2_kindsAsTold_3 : decode cX2_kindsAsTold 3 = .ok (.istore 4, 2) := by decide +kernel
theorem dX2_kindsAsTold_5 : decode cX2_kindsAsTold 5 = .ok (.iload 4, 2) := by decide +kernel
theorem dX2_kindsAsTold_7 : decode cX2_kindsAsTold 7 = .ok (.bipush 8, 2) := by decide +kernel
theorem dX2_kindsAsTold_9 : decode cX2_kindsAsTold 9 = .ok (.if_icmp .ge 36, 3) := by decide +kernel
theorem dX2_kindsAsTold_12 : decode cX2_kindsAsTold 12 = .ok (.aload_n 0, 1) := by decide +kernel
theorem dX2_kindsAsTold_13 : decode cX2_kindsAsTold 13 = .ok (.aload_n 1, 1) := by decide +kernel
theorem dX2_kindsAsTold_14 : decode cX2_kindsAsTold 14 = .ok (.iload_n 2, 1) := by decide +kernel
theorem dX2_kindsAsTold_15 : decode cX2_kindsAsTold 15 = .ok (.iload 4, 2) := by decide +kernel
theorem dX2_kindsAsTold_17 : decode cX2_kindsAsTold 17 = .ok (.aload_n 0, 1) := by decide +kernel
theorem dX2_kindsAsTold_18 : decode cX2_kindsAsTold 18 = .ok (.getfield 12, 3) := by decide +kernel
theorem dX2_kindsAsTold_21 : decode cX2_kindsAsTold 21 = .ok (.getfield 74, 3) := by decide +kernel
theorem dX2_kindsAsTold_24 : decode cX2_kindsAsTold 24 = .ok (.iload_n 2, 1) := by decide +kernel
theorem dX2_kindsAsTold_25 : decode cX2_kindsAsTold 25 = .ok (.iaload, 1) := by decide +kernel
theorem dX2_kindsAsTold_26 : decode cX2_kindsAsTold 26 = .ok (.invokevirtual 329, 3) := by decide +kernel
theorem dX2_kindsAsTold_29 : decode cX2_kindsAsTold 29 = .ok (.ifCond .eq 10, 3) := by decide +kernel
theorem dX2_kindsAsTold_32 : decode cX2_kindsAsTold 32 = .ok (.iload_n 3, 1) := by decide +kernel
theorem dX2_kindsAsTold_33 : decode cX2_kindsAsTold 33 = .ok (.iconst 1, 1) := by decide +kernel
theorem dX2_kindsAsTold_34 : decode cX2_kindsAsTold 34 = .ok (.iload 4, 2) := by decide +kernel
theorem dX2_kindsAsTold_36 : decode cX2_kindsAsTold 36 = .ok (.ishl, 1) := by decide +kernel
theorem dX2_kindsAsTold_37 : decode cX2_kindsAsTold 37 = .ok (.ior, 1) := by decide +kernel
theorem dX2_kindsAsTold_38 : decode cX2_kindsAsTold 38 = .ok (.istore_n 3, 1) := by decide +kernel
theorem dX2_kindsAsTold_39 : decode cX2_kindsAsTold 39 = .ok (.iinc 4 1, 3) := by decide +kernel
theorem dX2_kindsAsTold_42 : decode cX2_kindsAsTold 42 = .ok (.goto (-37), 3) := by decide +kernel
theorem dX2_kindsAsTold_45 : decode cX2_kindsAsTold 45 = .ok (.iload_n 3, 1) := by decide +kernel
theorem dX2_kindsAsTold_46 : decode cX2_kindsAsTold 46 = .ok (.ireturn, 1) := by decide +kernel
theorem dX2_figuresAsTold_0 : decode cX2_figuresAsTold 0 = .ok (.iconst 0, 1) := by decide +kernel
theorem dX2_figuresAsTold_1 : decode cX2_figuresAsTold 1 = .ok (.istore_n 3, 1) := by decide +kernel
theorem dX2_figuresAsTold_2 : decode cX2_figuresAsTold 2 = .ok (.iconst 0, 1) := by decide +kernel
theorem dX2_figuresAsTold_3 : decode cX2_figuresAsTold 3 = .ok (.istore 4, 2) := by decide +kernel
theorem dX2_figuresAsTold_5 : decode cX2_figuresAsTold 5 = .ok (.iload 4, 2) := by decide +kernel
theorem dX2_figuresAsTold_7 : decode cX2_figuresAsTold 7 = .ok (.bipush 10, 2) := by decide +kernel
theorem dX2_figuresAsTold_9 : decode cX2_figuresAsTold 9 = .ok (.if_icmp .ge 36, 3) := by decide +kernel
theorem dX2_figuresAsTold_12 : decode cX2_figuresAsTold 12 = .ok (.aload_n 0, 1) := by decide +kernel
theorem dX2_figuresAsTold_13 : decode cX2_figuresAsTold 13 = .ok (.aload_n 1, 1) := by decide +kernel
theorem dX2_figuresAsTold_14 : decode cX2_figuresAsTold 14 = .ok (.iload_n 2, 1) := by decide +kernel
theorem dX2_figuresAsTold_15 : decode cX2_figuresAsTold 15 = .ok (.aload_n 0, 1) := by decide +kernel
theorem dX2_figuresAsTold_16 : decode cX2_figuresAsTold 16 = .ok (.getfield 12, 3) := by decide +kernel
theorem dX2_figuresAsTold_19 : decode cX2_figuresAsTold 19 = .ok (.getfield 71, 3) := by decide +kernel
theorem dX2_figuresAsTold_22 : decode cX2_figuresAsTold 22 = .ok (.iload_n 2, 1) := by decide +kernel
theorem dX2_figuresAsTold_23 : decode cX2_figuresAsTold 23 = .ok (.iaload, 1) := by decide +kernel
theorem dX2_figuresAsTold_24 : decode cX2_figuresAsTold 24 = .ok (.iload 4, 2) := by decide +kernel
theorem dX2_figuresAsTold_26 : decode cX2_figuresAsTold 26 = .ok (.invokevirtual 329, 3) := by decide +kernel
theorem dX2_figuresAsTold_29 : decode cX2_figuresAsTold 29 = .ok (.ifCond .eq 10, 3) := by decide +kernel
theorem dX2_figuresAsTold_32 : decode cX2_figuresAsTold 32 = .ok (.iload_n 3, 1) := by decide +kernel
theorem dX2_figuresAsTold_33 : decode cX2_figuresAsTold 33 = .ok (.iconst 1, 1) := by decide +kernel
theorem dX2_figuresAsTold_34 : decode cX2_figuresAsTold 34 = .ok (.iload 4, 2) := by decide +kernel
theorem dX2_figuresAsTold_36 : decode cX2_figuresAsTold 36 = .ok (.ishl, 1) := by decide +kernel
theorem dX2_figuresAsTold_37 : decode cX2_figuresAsTold 37 = .ok (.ior, 1) := by decide +kernel
theorem dX2_figuresAsTold_38 : decode cX2_figuresAsTold 38 = .ok (.istore_n 3, 1) := by decide +kernel
theorem dX2_figuresAsTold_39 : decode cX2_figuresAsTold 39 = .ok (.iinc 4 1, 3) := by decide +kernel
theorem dX2_figuresAsTold_42 : decode cX2_figuresAsTold 42 = .ok (.goto (-37), 3) := by decide +kernel
theorem dX2_figuresAsTold_45 : decode cX2_figuresAsTold 45 = .ok (.iload_n 3, 1) := by decide +kernel
theorem dX2_figuresAsTold_46 : decode cX2_figuresAsTold 46 = .ok (.ireturn, 1) := by decide +kernel
theorem dX2_wouldTipAsTold_0 : decode cX2_wouldTipAsTold 0 = .ok (.aload_n 0, 1) := by decide +kernel
theorem dX2_wouldTipAsTold_1 : decode cX2_wouldTipAsTold 1 = .ok (.getfield 16, 3) := by decide +kernel
theorem dX2_wouldTipAsTold_4 : decode cX2_wouldTipAsTold 4 = .ok (.aload_n 0, 1) := by decide +kernel
theorem dX2_wouldTipAsTold_5 : decode cX2_wouldTipAsTold 5 = .ok (.getfield 12, 3) := by decide +kernel
theorem dX2_wouldTipAsTold_8 : decode cX2_wouldTipAsTold 8 = .ok (.invokevirtual 59, 3) := by decide +kernel
theorem dX2_wouldTipAsTold_11 : decode cX2_wouldTipAsTold 11 = .ok (.aload_n 0, 1) := by decide +kernel
theorem dX2_wouldTipAsTold_12 : decode cX2_wouldTipAsTold 12 = .ok (.getfield 16, 3) := by decide +kernel
theorem dX2_wouldTipAsTold_15 : decode cX2_wouldTipAsTold 15 = .ok (.getfield 71, 3) := by decide +kernel
theorem dX2_wouldTipAsTold_18 : decode cX2_wouldTipAsTold 18 = .ok (.iload_n 2, 1) := by decide +kernel
theorem dX2_wouldTipAsTold_19 : decode cX2_wouldTipAsTold 19 = .ok (.iload_n 3, 1) := by decide +kernel
theorem dX2_wouldTipAsTold_20 : decode cX2_wouldTipAsTold 20 = .ok (.iastore, 1) := by decide +kernel
theorem dX2_wouldTipAsTold_21 : decode cX2_wouldTipAsTold 21 = .ok (.aload_n 0, 1) := by decide +kernel
theorem dX2_wouldTipAsTold_22 : decode cX2_wouldTipAsTold 22 = .ok (.getfield 16, 3) := by decide +kernel
theorem dX2_wouldTipAsTold_25 : decode cX2_wouldTipAsTold 25 = .ok (.getfield 74, 3) := by decide +kernel
theorem dX2_wouldTipAsTold_28 : decode cX2_wouldTipAsTold 28 = .ok (.iload_n 2, 1) := by decide +kernel
theorem dX2_wouldTipAsTold_29 : decode cX2_wouldTipAsTold 29 = .ok (.iload 4, 2) := by decide +kernel
theorem dX2_wouldTipAsTold_31 : decode cX2_wouldTipAsTold 31 = .ok (.iastore, 1) := by decide +kernel
theorem dX2_wouldTipAsTold_32 : decode cX2_wouldTipAsTold 32 = .ok (.iconst 1, 1) := by decide +kernel
theorem dX2_wouldTipAsTold_33 : decode cX2_wouldTipAsTold 33 = .ok (.istore 5, 2) := by decide +kernel
theorem dX2_wouldTipAsTold_35 : decode cX2_wouldTipAsTold 35 = .ok (.iconst 0, 1) := by decide +kernel
theorem dX2_wouldTipAsTold_36 : decode cX2_wouldTipAsTold 36 = .ok (.istore 6, 2) := by decide +kernel
theorem dX2_wouldTipAsTold_38 : decode cX2_wouldTipAsTold 38 = .ok (.iload 6, 2) := by decide +kernel
theorem dX2_wouldTipAsTold_40 : decode cX2_wouldTipAsTold 40 = .ok (.aload_n 1, 1) := by decide +kernel
theorem dX2_wouldTipAsTold_41 : decode cX2_wouldTipAsTold 41 = .ok (.getfield 229, 3) := by decide +kernel
theorem dX2_wouldTipAsTold_44 : decode cX2_wouldTipAsTold 44 = .ok (.if_icmp .ge 67, 3) := by decide +kernel
theorem dX2_wouldTipAsTold_47 : decode cX2_wouldTipAsTold 47 = .ok (.iload 6, 2) := by decide +kernel
theorem dX2_wouldTipAsTold_49 : decode cX2_wouldTipAsTold 49 = .ok (.ifCond .le 26, 3) := by decide +kernel
theorem dX2_wouldTipAsTold_52 : decode cX2_wouldTipAsTold 52 = .ok (.iload 5, 2) := by decide +kernel
theorem dX2_wouldTipAsTold_54 : decode cX2_wouldTipAsTold 54 = .ok (.ifCond .eq 21, 3) := by decide +kernel
theorem dX2_wouldTipAsTold_57 : decode cX2_wouldTipAsTold 57 = .ok (.aload_n 0, 1) := by decide +kernel
theorem dX2_wouldTipAsTold_58 : decode cX2_wouldTipAsTold 58 = .ok (.getfield 16, 3) := by decide +kernel
theorem dX2_wouldTipAsTold_61 : decode cX2_wouldTipAsTold 61 = .ok (.iconst 1, 1) := by decide +kernel
theorem dX2_wouldTipAsTold_62 : decode cX2_wouldTipAsTold 62 = .ok (.invokevirtual 142, 3) := by decide +kernel
theorem dX2_wouldTipAsTold_65 : decode cX2_wouldTipAsTold 65 = .ok (.ifCond .le 7, 3) := by decide +kernel
theorem dX2_wouldTipAsTold_68 : decode cX2_wouldTipAsTold 68 = .ok (.iconst 1, 1) := by decide +kernel
theorem dX2_wouldTipAsTold_69 : decode cX2_wouldTipAsTold 69 = .ok (.goto 4, 3) := by decide +kernel
theorem dX2_wouldTipAsTold_72 : decode cX2_wouldTipAsTold 72 = .ok (.iconst 0, 1) := by decide +kernel
theorem dX2_wouldTipAsTold_73 : decode cX2_wouldTipAsTold 73 = .ok (.istore 5, 2) := by decide +kernel
theorem dX2_wouldTipAsTold_75 : decode cX2_wouldTipAsTold 75 = .ok (.aload_n 1, 1) := by decide +kernel
theorem dX2_wouldTipAsTold_76 : decode cX2_wouldTipAsTold 76 = .ok (.iload 6, 2) := by decide +kernel
theorem dX2_wouldTipAsTold_78 : decode cX2_wouldTipAsTold 78 = .ok (.invokevirtual 235, 3) := by decide +kernel
theorem dX2_wouldTipAsTold_81 : decode cX2_wouldTipAsTold 81 = .ok (.ifCond .ne 24, 3) := by decide +kernel
theorem dX2_wouldTipAsTold_84 : decode cX2_wouldTipAsTold 84 = .ok (.aload_n 1, 1) := by decide +kernel
theorem dX2_wouldTipAsTold_85 : decode cX2_wouldTipAsTold 85 = .ok (.getfield 232, 3) := by decide +kernel
theorem dX2_wouldTipAsTold_88 : decode cX2_wouldTipAsTold 88 = .ok (.iload 6, 2) := by decide +kernel
theorem dX2_wouldTipAsTold_90 : decode cX2_wouldTipAsTold 90 = .ok (.iaload, 1) := by decide +kernel
theorem dX2_wouldTipAsTold_91 : decode cX2_wouldTipAsTold 91 = .ok (.aload_n 0, 1) := by decide +kernel
theorem dX2_wouldTipAsTold_92 : decode cX2_wouldTipAsTold 92 = .ok (.getfield 16, 3) := by decide +kernel
theorem dX2_wouldTipAsTold_95 : decode cX2_wouldTipAsTold 95 = .ok (.getfield 77, 3) := by decide +kernel
theorem dX2_wouldTipAsTold_98 : decode cX2_wouldTipAsTold 98 = .ok (.iload_n 2, 1) := by decide +kernel
theorem dX2_wouldTipAsTold_99 : decode cX2_wouldTipAsTold 99 = .ok (.iaload, 1) := by decide +kernel
theorem dX2_wouldTipAsTold_100 : decode cX2_wouldTipAsTold 100 = .ok (.if_icmp .eq 5, 3) := by decide +kernel
theorem dX2_wouldTipAsTold_103 : decode cX2_wouldTipAsTold 103 = .ok (.iconst 0, 1) := by decide +kernel
theorem dX2_wouldTipAsTold_104 : decode cX2_wouldTipAsTold 104 = .ok (.ireturn, 1) := by decide +kernel
theorem dX2_wouldTipAsTold_105 : decode cX2_wouldTipAsTold 105 = .ok (.iinc 6 1, 3) := by decide +kernel
theorem dX2_wouldTipAsTold_108 : decode cX2_wouldTipAsTold 108 = .ok (.goto (-70), 3) := by decide +kernel
theorem dX2_wouldTipAsTold_111 : decode cX2_wouldTipAsTold 111 = .ok (.iconst 1, 1) := by decide +kernel
theorem dX2_wouldTipAsTold_112 : decode cX2_wouldTipAsTold 112 = .ok (.ireturn, 1) := by decide +kernel
theorem dX2_drawTrip_0 : decode cX2_drawTrip 0 = .ok (.aload_n 0, 1) := by decide +kernel
theorem dX2_drawTrip_1 : decode cX2_drawTrip 1 = .ok (.getfield 16, 3) := by decide +kernel
theorem dX2_drawTrip_4 : decode cX2_drawTrip 4 = .ok (.invokevirtual 312, 3) := by decide +kernel
theorem dX2_drawTrip_7 : decode cX2_drawTrip 7 = .ok (.iload_n 1, 1) := by decide +kernel
theorem dX2_drawTrip_8 : decode cX2_drawTrip 8 = .ok (.invokestatic 333, 3) := by decide +kernel
theorem dX2_drawTrip_11 : decode cX2_drawTrip 11 = .ok (.istore_n 2, 1) := by decide +kernel
theorem dX2_drawTrip_12 : decode cX2_drawTrip 12 = .ok (.aload_n 0, 1) := by decide +kernel
theorem dX2_drawTrip_13 : decode cX2_drawTrip 13 = .ok (.getfield 16, 3) := by decide +kernel
theorem dX2_drawTrip_16 : decode cX2_drawTrip 16 = .ok (.iload_n 2, 1) := by decide +kernel
theorem dX2_drawTrip_17 : decode cX2_drawTrip 17 = .ok (.invokestatic 336, 3) := by decide +kernel
theorem dX2_drawTrip_20 : decode cX2_drawTrip 20 = .ok (.bipush 24, 2) := by decide +kernel
theorem dX2_drawTrip_22 : decode cX2_drawTrip 22 = .ok (.irem, 1) := by decide +kernel
theorem dX2_drawTrip_23 : decode cX2_drawTrip 23 = .ok (.putfield 119, 3) := by decide +kernel
theorem dX2_drawTrip_26 : decode cX2_drawTrip 26 = .ok (.aload_n 0, 1) := by decide +kernel
theorem dX2_drawTrip_27 : decode cX2_drawTrip 27 = .ok (.getfield 16, 3) := by decide +kernel
theorem dX2_drawTrip_30 : decode cX2_drawTrip 30 = .ok (.iconst 0, 1) := by decide +kernel
theorem dX2_drawTrip_31 : decode cX2_drawTrip 31 = .ok (.putfield 247, 3) := by decide +kernel
theorem dX2_drawTrip_34 : decode cX2_drawTrip 34 = .ok (.iconst 0, 1) := by decide +kernel
theorem dX2_drawTrip_35 : decode cX2_drawTrip 35 = .ok (.istore_n 3, 1) := by decide +kernel
theorem dX2_drawTrip_36 : decode cX2_drawTrip 36 = .ok (.iload_n 3, 1) := by decide +kernel
theorem dX2_drawTrip_37 : decode cX2_drawTrip 37 = .ok (.aload_n 0, 1) := by decide +kernel
theorem dX2_drawTrip_38 : decode cX2_drawTrip 38 = .ok (.getfield 16, 3) := by decide +kernel
theorem dX2_drawTrip_41 : decode cX2_drawTrip 41 = .ok (.getfield 110, 3) := by decide +kernel
theorem dX2_drawTrip_44 : decode cX2_drawTrip 44 = .ok (.if_icmp .ge 33, 3) := by decide +kernel
theorem dX2_drawTrip_47 : decode cX2_drawTrip 47 = .ok (.iload_n 2, 1) := by decide +kernel
theorem dX2_drawTrip_48 : decode cX2_drawTrip 48 = .ok (.invokestatic 333, 3) := by decide +kernel
theorem dX2_drawTrip_51 : decode cX2_drawTrip 51 = .ok (.istore_n 2, 1) := by decide +kernel
theorem dX2_drawTrip_52 : decode cX2_drawTrip 52 = .ok (.iload_n 2, 1) := by decide +kernel
theorem dX2_drawTrip_53 : decode cX2_drawTrip 53 = .ok (.invokestatic 336, 3) := by decide +kernel
theorem dX2_drawTrip_56 : decode cX2_drawTrip 56 = .ok (.iconst 5, 1) := by decide +kernel
theorem dX2_drawTrip_57 : decode cX2_drawTrip 57 = .ok (.irem, 1) := by decide +kernel
theorem dX2_drawTrip_58 : decode cX2_drawTrip 58 = .ok (.ifCond .ne 13, 3) := by decide +kernel
theorem dX2_drawTrip_61 : decode cX2_drawTrip 61 = .ok (.aload_n 0, 1) := by decide +kernel
theorem dX2_drawTrip_62 : decode cX2_drawTrip 62 = .ok (.getfield 16, 3) := by decide +kernel
theorem dX2_drawTrip_65 : decode cX2_drawTrip 65 = .ok (.iconst 1, 1) := by decide +kernel
theorem dX2_drawTrip_66 : decode cX2_drawTrip 66 = .ok (.iload_n 3, 1) := by decide +kernel
theorem dX2_drawTrip_67 : decode cX2_drawTrip 67 = .ok (.ishl, 1) := by decide +kernel
theorem dX2_drawTrip_68 : decode cX2_drawTrip 68 = .ok (.invokevirtual 290, 3) := by decide +kernel
theorem dX2_drawTrip_71 : decode cX2_drawTrip 71 = .ok (.iinc 3 1, 3) := by decide +kernel
theorem dX2_drawTrip_74 : decode cX2_drawTrip 74 = .ok (.goto (-38), 3) := by decide +kernel
theorem dX2_drawTrip_77 : decode cX2_drawTrip 77 = .ok (.iload_n 2, 1) := by decide +kernel
theorem dX2_drawTrip_78 : decode cX2_drawTrip 78 = .ok (.ireturn, 1) := by decide +kernel
theorem dX2_nextSeed_0 : decode cX2_nextSeed 0 = .ok (.iload_n 0, 1) := by decide +kernel
theorem dX2_nextSeed_1 : decode cX2_nextSeed 1 = .ok (.ldc_w 339, 3) := by decide +kernel
theorem dX2_nextSeed_4 : decode cX2_nextSeed 4 = .ok (.imul, 1) := by decide +kernel
theorem dX2_nextSeed_5 : decode cX2_nextSeed 5 = .ok (.sipush 12345, 3) := by decide +kernel
theorem dX2_nextSeed_8 : decode cX2_nextSeed 8 = .ok (.iadd, 1) := by decide +kernel
theorem dX2_nextSeed_9 : decode cX2_nextSeed 9 = .ok (.ireturn, 1) := by decide +kernel
theorem dX2_drawn_0 : decode cX2_drawn 0 = .ok (.iload_n 0, 1) := by decide +kernel
theorem dX2_drawn_1 : decode cX2_drawn 1 = .ok (.ldc_w 340, 3) := by decide +kernel
theorem dX2_drawn_4 : decode cX2_drawn 4 = .ok (.iand, 1) := by decide +kernel
theorem dX2_drawn_5 : decode cX2_drawn 5 = .ok (.ldc_w 341, 3) := by decide +kernel
theorem dX2_drawn_8 : decode cX2_drawn 8 = .ok (.idiv, 1) := by decide +kernel
theorem dX2_drawn_9 : decode cX2_drawn 9 = .ok (.ireturn, 1) := by decide +kernel
theorem dX2_lowestBits_0 : decode cX2_lowestBits 0 = .ok (.iload_n 0, 1) := by decide +kernel
theorem dX2_lowestBits_1 : decode cX2_lowestBits 1 = .ok (.lookupswitch 33 #[(0, 27), (1, 30)], 27) := by decide +kernel
theorem dX2_lowestBits_28 : decode cX2_lowestBits 28 = .ok (.iload_n 1, 1) := by decide +kernel
theorem dX2_lowestBits_29 : decode cX2_lowestBits 29 = .ok (.i2b, 1) := by decide +kernel
theorem dX2_lowestBits_30 : decode cX2_lowestBits 30 = .ok (.ireturn, 1) := by decide +kernel
theorem dX2_lowestBits_31 : decode cX2_lowestBits 31 = .ok (.iload_n 1, 1) := by decide +kernel
theorem dX2_lowestBits_32 : decode cX2_lowestBits 32 = .ok (.i2s, 1) := by decide +kernel
theorem dX2_lowestBits_33 : decode cX2_lowestBits 33 = .ok (.ireturn, 1) := by decide +kernel
theorem dX2_lowestBits_34 : decode cX2_lowestBits 34 = .ok (.iload_n 1, 1) := by decide +kernel
theorem dX2_lowestBits_35 : decode cX2_lowestBits 35 = .ok (.ireturn, 1) := by decide +kernel
theorem dX2_leastOf_0 : decode cX2_leastOf 0 = .ok (.iload_n 0, 1) := by decide +kernel
theorem dX2_leastOf_1 : decode cX2_leastOf 1 = .ok (.lookupswitch 34 #[(0, 27), (1, 30)], 27) := by decide +kernel
theorem dX2_leastOf_28 : decode cX2_leastOf 28 = .ok (.bipush (-128), 2) := by decide +kernel
theorem dX2_leastOf_30 : decode cX2_leastOf 30 = .ok (.ireturn, 1) := by decide +kernel
theorem dX2_leastOf_31 : decode cX2_leastOf 31 = .ok (.sipush (-32768), 3) := by decide +kernel
theorem dX2_leastOf_34 : decode cX2_leastOf 34 = .ok (.ireturn, 1) := by decide +kernel
theorem dX2_leastOf_35 : decode cX2_leastOf 35 = .ok (.ldc_w 342, 3) := by decide +kernel
theorem dX2_leastOf_38 : decode cX2_leastOf 38 = .ok (.ireturn, 1) := by decide +kernel
theorem dX2_kneesOf_0 : decode cX2_kneesOf 0 = .ok (.iload_n 0, 1) := by decide +kernel
theorem dX2_kneesOf_1 : decode cX2_kneesOf 1 = .ok (.tableswitch 57 2 7 #[39, 53, 57, 57, 55, 46], 39) := by decide +kernel
theorem dX2_kneesOf_40 : decode cX2_kneesOf 40 = .ok (.bipush 6, 2) := by decide +kernel
theorem dX2_kneesOf_42 : decode cX2_kneesOf 42 = .ok (.iload_n 1, 1) := by decide +kernel
theorem dX2_kneesOf_43 : decode cX2_kneesOf 43 = .ok (.iconst 3, 1) := by decide +kernel
theorem dX2_kneesOf_44 : decode cX2_kneesOf 44 = .ok (.idiv, 1) := by decide +kernel
theorem dX2_kneesOf_45 : decode cX2_kneesOf 45 = .ok (.iadd, 1) := by decide +kernel
theorem dX2_kneesOf_46 : decode cX2_kneesOf 46 = .ok (.ireturn, 1) := by decide +kernel
theorem dX2_kneesOf_47 : decode cX2_kneesOf 47 = .ok (.bipush 7, 2) := by decide +kernel
theorem dX2_kneesOf_49 : decode cX2_kneesOf 49 = .ok (.iload_n 1, 1) := by decide +kernel
theorem dX2_kneesOf_50 : decode cX2_kneesOf 50 = .ok (.iconst 3, 1) := by decide +kernel
theorem dX2_kneesOf_51 : decode cX2_kneesOf 51 = .ok (.idiv, 1) := by decide +kernel
theorem dX2_kneesOf_52 : decode cX2_kneesOf 52 = .ok (.iadd, 1) := by decide +kernel
theorem dX2_kneesOf_53 : decode cX2_kneesOf 53 = .ok (.ireturn, 1) := by decide +kernel
theorem dX2_kneesOf_54 : decode cX2_kneesOf 54 = .ok (.iconst 1, 1) := by decide +kernel
theorem dX2_kneesOf_55 : decode cX2_kneesOf 55 = .ok (.ireturn, 1) := by decide +kernel
theorem dX2_kneesOf_56 : decode cX2_kneesOf 56 = .ok (.iconst 0, 1) := by decide +kernel
theorem dX2_kneesOf_57 : decode cX2_kneesOf 57 = .ok (.ireturn, 1) := by decide +kernel
theorem dX2_kneesOf_58 : decode cX2_kneesOf 58 = .ok (.iconst 2, 1) := by decide +kernel
theorem dX2_kneesOf_59 : decode cX2_kneesOf 59 = .ok (.ireturn, 1) := by decide +kernel
theorem dX2_wantOf_0 : decode cX2_wantOf 0 = .ok (.iload_n 0, 1) := by decide +kernel
theorem dX2_wantOf_1 : decode cX2_wantOf 1 = .ok (.tableswitch 76 1 7 #[43, 54, 58, 60, 64, 74, 74], 43) := by decide +kernel
theorem dX2_wantOf_44 : decode cX2_wantOf 44 = .ok (.iload_n 3, 1) := by decide +kernel
theorem dX2_wantOf_45 : decode cX2_wantOf 45 = .ok (.ifCond .eq 8, 3) := by decide +kernel
theorem dX2_wantOf_48 : decode cX2_wantOf 48 = .ok (.bipush 10, 2) := by decide +kernel
theorem dX2_wantOf_50 : decode cX2_wantOf 50 = .ok (.goto 4, 3) := by decide +kernel
theorem dX2_wantOf_53 : decode cX2_wantOf 53 = .ok (.iload_n 2, 1) := by decide +kernel
theorem dX2_wantOf_54 : decode cX2_wantOf 54 = .ok (.ireturn, 1) := by decide +kernel
theorem dX2_wantOf_55 : decode cX2_wantOf 55 = .ok (.iload_n 2, 1) := by decide +kernel
theorem dX2_wantOf_56 : decode cX2_wantOf 56 = .ok (.iconst 2, 1) := by decide +kernel
theorem dX2_wantOf_57 : decode cX2_wantOf 57 = .ok (.iadd, 1) := by decide +kernel
theorem dX2_wantOf_58 : decode cX2_wantOf 58 = .ok (.ireturn, 1) := by decide +kernel
theorem dX2_wantOf_59 : decode cX2_wantOf 59 = .ok (.iload_n 1, 1) := by decide +kernel
theorem dX2_wantOf_60 : decode cX2_wantOf 60 = .ok (.ireturn, 1) := by decide +kernel
theorem dX2_wantOf_61 : decode cX2_wantOf 61 = .ok (.iload_n 2, 1) := by decide +kernel
theorem dX2_wantOf_62 : decode cX2_wantOf 62 = .ok (.iconst 2, 1) := by decide +kernel
theorem dX2_wantOf_63 : decode cX2_wantOf 63 = .ok (.idiv, 1) := by decide +kernel
theorem dX2_wantOf_64 : decode cX2_wantOf 64 = .ok (.ireturn, 1) := by decide +kernel
theorem dX2_wantOf_65 : decode cX2_wantOf 65 = .ok (.iload_n 2, 1) := by decide +kernel
theorem dX2_wantOf_66 : decode cX2_wantOf 66 = .ok (.iconst 2, 1) := by decide +kernel
theorem dX2_wantOf_67 : decode cX2_wantOf 67 = .ok (.idiv, 1) := by decide +kernel
theorem dX2_wantOf_68 : decode cX2_wantOf 68 = .ok (.iconst 1, 1) := by decide +kernel
theorem dX2_wantOf_69 : decode cX2_wantOf 69 = .ok (.isub, 1) := by decide +kernel
theorem dX2_wantOf_70 : decode cX2_wantOf 70 = .ok (.iconst 0, 1) := by decide +kernel
theorem dX2_wantOf_71 : decode cX2_wantOf 71 = .ok (.invokestatic 343, 3) := by decide +kernel
theorem dX2_wantOf_74 : decode cX2_wantOf 74 = .ok (.ireturn, 1) := by decide +kernel
theorem dX2_wantOf_75 : decode cX2_wantOf 75 = .ok (.iconst 0, 1) := by decide +kernel
theorem dX2_wantOf_76 : decode cX2_wantOf 76 = .ok (.ireturn, 1) := by decide +kernel
theorem dX2_wantOf_77 : decode cX2_wantOf 77 = .ok (.iload_n 2, 1) := by decide +kernel
theorem dX2_wantOf_78 : decode cX2_wantOf 78 = .ok (.ireturn, 1) := by decide +kernel
theorem dX2_worthOf_0 : decode cX2_worthOf 0 = .ok (.iload_n 0, 1) := by decide +kernel
theorem dX2_worthOf_1 : decode cX2_worthOf 1 = .ok (.tableswitch 65 1 7 #[43, 53, 63, 65, 65, 63, 59], 43) := by decide +kernel
theorem dX2_worthOf_44 : decode cX2_worthOf 44 = .ok (.iload_n 2, 1) := by decide +kernel
theorem dX2_worthOf_45 : decode cX2_worthOf 45 = .ok (.ifCond .eq 7, 3) := by decide +kernel
theorem dX2_worthOf_48 : decode cX2_worthOf 48 = .ok (.iconst 3, 1) := by decide +kernel
theorem dX2_worthOf_49 : decode cX2_worthOf 49 = .ok (.goto 4, 3) := by decide +kernel
theorem dX2_worthOf_52 : decode cX2_worthOf 52 = .ok (.iconst 1, 1) := by decide +kernel
theorem dX2_worthOf_53 : decode cX2_worthOf 53 = .ok (.ireturn, 1) := by decide +kernel
theorem dX2_worthOf_54 : decode cX2_worthOf 54 = .ok (.iload_n 1, 1) := by decide +kernel
theorem dX2_worthOf_55 : decode cX2_worthOf 55 = .ok (.iconst 2, 1) := by decide +kernel
theorem dX2_worthOf_56 : decode cX2_worthOf 56 = .ok (.idiv, 1) := by decide +kernel
theorem dX2_worthOf_57 : decode cX2_worthOf 57 = .ok (.iconst 1, 1) := by decide +kernel
theorem dX2_worthOf_58 : decode cX2_worthOf 58 = .ok (.iadd, 1) := by decide +kernel
theorem dX2_worthOf_59 : decode cX2_worthOf 59 = .ok (.ireturn, 1) := by decide +kernel
theorem dX2_worthOf_60 : decode cX2_worthOf 60 = .ok (.iload_n 1, 1) := by decide +kernel
theorem dX2_worthOf_61 : decode cX2_worthOf 61 = .ok (.iconst 2, 1) := by decide +kernel
theorem dX2_worthOf_62 : decode cX2_worthOf 62 = .ok (.idiv, 1) := by decide +kernel
theorem dX2_worthOf_63 : decode cX2_worthOf 63 = .ok (.ireturn, 1) := by decide +kernel
theorem dX2_worthOf_64 : decode cX2_worthOf 64 = .ok (.iconst 0, 1) := by decide +kernel
theorem dX2_worthOf_65 : decode cX2_worthOf 65 = .ok (.ireturn, 1) := by decide +kernel
theorem dX2_worthOf_66 : decode cX2_worthOf 66 = .ok (.iconst 1, 1) := by decide +kernel
theorem dX2_worthOf_67 : decode cX2_worthOf 67 = .ok (.ireturn, 1) := by decide +kernel
theorem dX2_costOf_0 : decode cX2_costOf 0 = .ok (.iload_n 0, 1) := by decide +kernel
theorem dX2_costOf_1 : decode cX2_costOf 1 = .ok (.tableswitch 63 1 7 #[43, 47, 49, 51, 53, 56, 60], 43) := by decide +kernel
theorem dX2_costOf_44 : decode cX2_costOf 44 = .ok (.iconst 3, 1) := by decide +kernel
theorem dX2_costOf_45 : decode cX2_costOf 45 = .ok (.iload_n 1, 1) := by decide +kernel
theorem dX2_costOf_46 : decode cX2_costOf 46 = .ok (.iadd, 1) := by decide +kernel
theorem dX2_costOf_47 : decode cX2_costOf 47 = .ok (.ireturn, 1) := by decide +kernel
theorem dX2_costOf_48 : decode cX2_costOf 48 = .ok (.iconst 5, 1) := by decide +kernel
theorem dX2_costOf_49 : decode cX2_costOf 49 = .ok (.ireturn, 1) := by decide +kernel
theorem dX2_costOf_50 : decode cX2_costOf 50 = .ok (.iconst 1, 1) := by decide +kernel
theorem dX2_costOf_51 : decode cX2_costOf 51 = .ok (.ireturn, 1) := by decide +kernel
theorem dX2_costOf_52 : decode cX2_costOf 52 = .ok (.iconst 1, 1) := by decide +kernel
theorem dX2_costOf_53 : decode cX2_costOf 53 = .ok (.ireturn, 1) := by decide +kernel
theorem dX2_costOf_54 : decode cX2_costOf 54 = .ok (.bipush 7, 2) := by decide +kernel
theorem dX2_costOf_56 : decode cX2_costOf 56 = .ok (.ireturn, 1) := by decide +kernel
theorem dX2_costOf_57 : decode cX2_costOf 57 = .ok (.iconst 1, 1) := by decide +kernel
theorem dX2_costOf_58 : decode cX2_costOf 58 = .ok (.iload_n 1, 1) := by decide +kernel
theorem dX2_costOf_59 : decode cX2_costOf 59 = .ok (.iadd, 1) := by decide +kernel
theorem dX2_costOf_60 : decode cX2_costOf 60 = .ok (.ireturn, 1) := by decide +kernel
theorem dX2_costOf_61 : decode cX2_costOf 61 = .ok (.bipush 10, 2) := by decide +kernel
theorem dX2_costOf_63 : decode cX2_costOf 63 = .ok (.ireturn, 1) := by decide +kernel
theorem dX2_costOf_64 : decode cX2_costOf 64 = .ok (.iconst 3, 1) := by decide +kernel
theorem dX2_costOf_65 : decode cX2_costOf 65 = .ok (.ireturn, 1) := by decide +kernel
theorem dX2_throwFailure_0 : decode cX2_throwFailure 0 = .ok (.iload_n 1, 1) := by decide +kernel
theorem dX2_throwFailure_1 : decode cX2_throwFailure 1 = .ok (.ifCond .ne 4, 3) := by decide +kernel
theorem dX2_throwFailure_4 : decode cX2_throwFailure 4 = .ok (.return_, 1) := by decide +kernel
theorem dX2_throwFailure_5 : decode cX2_throwFailure 5 = .ok (.iload_n 0, 1) := by decide +kernel
theorem dX2_throwFailure_6 : decode cX2_throwFailure 6 = .ok (.tableswitch 61 2 7 #[50, 38, 61, 61, 38, 39], 38) := by decide +kernel
theorem dX2_throwFailure_44 : decode cX2_throwFailure 44 = .ok (.return_, 1) := by decide +kernel
theorem dX2_throwFailure_45 : decode cX2_throwFailure 45 = .ok (.new 288, 3) := by decide +kernel
theorem dX2_throwFailure_48 : decode cX2_throwFailure 48 = .ok (.dup, 1) := by decide +kernel
theorem dX2_throwFailure_49 : decode cX2_throwFailure 49 = .ok (.ldc_w 348, 3) := by decide +kernel
theorem dX2_throwFailure_52 : decode cX2_throwFailure 52 = .ok (.invokespecial 350, 3) := by decide +kernel
theorem dX2_throwFailure_55 : decode cX2_throwFailure 55 = .ok (.athrow, 1) := by decide +kernel
theorem dX2_throwFailure_56 : decode cX2_throwFailure 56 = .ok (.new 266, 3) := by decide +kernel
theorem dX2_throwFailure_59 : decode cX2_throwFailure 59 = .ok (.dup, 1) := by decide +kernel
theorem dX2_throwFailure_60 : decode cX2_throwFailure 60 = .ok (.ldc_w 351, 3) := by decide +kernel
theorem dX2_throwFailure_63 : decode cX2_throwFailure 63 = .ok (.invokespecial 270, 3) := by decide +kernel
theorem dX2_throwFailure_66 : decode cX2_throwFailure 66 = .ok (.athrow, 1) := by decide +kernel
theorem dX2_throwFailure_67 : decode cX2_throwFailure 67 = .ok (.new 259, 3) := by decide +kernel
theorem dX2_throwFailure_70 : decode cX2_throwFailure 70 = .ok (.dup, 1) := by decide +kernel
theorem dX2_throwFailure_71 : decode cX2_throwFailure 71 = .ok (.ldc_w 353, 3) := by decide +kernel
theorem dX2_throwFailure_74 : decode cX2_throwFailure 74 = .ok (.invokespecial 263, 3) := by decide +kernel
theorem dX2_throwFailure_77 : decode cX2_throwFailure 77 = .ok (.athrow, 1) := by decide +kernel
theorem dX3_init_0 : decode cX3_init 0 = .ok (.aload_n 0, 1) := by decide +kernel
theorem dX3_init_1 : decode cX3_init 1 = .ok (.invokespecial 1, 3) := by decide +kernel
theorem dX3_init_4 : decode cX3_init 4 = .ok (.aload_n 0, 1) := by decide +kernel
theorem dX3_init_5 : decode cX3_init 5 = .ok (.bipush 35, 2) := by decide +kernel
theorem dX3_init_7 : decode cX3_init 7 = .ok (.newarray .int, 2) := by decide +kernel
theorem dX3_init_9 : decode cX3_init 9 = .ok (.putfield 9, 3) := by decide +kernel
theorem dX3_init_12 : decode cX3_init 12 = .ok (.aload_n 0, 1) := by decide +kernel
theorem dX3_init_13 : decode cX3_init 13 = .ok (.bipush 35, 2) := by decide +kernel
theorem dX3_init_15 : decode cX3_init 15 = .ok (.newarray .int, 2) := by decide +kernel
theorem dX3_init_17 : decode cX3_init 17 = .ok (.putfield 13, 3) := by decide +kernel
theorem dX3_init_20 : decode cX3_init 20 = .ok (.aload_n 0, 1) := by decide +kernel
theorem dX3_init_21 : decode cX3_init 21 = .ok (.bipush 35, 2) := by decide +kernel
theorem dX3_init_23 : decode cX3_init 23 = .ok (.newarray .int, 2) := by decide +kernel
theorem dX3_init_25 : decode cX3_init 25 = .ok (.putfield 16, 3) := by decide +kernel
theorem dX3_init_28 : decode cX3_init 28 = .ok (.aload_n 0, 1) := by decide +kernel
theorem dX3_init_29 : decode cX3_init 29 = .ok (.bipush 35, 2) := by decide +kernel
theorem dX3_init_31 : decode cX3_init 31 = .ok (.newarray .int, 2) := by decide +kernel
theorem dX3_init_33 : decode cX3_init 33 = .ok (.putfield 19, 3) := by decide +kernel
theorem dX3_init_36 : decode cX3_init 36 = .ok (.aload_n 0, 1) := by decide +kernel
theorem dX3_init_37 : decode cX3_init 37 = .ok (.bipush 8, 2) := by decide +kernel
theorem dX3_init_39 : decode cX3_init 39 = .ok (.newarray .int, 2) := by decide +kernel
theorem dX3_init_41 : decode cX3_init 41 = .ok (.putfield 22, 3) := by decide +kernel
theorem dX3_init_44 : decode cX3_init 44 = .ok (.aload_n 0, 1) := by decide +kernel
theorem dX3_init_45 : decode cX3_init 45 = .ok (.iconst 2, 1) := by decide +kernel
theorem dX3_init_46 : decode cX3_init 46 = .ok (.newarray .int, 2) := by decide +kernel
theorem dX3_init_48 : decode cX3_init 48 = .ok (.putfield 25, 3) := by decide +kernel
theorem dX3_init_51 : decode cX3_init 51 = .ok (.aload_n 0, 1) := by decide +kernel
theorem dX3_init_52 : decode cX3_init 52 = .ok (.bipush 8, 2) := by decide +kernel
theorem dX3_init_54 : decode cX3_init 54 = .ok (.newarray .int, 2) := by decide +kernel
theorem dX3_init_56 : decode cX3_init 56 = .ok (.putfield 28, 3) := by decide +kernel
theorem dX3_init_59 : decode cX3_init 59 = .ok (.aload_n 0, 1) := by decide +kernel
theorem dX3_init_60 : decode cX3_init 60 = .ok (.bipush 8, 2) := by decide +kernel
theorem dX3_init_62 : decode cX3_init 62 = .ok (.newarray .int, 2) := by decide +kernel
theorem dX3_init_64 : decode cX3_init 64 = .ok (.putfield 31, 3) := by decide +kernel
theorem dX3_init_67 : decode cX3_init 67 = .ok (.aload_n 0, 1) := by decide +kernel
theorem dX3_init_68 : decode cX3_init 68 = .ok (.bipush 8, 2) := by decide +kernel
theorem dX3_init_70 : decode cX3_init 70 = .ok (.newarray .int, 2) := by decide +kernel
theorem dX3_init_72 : decode cX3_init 72 = .ok (.putfield 34, 3) := by decide +kernel
theorem dX3_init_75 : decode cX3_init 75 = .ok (.aload_n 0, 1) := by decide +kernel
theorem dX3_init_76 : decode cX3_init 76 = .ok (.bipush 8, 2) := by decide +kernel
theorem dX3_init_78 : decode cX3_init 78 = .ok (.newarray .int, 2) := by decide +kernel
theorem dX3_init_80 : decode cX3_init 80 = .ok (.putfield 37, 3) := by decide +kernel
theorem dX3_init_83 : decode cX3_init 83 = .ok (.aload_n 0, 1) := by decide +kernel
theorem dX3_init_84 : decode cX3_init 84 = .ok (.bipush 8, 2) := by decide +kernel
theorem dX3_init_86 : decode cX3_init 86 = .ok (.newarray .int, 2) := by decide +kernel
theorem dX3_init_88 : decode cX3_init 88 = .ok (.putfield 40, 3) := by decide +kernel
theorem dX3_init_91 : decode cX3_init 91 = .ok (.aload_n 0, 1) := by decide +kernel
theorem dX3_init_92 : decode cX3_init 92 = .ok (.bipush 8, 2) := by decide +kernel
theorem dX3_init_94 : decode cX3_init 94 = .ok (.newarray .int, 2) := by decide +kernel
theorem dX3_init_96 : decode cX3_init 96 = .ok (.putfield 43, 3) := by decide +kernel
theorem dX3_init_99 : decode cX3_init 99 = .ok (.aload_n 0, 1) := by decide +kernel
theorem dX3_init_100 : decode cX3_init 100 = .ok (.bipush 8, 2) := by decide +kernel
theorem dX3_init_102 : decode cX3_init 102 = .ok (.newarray .int, 2) := by decide +kernel
theorem dX3_init_104 : decode cX3_init 104 = .ok (.putfield 46, 3) := by decide +kernel
theorem dX3_init_107 : decode cX3_init 107 = .ok (.aload_n 0, 1) := by decide +kernel
theorem dX3_init_108 : decode cX3_init 108 = .ok (.sipush 800, 3) := by decide +kernel
theorem dX3_init_111 : decode cX3_init 111 = .ok (.newarray .int, 2) := by decide +kernel
theorem dX3_init_113 : decode cX3_init 113 = .ok (.putfield 49, 3) := by decide +kernel
theorem dX3_init_116 : decode cX3_init 116 = .ok (.aload_n 0, 1) := by decide +kernel
theorem dX3_init_117 : decode cX3_init 117 = .ok (.getfield 9, 3) := by decide +kernel
theorem dX3_init_120 : decode cX3_init 120 = .ok (.iconst 1, 1) := by decide +kernel
theorem dX3_init_121 : decode cX3_init 121 = .ok (.bipush 22, 2) := by decide +kernel
theorem dX3_init_123 : decode cX3_init 123 = .ok (.iastore, 1) := by decide +kernel
theorem dX3_init_124 : decode cX3_init 124 = .ok (.return_, 1) := by decide +kernel
theorem dX3_isIn_0 : decode cX3_isIn 0 = .ok (.iload_n 0, 1) := by decide +kernel
theorem dX3_isIn_1 : decode cX3_isIn 1 = .ok (.iload_n 1, 1) := by decide +kernel
theorem dX3_isIn_2 : decode cX3_isIn 2 = .ok (.if_icmp .lt 12, 3) := by decide +kernel
theorem dX3_isIn_5 : decode cX3_isIn 5 = .ok (.iload_n 0, 1) := by decide +kernel
theorem dX3_isIn_6 : decode cX3_isIn 6 = .ok (.iload_n 2, 1) := by decide +kernel
theorem dX3_isIn_7 : decode cX3_isIn 7 = .ok (.if_icmp .gt 7, 3) := by decide +kernel
theorem dX3_isIn_10 : decode cX3_isIn 10 = .ok (.iconst 1, 1) := by decide +kernel
theorem dX3_isIn_11 : decode cX3_isIn 11 = .ok (.goto 4, 3) := by decide +kernel
theorem dX3_isIn_14 : decode cX3_isIn 14 = .ok (.iconst 0, 1) := by decide +kernel
theorem dX3_isIn_15 : decode cX3_isIn 15 = .ok (.ireturn, 1) := by decide +kernel
theorem dX3_least_0 : decode cX3_least 0 = .ok (.iload_n 0, 1) := by decide +kernel
theorem dX3_least_1 : decode cX3_least 1 = .ok (.iload_n 1, 1) := by decide +kernel
theorem dX3_least_2 : decode cX3_least 2 = .ok (.if_icmp .ge 7, 3) := by decide +kernel
theorem dX3_least_5 : decode cX3_least 5 = .ok (.iload_n 0, 1) := by decide +kernel
theorem dX3_least_6 : decode cX3_least 6 = .ok (.goto 4, 3) := by decide +kernel
theorem dX3_least_9 : decode cX3_least 9 = .ok (.iload_n 1, 1) := by decide +kernel
theorem dX3_least_10 : decode cX3_least 10 = .ok (.ireturn, 1) := by decide +kernel
theorem dX3_most_0 : decode cX3_most 0 = .ok (.iload_n 0, 1) := by decide +kernel
theorem dX3_most_1 : decode cX3_most 1 = .ok (.iload_n 1, 1) := by decide +kernel
theorem dX3_most_2 : decode cX3_most 2 = .ok (.if_icmp .le 7, 3) := by decide +kernel
theorem dX3_most_5 : decode cX3_most 5 = .ok (.iload_n 0, 1) := by decide +kernel
theorem dX3_most_6 : decode cX3_most 6 = .ok (.goto 4, 3) := by decide +kernel
theorem dX3_most_9 : decode cX3_most 9 = .ok (.iload_n 1, 1) := by decide +kernel
theorem dX3_most_10 : decode cX3_most 10 = .ok (.ireturn, 1) := by decide +kernel
theorem dX3_copies_0 : decode cX3_copies 0 = .ok (.iconst 0, 1) := by decide +kernel
theorem dX3_copies_1 : decode cX3_copies 1 = .ok (.istore_n 2, 1) := by decide +kernel
theorem dX3_copies_2 : decode cX3_copies 2 = .ok (.iload_n 2, 1) := by decide +kernel
theorem dX3_copies_3 : decode cX3_copies 3 = .ok (.bipush 35, 2) := by decide +kernel
theorem dX3_copies_5 : decode cX3_copies 5 = .ok (.if_icmp .ge 15, 3) := by decide +kernel
theorem dX3_copies_8 : decode cX3_copies 8 = .ok (.aload_n 1, 1) := by decide +kernel
theorem dX3_copies_9 : decode cX3_copies 9 = .ok (.iload_n 2, 1) := by decide +kernel
theorem dX3_copies_10 : decode cX3_copies 10 = .ok (.aload_n 0, 1) := by decide +kernel
theorem dX3_copies_11 : decode cX3_copies 11 = .ok (.iload_n 2, 1) := by decide +kernel
theorem dX3_copies_12 : decode cX3_copies 12 = .ok (.iaload, 1) := by decide +kernel
theorem dX3_copies_13 : decode cX3_copies 13 = .ok (.iastore, 1) := by decide +kernel
theorem dX3_copies_14 : decode cX3_copies 14 = .ok (.iinc 2 1, 3) := by decide +kernel
theorem dX3_copies_17 : decode cX3_copies 17 = .ok (.goto (-15), 3) := by decide +kernel
theorem dX3_copies_20 : decode cX3_copies 20 = .ok (.return_, 1) := by decide +kernel
theorem dX3_of_0 : decode cX3_of 0 = .ok (.iconst 3, 1) := by decide +kernel
theorem dX3_of_1 : decode cX3_of 1 = .ok (.iconst 4, 1) := by decide +kernel
theorem dX3_of_2 : decode cX3_of 2 = .ok (.iload_n 0, 1) := by decide +kernel
theorem dX3_of_3 : decode cX3_of 3 = .ok (.imul, 1) := by decide +kernel
theorem dX3_of_4 : decode cX3_of 4 = .ok (.iadd, 1) := by decide +kernel
theorem dX3_of_5 : decode cX3_of 5 = .ok (.iload_n 1, 1) := by decide +kernel
theorem dX3_of_6 : decode cX3_of 6 = .ok (.iadd, 1) := by decide +kernel
theorem dX3_of_7 : decode cX3_of 7 = .ok (.ireturn, 1) := by decide +kernel
theorem dX3_isRow_0 : decode cX3_isRow 0 = .ok (.iload_n 1, 1) := by decide +kernel
theorem dX3_isRow_1 : decode cX3_isRow 1 = .ok (.iconst 0, 1) := by decide +kernel
theorem dX3_isRow_2 : decode cX3_isRow 2 = .ok (.aload_n 0, 1) := by decide +kernel
theorem dX3_isRow_3 : decode cX3_isRow 3 = .ok (.getfield 9, 3) := by decide +kernel
theorem dX3_isRow_6 : decode cX3_isRow 6 = .ok (.iconst 0, 1) := by decide +kernel
theorem dX3_isRow_7 : decode cX3_isRow 7 = .ok (.iaload, 1) := by decide +kernel
theorem dX3_isRow_8 : decode cX3_isRow 8 = .ok (.iconst 1, 1) := by decide +kernel
theorem dX3_isRow_9 : decode cX3_isRow 9 = .ok (.isub, 1) := by decide +kernel
theorem dX3_isRow_10 : decode cX3_isRow 10 = .ok (.invokestatic 52, 3) := by decide +kernel
theorem dX3_isRow_13 : decode cX3_isRow 13 = .ok (.ireturn, 1) := by decide +kernel
theorem dX3_has_0 : decode cX3_has 0 = .ok (.iload_n 0, 1) := by decide +kernel
theorem dX3_has_1 : decode cX3_has 1 = .ok (.iload_n 1, 1) := by decide +kernel
theorem dX3_has_2 : decode cX3_has 2 = .ok (.ishr, 1) := by decide +kernel
theorem dX3_has_3 : decode cX3_has 3 = .ok (.iconst 1, 1) := by decide +kernel
theorem dX3_has_4 : decode cX3_has 4 = .ok (.iand, 1) := by decide +kernel
theorem dX3_has_5 : decode cX3_has 5 = .ok (.iconst 1, 1) := by decide +kernel
theorem dX3_has_6 : decode cX3_has 6 = .ok (.if_icmp .ne 7, 3) := by decide +kernel
theorem dX3_has_9 : decode cX3_has 9 = .ok (.iconst 1, 1) := by decide +kernel
theorem dX3_has_10 : decode cX3_has 10 = .ok (.goto 4, 3) := by decide +kernel
theorem dX3_has_13 : decode cX3_has 13 = .ok (.iconst 0, 1) := by decide +kernel
theorem dX3_has_14 : decode cX3_has 14 = .ok (.ireturn, 1) := by decide +kernel
theorem dX3_bits_0 : decode cX3_bits 0 = .ok (.iconst 0, 1) := by decide +kernel
theorem dX3_bits_1 : decode cX3_bits 1 = .ok (.istore_n 1, 1) := by decide +kernel
theorem dX3_bits_2 : decode cX3_bits 2 = .ok (.iconst 0, 1) := by decide +kernel
theorem dX3_bits_3 : decode cX3_bits 3 = .ok (.istore_n 2, 1) := by decide +kernel
theorem dX3_bits_4 : decode cX3_bits 4 = .ok (.iload_n 2, 1) := by decide +kernel
theorem dX3_bits_5 : decode cX3_bits 5 = .ok (.bipush 10, 2) := by decide +kernel
theorem dX3_bits_7 : decode cX3_bits 7 = .ok (.if_icmp .ge 17, 3) := by decide +kernel
theorem dX3_bits_10 : decode cX3_bits 10 = .ok (.iload_n 1, 1) := by decide +kernel
theorem dX3_bits_11 : decode cX3_bits 11 = .ok (.iload_n 0, 1) := by decide +kernel
theorem dX3_bits_12 : decode cX3_bits 12 = .ok (.iload_n 2, 1) := by decide +kernel
theorem dX3_bits_13 : decode cX3_bits 13 = .ok (.ishr, 1) := by decide +kernel
theorem dX3_bits_14 : decode cX3_bits 14 = .ok (.iconst 1, 1) := by decide +kernel
theorem dX3_bits_15 : decode cX3_bits 15 = .ok (.iand, 1) := by decide +kernel
theorem dX3_bits_16 : decode cX3_bits 16 = .ok (.iadd, 1) := by decide +kernel
theorem dX3_bits_17 : decode cX3_bits 17 = .ok (.istore_n 1, 1) := by decide +kernel
theorem dX3_bits_18 : decode cX3_bits 18 = .ok (.iinc 2 1, 3) := by decide +kernel
theorem dX3_bits_21 : decode cX3_bits 21 = .ok (.goto (-17), 3) := by decide +kernel
theorem dX3_bits_24 : decode cX3_bits 24 = .ok (.iload_n 1, 1) := by decide +kernel
theorem dX3_bits_25 : decode cX3_bits 25 = .ok (.ireturn, 1) := by decide +kernel
theorem dX3_knees_0 : decode cX3_knees 0 = .ok (.iload_n 0, 1) := by decide +kernel
theorem dX3_knees_1 : decode cX3_knees 1 = .ok (.tableswitch 57 2 7 #[39, 46, 57, 57, 48, 50], 39) := by decide +kernel
theorem dX3_knees_40 : decode cX3_knees 40 = .ok (.bipush 6, 2) := by decide +kernel
theorem dX3_knees_42 : decode cX3_knees 42 = .ok (.iload_n 1, 1) := by decide +kernel
theorem dX3_knees_43 : decode cX3_knees 43 = .ok (.iconst 3, 1) := by decide +kernel
theorem dX3_knees_44 : decode cX3_knees 44 = .ok (.idiv, 1) := by decide +kernel
theorem dX3_knees_45 : decode cX3_knees 45 = .ok (.iadd, 1) := by decide +kernel
theorem dX3_knees_46 : decode cX3_knees 46 = .ok (.ireturn, 1) := by decide +kernel
theorem dX3_knees_47 : decode cX3_knees 47 = .ok (.iconst 1, 1) := by decide +kernel
theorem dX3_knees_48 : decode cX3_knees 48 = .ok (.ireturn, 1) := by decide +kernel
theorem dX3_knees_49 : decode cX3_knees 49 = .ok (.iconst 0, 1) := by decide +kernel
theorem dX3_knees_50 : decode cX3_knees 50 = .ok (.ireturn, 1) := by decide +kernel
theorem dX3_knees_51 : decode cX3_knees 51 = .ok (.bipush 7, 2) := by decide +kernel
theorem dX3_knees_53 : decode cX3_knees 53 = .ok (.iload_n 1, 1) := by decide +kernel
theorem dX3_knees_54 : decode cX3_knees 54 = .ok (.iconst 3, 1) := by decide +kernel
theorem dX3_knees_55 : decode cX3_knees 55 = .ok (.idiv, 1) := by decide +kernel
theorem dX3_knees_56 : decode cX3_knees 56 = .ok (.iadd, 1) := by decide +kernel
theorem dX3_knees_57 : decode cX3_knees 57 = .ok (.ireturn, 1) := by decide +kernel
theorem dX3_knees_58 : decode cX3_knees 58 = .ok (.iconst 2, 1) := by decide +kernel
theorem dX3_knees_59 : decode cX3_knees 59 = .ok (.ireturn, 1) := by decide +kernel
theorem dX3_isLate_0 : decode cX3_isLate 0 = .ok (.iload_n 0, 1) := by decide +kernel
theorem dX3_isLate_1 : decode cX3_isLate 1 = .ok (.bipush 22, 2) := by decide +kernel
theorem dX3_isLate_3 : decode cX3_isLate 3 = .ok (.if_icmp .ge 8, 3) := by decide +kernel
theorem dX3_isLate_6 : decode cX3_isLate 6 = .ok (.iload_n 0, 1) := by decide +kernel
theorem dX3_isLate_7 : decode cX3_isLate 7 = .ok (.iconst 5, 1) := by decide +kernel
theorem dX3_isLate_8 : decode cX3_isLate 8 = .ok (.if_icmp .gt 7, 3) := by decide +kernel
theorem dX3_isLate_11 : decode cX3_isLate 11 = .ok (.iconst 1, 1) := by decide +kernel
theorem dX3_isLate_12 : decode cX3_isLate 12 = .ok (.goto 4, 3) := by decide +kernel
theorem dX3_isLate_15 : decode cX3_isLate 15 = .ok (.iconst 0, 1) := by decide +kernel
theorem dX3_isLate_16 : decode cX3_isLate 16 = .ok (.ireturn, 1) := by decide +kernel
theorem dX3_wants_0 : decode cX3_wants 0 = .ok (.iload_n 0, 1) := by decide +kernel
theorem dX3_wants_1 : decode cX3_wants 1 = .ok (.tableswitch 79 1 7 #[43, 57, 61, 63, 67, 77, 77], 43) := by decide +kernel
theorem dX3_wants_44 : decode cX3_wants 44 = .ok (.iload_n 3, 1) := by decide +kernel
theorem dX3_wants_45 : decode cX3_wants 45 = .ok (.invokestatic 56, 3) := by decide +kernel
theorem dX3_wants_48 : decode cX3_wants 48 = .ok (.ifCond .eq 8, 3) := by decide +kernel
theorem dX3_wants_51 : decode cX3_wants 51 = .ok (.bipush 10, 2) := by decide +kernel
theorem dX3_wants_53 : decode cX3_wants 53 = .ok (.goto 4, 3) := by decide +kernel
theorem dX3_wants_56 : decode cX3_wants 56 = .ok (.iload_n 2, 1) := by decide +kernel
theorem dX3_wants_57 : decode cX3_wants 57 = .ok (.ireturn, 1) := by decide +kernel
theorem dX3_wants_58 : decode cX3_wants 58 = .ok (.iload_n 2, 1) := by decide +kernel
theorem dX3_wants_59 : decode cX3_wants 59 = .ok (.iconst 2, 1) := by decide +kernel
theorem dX3_wants_60 : decode cX3_wants 60 = .ok (.iadd, 1) := by decide +kernel
theorem dX3_wants_61 : decode cX3_wants 61 = .ok (.ireturn, 1) := by decide +kernel
theorem dX3_wants_62 : decode cX3_wants 62 = .ok (.iload_n 1, 1) := by decide +kernel
theorem dX3_wants_63 : decode cX3_wants 63 = .ok (.ireturn, 1) := by decide +kernel
theorem dX3_wants_64 : decode cX3_wants 64 = .ok (.iload_n 2, 1) := by decide +kernel
theorem dX3_wants_65 : decode cX3_wants 65 = .ok (.iconst 2, 1) := by decide +kernel
theorem dX3_wants_66 : decode cX3_wants 66 = .ok (.idiv, 1) := by decide +kernel
theorem dX3_wants_67 : decode cX3_wants 67 = .ok (.ireturn, 1) := by decide +kernel
theorem dX3_wants_68 : decode cX3_wants 68 = .ok (.iconst 0, 1) := by decide +kernel
theorem dX3_wants_69 : decode cX3_wants 69 = .ok (.iload_n 2, 1) := by decide +kernel
theorem dX3_wants_70 : decode cX3_wants 70 = .ok (.iconst 2, 1) := by decide +kernel
theorem dX3_wants_71 : decode cX3_wants 71 = .ok (.idiv, 1) := by decide +kernel
theorem dX3_wants_72 : decode cX3_wants 72 = .ok (.iconst 1, 1) := by decide +kernel
theorem dX3_wants_73 : decode cX3_wants 73 = .ok (.isub, 1) := by decide +kernel
theorem dX3_wants_74 : decode cX3_wants 74 = .ok (.invokestatic 60, 3) := by decide +kernel
theorem dX3_wants_77 : decode cX3_wants 77 = .ok (.ireturn, 1) := by decide +kernel
theorem dX3_wants_78 : decode cX3_wants 78 = .ok (.iconst 0, 1) := by decide +kernel
theorem dX3_wants_79 : decode cX3_wants 79 = .ok (.ireturn, 1) := by decide +kernel
theorem dX3_wants_80 : decode cX3_wants 80 = .ok (.iload_n 2, 1) := by decide +kernel
theorem dX3_wants_81 : decode cX3_wants 81 = .ok (.ireturn, 1) := by decide +kernel
theorem dX3_worth_0 : decode cX3_worth 0 = .ok (.iload_n 0, 1) := by decide +kernel
theorem dX3_worth_1 : decode cX3_worth 1 = .ok (.tableswitch 68 1 7 #[43, 56, 62, 68, 68, 62, 64], 43) := by decide +kernel
theorem dX3_worth_44 : decode cX3_worth 44 = .ok (.iload_n 2, 1) := by decide +kernel
theorem dX3_worth_45 : decode cX3_worth 45 = .ok (.invokestatic 56, 3) := by decide +kernel
theorem dX3_worth_48 : decode cX3_worth 48 = .ok (.ifCond .eq 7, 3) := by decide +kernel
theorem dX3_worth_51 : decode cX3_worth 51 = .ok (.iconst 3, 1) := by decide +kernel
theorem dX3_worth_52 : decode cX3_worth 52 = .ok (.goto 4, 3) := by decide +kernel
theorem dX3_worth_55 : decode cX3_worth 55 = .ok (.iconst 1, 1) := by decide +kernel
theorem dX3_worth_56 : decode cX3_worth 56 = .ok (.ireturn, 1) := by decide +kernel
theorem dX3_worth_57 : decode cX3_worth 57 = .ok (.iload_n 1, 1) := by decide +kernel
theorem dX3_worth_58 : decode cX3_worth 58 = .ok (.iconst 2, 1) := by decide +kernel
theorem dX3_worth_59 : decode cX3_worth 59 = .ok (.idiv, 1) := by decide +kernel
theorem dX3_worth_60 : decode cX3_worth 60 = .ok (.iconst 1, 1) := by decide +kernel
theorem dX3_worth_61 : decode cX3_worth 61 = .ok (.iadd, 1) := by decide +kernel
theorem dX3_worth_62 : decode cX3_worth 62 = .ok (.ireturn, 1) := by decide +kernel
theorem dX3_worth_63 : decode cX3_worth 63 = .ok (.iconst 0, 1) := by decide +kernel
theorem dX3_worth_64 : decode cX3_worth 64 = .ok (.ireturn, 1) := by decide +kernel
theorem dX3_worth_65 : decode cX3_worth 65 = .ok (.iload_n 1, 1) := by decide +kernel
theorem dX3_worth_66 : decode cX3_worth 66 = .ok (.iconst 2, 1) := by decide +kernel
theorem dX3_worth_67 : decode cX3_worth 67 = .ok (.idiv, 1) := by decide +kernel
theorem dX3_worth_68 : decode cX3_worth 68 = .ok (.ireturn, 1) := by decide +kernel
theorem dX3_worth_69 : decode cX3_worth 69 = .ok (.iconst 1, 1) := by decide +kernel
theorem dX3_worth_70 : decode cX3_worth 70 = .ok (.ireturn, 1) := by decide +kernel
theorem dX3_can_0 : decode cX3_can 0 = .ok (.iload_n 1, 1) := by decide +kernel
theorem dX3_can_1 : decode cX3_can 1 = .ok (.aload_n 0, 1) := by decide +kernel
theorem dX3_can_2 : decode cX3_can 2 = .ok (.iconst 0, 1) := by decide +kernel
theorem dX3_can_3 : decode cX3_can 3 = .ok (.iaload, 1) := by decide +kernel
theorem dX3_can_4 : decode cX3_can 4 = .ok (.iconst 1, 1) := by decide +kernel
theorem dX3_can_5 : decode cX3_can 5 = .ok (.isub, 1) := by decide +kernel
theorem dX3_can_6 : decode cX3_can 6 = .ok (.if_icmp .eq 14, 3) := by decide +kernel
theorem dX3_can_9 : decode cX3_can 9 = .ok (.aload_n 0, 1) := by decide +kernel
theorem dX3_can_10 : decode cX3_can 10 = .ok (.iload_n 1, 1) := by decide +kernel
theorem dX3_can_11 : decode cX3_can 11 = .ok (.iconst 3, 1) := by decide +kernel
theorem dX3_can_12 : decode cX3_can 12 = .ok (.invokestatic 64, 3) := by decide +kernel
theorem dX3_can_15 : decode cX3_can 15 = .ok (.iaload, 1) := by decide +kernel
theorem dX3_can_16 : decode cX3_can 16 = .ok (.iconst 1, 1) := by decide +kernel
theorem dX3_can_17 : decode cX3_can 17 = .ok (.if_icmp .ne 5, 3) := by decide +kernel
theorem dX3_can_20 : decode cX3_can 20 = .ok (.iconst 0, 1) := by decide +kernel
theorem dX3_can_21 : decode cX3_can 21 = .ok (.ireturn, 1) := by decide +kernel
theorem dX3_can_22 : decode cX3_can 22 = .ok (.iconst 0, 1) := by decide +kernel
theorem dX3_can_23 : decode cX3_can 23 = .ok (.bipush 10, 2) := by decide +kernel
theorem dX3_can_25 : decode cX3_can 25 = .ok (.aload_n 0, 1) := by decide +kernel
theorem dX3_can_26 : decode cX3_can 26 = .ok (.iload_n 1, 1) := by decide +kernel
theorem dX3_can_27 : decode cX3_can 27 = .ok (.iconst 1, 1) := by decide +kernel
theorem dX3_can_28 : decode cX3_can 28 = .ok (.iadd, 1) := by decide +kernel
theorem dX3_can_29 : decode cX3_can 29 = .ok (.iconst 0, 1) := by decide +kernel
theorem dX3_can_30 : decode cX3_can 30 = .ok (.invokestatic 64, 3) := by decide +kernel
theorem dX3_can_33 : decode cX3_can 33 = .ok (.iaload, 1) := by decide +kernel
theorem dX3_can_34 : decode cX3_can 34 = .ok (.aload_n 0, 1) := by decide +kernel
theorem dX3_can_35 : decode cX3_can 35 = .ok (.iload_n 1, 1) := by decide +kernel
theorem dX3_can_36 : decode cX3_can 36 = .ok (.iconst 1, 1) := by decide +kernel
theorem dX3_can_37 : decode cX3_can 37 = .ok (.iadd, 1) := by decide +kernel
theorem dX3_can_38 : decode cX3_can 38 = .ok (.iconst 1, 1) := by decide +kernel
theorem dX3_can_39 : decode cX3_can 39 = .ok (.invokestatic 64, 3) := by decide +kernel
theorem dX3_can_42 : decode cX3_can 42 = .ok (.iaload, 1) := by decide +kernel
theorem dX3_can_43 : decode cX3_can 43 = .ok (.invokestatic 67, 3) := by decide +kernel
theorem dX3_can_46 : decode cX3_can 46 = .ok (.isub, 1) := by decide +kernel
theorem dX3_can_47 : decode cX3_can 47 = .ok (.invokestatic 60, 3) := by decide +kernel
theorem dX3_can_50 : decode cX3_can 50 = .ok (.ireturn, 1) := by decide +kernel
theorem dX3_worthOf_0 : decode cX3_worthOf 0 = .ok (.aload_n 0, 1) := by decide +kernel
theorem dX3_worthOf_1 : decode cX3_worthOf 1 = .ok (.iload_n 1, 1) := by decide +kernel
theorem dX3_worthOf_2 : decode cX3_worthOf 2 = .ok (.iconst 0, 1) := by decide +kernel
theorem dX3_worthOf_3 : decode cX3_worthOf 3 = .ok (.invokestatic 64, 3) := by decide +kernel
theorem dX3_worthOf_6 : decode cX3_worthOf 6 = .ok (.iaload, 1) := by decide +kernel
theorem dX3_worthOf_7 : decode cX3_worthOf 7 = .ok (.aload_n 0, 1) := by decide +kernel
theorem dX3_worthOf_8 : decode cX3_worthOf 8 = .ok (.iload_n 1, 1) := by decide +kernel
theorem dX3_worthOf_9 : decode cX3_worthOf 9 = .ok (.iconst 1, 1) := by decide +kernel
theorem dX3_worthOf_10 : decode cX3_worthOf 10 = .ok (.invokestatic 64, 3) := by decide +kernel
theorem dX3_worthOf_13 : decode cX3_worthOf 13 = .ok (.iaload, 1) := by decide +kernel
theorem dX3_worthOf_14 : decode cX3_worthOf 14 = .ok (.aload_n 0, 1) := by decide +kernel
theorem dX3_worthOf_15 : decode cX3_worthOf 15 = .ok (.iconst 1, 1) := by decide +kernel
theorem dX3_worthOf_16 : decode cX3_worthOf 16 = .ok (.iaload, 1) := by decide +kernel
theorem dX3_worthOf_17 : decode cX3_worthOf 17 = .ok (.invokestatic 70, 3) := by decide +kernel
theorem dX3_worthOf_20 : decode cX3_worthOf 20 = .ok (.ireturn, 1) := by decide +kernel
theorem dX3_room_0 : decode cX3_room 0 = .ok (.bipush 20, 2) := by decide +kernel
theorem dX3_room_2 : decode cX3_room 2 = .ok (.aload_n 0, 1) := by decide +kernel
theorem dX3_room_3 : decode cX3_room 3 = .ok (.iload_n 1, 1) := by decide +kernel
theorem dX3_room_4 : decode cX3_room 4 = .ok (.iconst 2, 1) := by decide +kernel
theorem dX3_room_5 : decode cX3_room 5 = .ok (.invokestatic 64, 3) := by decide +kernel
theorem dX3_room_8 : decode cX3_room 8 = .ok (.iaload, 1) := by decide +kernel
theorem dX3_room_9 : decode cX3_room 9 = .ok (.iadd, 1) := by decide +kernel
theorem dX3_room_10 : decode cX3_room 10 = .ok (.iload_n 1, 1) := by decide +kernel
theorem dX3_room_11 : decode cX3_room 11 = .ok (.ifCond .ne 7, 3) := by decide +kernel
theorem dX3_room_14 : decode cX3_room 14 = .ok (.iconst 0, 1) := by decide +kernel
theorem dX3_room_15 : decode cX3_room 15 = .ok (.goto 12, 3) := by decide +kernel
theorem dX3_room_18 : decode cX3_room 18 = .ok (.aload_n 0, 1) := by decide +kernel
theorem dX3_room_19 : decode cX3_room 19 = .ok (.iload_n 1, 1) := by decide +kernel
theorem dX3_room_20 : decode cX3_room 20 = .ok (.iconst 1, 1) := by decide +kernel
theorem dX3_room_21 : decode cX3_room 21 = .ok (.isub, 1) := by decide +kernel
theorem dX3_room_22 : decode cX3_room 22 = .ok (.iconst 2, 1) := by decide +kernel
theorem dX3_room_23 : decode cX3_room 23 = .ok (.invokestatic 64, 3) := by decide +kernel
theorem dX3_room_26 : decode cX3_room 26 = .ok (.iaload, 1) := by decide +kernel
theorem dX3_room_27 : decode cX3_room 27 = .ok (.isub, 1) := by decide +kernel
theorem dX3_room_28 : decode cX3_room 28 = .ok (.ireturn, 1) := by decide +kernel
theorem dX3_joy_0 : decode cX3_joy 0 = .ok (.aload_n 0, 1) := by decide +kernel
theorem dX3_joy_1 : decode cX3_joy 1 = .ok (.iload_n 1, 1) := by decide +kernel
theorem dX3_joy_2 : decode cX3_joy 2 = .ok (.invokestatic 74, 3) := by decide +kernel
theorem dX3_joy_5 : decode cX3_joy 5 = .ok (.aload_n 0, 1) := by decide +kernel
theorem dX3_joy_6 : decode cX3_joy 6 = .ok (.iload_n 1, 1) := by decide +kernel
theorem dX3_joy_7 : decode cX3_joy 7 = .ok (.invokestatic 78, 3) := by decide +kernel
theorem dX3_joy_10 : decode cX3_joy 10 = .ok (.bipush 20, 2) := by decide +kernel
theorem dX3_joy_12 : decode cX3_joy 12 = .ok (.isub, 1) := by decide +kernel
theorem dX3_joy_13 : decode cX3_joy 13 = .ok (.imul, 1) := by decide +kernel
theorem dX3_joy_14 : decode cX3_joy 14 = .ok (.ireturn, 1) := by decide +kernel
theorem dX3_joyAll_0 : decode cX3_joyAll 0 = .ok (.iconst 0, 1) := by decide +kernel
theorem dX3_joyAll_1 : decode cX3_joyAll 1 = .ok (.istore_n 1, 1) := by decide +kernel
theorem dX3_joyAll_2 : decode cX3_joyAll 2 = .ok (.iconst 0, 1) := by decide +kernel
theorem dX3_joyAll_3 : decode cX3_joyAll 3 = .ok (.istore_n 2, 1) := by decide +kernel
theorem dX3_joyAll_4 : decode cX3_joyAll 4 = .ok (.iload_n 2, 1) := by decide +kernel
theorem dX3_joyAll_5 : decode cX3_joyAll 5 = .ok (.aload_n 0, 1) := by decide +kernel
theorem dX3_joyAll_6 : decode cX3_joyAll 6 = .ok (.iconst 0, 1) := by decide +kernel
theorem dX3_joyAll_7 : decode cX3_joyAll 7 = .ok (.iaload, 1) := by decide +kernel
theorem dX3_joyAll_8 : decode cX3_joyAll 8 = .ok (.if_icmp .ge 17, 3) := by decide +kernel
theorem dX3_joyAll_11 : decode cX3_joyAll 11 = .ok (.iload_n 1, 1) := by decide +kernel
theorem dX3_joyAll_12 : decode cX3_joyAll 12 = .ok (.aload_n 0, 1) := by decide +kernel
theorem dX3_joyAll_13 : decode cX3_joyAll 13 = .ok (.iload_n 2, 1) := by decide +kernel
theorem dX3_joyAll_14 : decode cX3_joyAll 14 = .ok (.invokestatic 81, 3) := by decide +kernel
theorem dX3_joyAll_17 : decode cX3_joyAll 17 = .ok (.iadd, 1) := by decide +kernel
theorem dX3_joyAll_18 : decode cX3_joyAll 18 = .ok (.istore_n 1, 1) := by decide +kernel
theorem dX3_joyAll_19 : decode cX3_joyAll 19 = .ok (.iinc 2 1, 3) := by decide +kernel
theorem dX3_joyAll_22 : decode cX3_joyAll 22 = .ok (.goto (-18), 3) := by decide +kernel
theorem dX3_joyAll_25 : decode cX3_joyAll 25 = .ok (.iload_n 1, 1) := by decide +kernel
theorem dX3_joyAll_26 : decode cX3_joyAll 26 = .ok (.ireturn, 1) := by decide +kernel
theorem dX3_tipsAll_0 : decode cX3_tipsAll 0 = .ok (.iconst 0, 1) := by decide +kernel
theorem dX3_tipsAll_1 : decode cX3_tipsAll 1 = .ok (.istore_n 1, 1) := by decide +kernel
theorem dX3_tipsAll_2 : decode cX3_tipsAll 2 = .ok (.iconst 0, 1) := by decide +kernel
theorem dX3_tipsAll_3 : decode cX3_tipsAll 3 = .ok (.istore_n 2, 1) := by decide +kernel
theorem dX3_tipsAll_4 : decode cX3_tipsAll 4 = .ok (.iload_n 2, 1) := by decide +kernel
theorem dX3_tipsAll_5 : decode cX3_tipsAll 5 = .ok (.aload_n 0, 1) := by decide +kernel
theorem dX3_tipsAll_6 : decode cX3_tipsAll 6 = .ok (.iconst 0, 1) := by decide +kernel
theorem dX3_tipsAll_7 : decode cX3_tipsAll 7 = .ok (.iaload, 1) := by decide +kernel
theorem dX3_tipsAll_8 : decode cX3_tipsAll 8 = .ok (.if_icmp .ge 19, 3) := by decide +kernel
theorem dX3_tipsAll_11 : decode cX3_tipsAll 11 = .ok (.iload_n 1, 1) := by decide +kernel
theorem dX3_tipsAll_12 : decode cX3_tipsAll 12 = .ok (.aload_n 0, 1) := by decide +kernel
theorem dX3_tipsAll_13 : decode cX3_tipsAll 13 = .ok (.iload_n 2, 1) := by decide +kernel
theorem dX3_tipsAll_14 : decode cX3_tipsAll 14 = .ok (.iconst 2, 1) := by decide +kernel
theorem dX3_tipsAll_15 : decode cX3_tipsAll 15 = .ok (.invokestatic 64, 3) := by decide +kernel
theorem dX3_tipsAll_18 : decode cX3_tipsAll 18 = .ok (.iaload, 1) := by decide +kernel
theorem dX3_tipsAll_19 : decode cX3_tipsAll 19 = .ok (.iadd, 1) := by decide +kernel
theorem dX3_tipsAll_20 : decode cX3_tipsAll 20 = .ok (.istore_n 1, 1) := by decide +kernel
theorem dX3_tipsAll_21 : decode cX3_tipsAll 21 = .ok (.iinc 2 1, 3) := by decide +kernel
theorem dX3_tipsAll_24 : decode cX3_tipsAll 24 = .ok (.goto (-20), 3) := by decide +kernel
theorem dX3_tipsAll_27 : decode cX3_tipsAll 27 = .ok (.iload_n 1, 1) := by decide +kernel
theorem dX3_tipsAll_28 : decode cX3_tipsAll 28 = .ok (.ireturn, 1) := by decide +kernel
theorem dX3_tipping_0 : decode cX3_tipping 0 = .ok (.iconst 0, 1) := by decide +kernel
theorem dX3_tipping_1 : decode cX3_tipping 1 = .ok (.istore_n 1, 1) := by decide +kernel
theorem dX3_tipping_2 : decode cX3_tipping 2 = .ok (.iconst 0, 1) := by decide +kernel
theorem dX3_tipping_3 : decode cX3_tipping 3 = .ok (.istore_n 2, 1) := by decide +kernel
theorem dX3_tipping_4 : decode cX3_tipping 4 = .ok (.iload_n 2, 1) := by decide +kernel
theorem dX3_tipping_5 : decode cX3_tipping 5 = .ok (.aload_n 0, 1) := by decide +kernel
theorem dX3_tipping_6 : decode cX3_tipping 6 = .ok (.iconst 0, 1) := by decide +kernel
theorem dX3_tipping_7 : decode cX3_tipping 7 = .ok (.iaload, 1) := by decide +kernel
theorem dX3_tipping_8 : decode cX3_tipping 8 = .ok (.if_icmp .ge 29, 3) := by decide +kernel
theorem dX3_tipping_11 : decode cX3_tipping 11 = .ok (.iload_n 1, 1) := by decide +kernel
theorem dX3_tipping_12 : decode cX3_tipping 12 = .ok (.aload_n 0, 1) := by decide +kernel
theorem dX3_tipping_13 : decode cX3_tipping 13 = .ok (.iload_n 2, 1) := by decide +kernel
theorem dX3_tipping_14 : decode cX3_tipping 14 = .ok (.iconst 2, 1) := by decide +kernel
theorem dX3_tipping_15 : decode cX3_tipping 15 = .ok (.invokestatic 64, 3) := by decide +kernel
theorem dX3_tipping_18 : decode cX3_tipping 18 = .ok (.iaload, 1) := by decide +kernel
theorem dX3_tipping_19 : decode cX3_tipping 19 = .ok (.ifCond .le 9, 3) := by decide +kernel
theorem dX3_tipping_22 : decode cX3_tipping 22 = .ok (.iconst 1, 1) := by decide +kernel
theorem dX3_tipping_23 : decode cX3_tipping 23 = .ok (.iload_n 2, 1) := by decide +kernel
theorem dX3_tipping_24 : decode cX3_tipping 24 = .ok (.ishl, 1) := by decide +kernel
theorem dX3_tipping_25 : decode cX3_tipping 25 = .ok (.goto 4, 3) := by decide +kernel
theorem dX3_tipping_28 : decode cX3_tipping 28 = .ok (.iconst 0, 1) := by decide +kernel
theorem dX3_tipping_29 : decode cX3_tipping 29 = .ok (.ior, 1) := by decide +kernel
theorem dX3_tipping_30 : decode cX3_tipping 30 = .ok (.istore_n 1, 1) := by decide +kernel
theorem dX3_tipping_31 : decode cX3_tipping 31 = .ok (.iinc 2 1, 3) := by decide +kernel
theorem dX3_tipping_34 : decode cX3_tipping 34 = .ok (.goto (-30), 3) := by decide +kernel
theorem dX3_tipping_37 : decode cX3_tipping 37 = .ok (.iload_n 1, 1) := by decide +kernel
theorem dX3_tipping_38 : decode cX3_tipping 38 = .ok (.ireturn, 1) := by decide +kernel
theorem dX3_round_0 : decode cX3_round 0 = .ok (.aload_n 1, 1) := by decide +kernel
theorem dX3_round_1 : decode cX3_round 1 = .ok (.iconst 2, 1) := by decide +kernel
theorem dX3_round_2 : decode cX3_round 2 = .ok (.dup2, 1) := by decide +kernel
theorem dX3_round_3 : decode cX3_round 3 = .ok (.iaload, 1) := by decide +kernel
theorem dX3_round_4 : decode cX3_round 4 = .ok (.iconst 1, 1) := by decide +kernel
theorem dX3_round_5 : decode cX3_round 5 = .ok (.iadd, 1) := by decide +kernel
theorem dX3_round_6 : decode cX3_round 6 = .ok (.iastore, 1) := by decide +kernel
theorem dX3_round_7 : decode cX3_round 7 = .ok (.iconst 0, 1) := by decide +kernel
theorem dX3_round_8 : decode cX3_round 8 = .ok (.istore_n 3, 1) := by decide +kernel
theorem dX3_round_9 : decode cX3_round 9 = .ok (.iload_n 3, 1) := by decide +kernel
theorem dX3_round_10 : decode cX3_round 10 = .ok (.aload_n 1, 1) := by decide +kernel
theorem dX3_round_11 : decode cX3_round 11 = .ok (.iconst 0, 1) := by decide +kernel
theorem dX3_round_12 : decode cX3_round 12 = .ok (.iaload, 1) := by decide +kernel
theorem dX3_round_13 : decode cX3_round 13 = .ok (.if_icmp .ge 22, 3) := by decide +kernel
theorem dX3_round_16 : decode cX3_round 16 = .ok (.aload_n 0, 1) := by decide +kernel
theorem dX3_round_17 : decode cX3_round 17 = .ok (.getfield 22, 3) := by decide +kernel
theorem dX3_round_20 : decode cX3_round 20 = .ok (.iload_n 3, 1) := by decide +kernel
theorem dX3_round_21 : decode cX3_round 21 = .ok (.aload_n 1, 1) := by decide +kernel
theorem dX3_round_22 : decode cX3_round 22 = .ok (.iload_n 3, 1) := by decide +kernel
theorem dX3_round_23 : decode cX3_round 23 = .ok (.iconst 2, 1) := by decide +kernel
theorem dX3_round_24 : decode cX3_round 24 = .ok (.invokestatic 64, 3) := by decide +kernel
theorem dX3_round_27 : decode cX3_round 27 = .ok (.iaload, 1) := by decide +kernel
theorem dX3_round_28 : decode cX3_round 28 = .ok (.iastore, 1) := by decide +kernel
theorem dX3_round_29 : decode cX3_round 29 = .ok (.iinc 3 1, 3) := by decide +kernel
theorem dX3_round_32 : decode cX3_round 32 = .ok (.goto (-23), 3) := by decide +kernel
theorem dX3_round_35 : decode cX3_round 35 = .ok (.iconst 0, 1) := by decide +kernel
theorem dX3_round_36 : decode cX3_round 36 = .ok (.istore_n 3, 1) := by decide +kernel
theorem dX3_round_37 : decode cX3_round 37 = .ok (.iload_n 3, 1) := by decide +kernel
theorem dX3_round_38 : decode cX3_round 38 = .ok (.aload_n 1, 1) := by decide +kernel
theorem dX3_round_39 : decode cX3_round 39 = .ok (.iconst 0, 1) := by decide +kernel
theorem dX3_round_40 : decode cX3_round 40 = .ok (.iaload, 1) := by decide +kernel
theorem dX3_round_41 : decode cX3_round 41 = .ok (.if_icmp .ge 76, 3) := by decide +kernel
theorem dX3_round_44 : decode cX3_round 44 = .ok (.aload_n 1, 1) := by decide +kernel
theorem dX3_round_45 : decode cX3_round 45 = .ok (.iload_n 3, 1) := by decide +kernel
theorem dX3_round_46 : decode cX3_round 46 = .ok (.invokestatic 84, 3) := by decide +kernel
theorem dX3_round_49 : decode cX3_round 49 = .ok (.aload_n 1, 1) := by decide +kernel
theorem dX3_round_50 : decode cX3_round 50 = .ok (.iload_n 3, 1) := by decide +kernel
theorem dX3_round_51 : decode cX3_round 51 = .ok (.iconst 0, 1) := by decide +kernel
theorem dX3_round_52 : decode cX3_round 52 = .ok (.invokestatic 64, 3) := by decide +kernel
theorem dX3_round_55 : decode cX3_round 55 = .ok (.iaload, 1) := by decide +kernel
theorem dX3_round_56 : decode cX3_round 56 = .ok (.aload_n 1, 1) := by decide +kernel
theorem dX3_round_57 : decode cX3_round 57 = .ok (.iload_n 3, 1) := by decide +kernel
theorem dX3_round_58 : decode cX3_round 58 = .ok (.iconst 1, 1) := by decide +kernel
theorem dX3_round_59 : decode cX3_round 59 = .ok (.invokestatic 64, 3) := by decide +kernel
theorem dX3_round_62 : decode cX3_round 62 = .ok (.iaload, 1) := by decide +kernel
theorem dX3_round_63 : decode cX3_round 63 = .ok (.iload_n 3, 1) := by decide +kernel
theorem dX3_round_64 : decode cX3_round 64 = .ok (.ifCond .ne 7, 3) := by decide +kernel
theorem dX3_round_67 : decode cX3_round 67 = .ok (.iconst 0, 1) := by decide +kernel
theorem dX3_round_68 : decode cX3_round 68 = .ok (.goto 11, 3) := by decide +kernel
theorem dX3_round_71 : decode cX3_round 71 = .ok (.aload_n 0, 1) := by decide +kernel
theorem dX3_round_72 : decode cX3_round 72 = .ok (.getfield 22, 3) := by decide +kernel
theorem dX3_round_75 : decode cX3_round 75 = .ok (.iload_n 3, 1) := by decide +kernel
theorem dX3_round_76 : decode cX3_round 76 = .ok (.iconst 1, 1) := by decide +kernel
theorem dX3_round_77 : decode cX3_round 77 = .ok (.isub, 1) := by decide +kernel
theorem dX3_round_78 : decode cX3_round 78 = .ok (.iaload, 1) := by decide +kernel
theorem dX3_round_79 : decode cX3_round 79 = .ok (.aload_n 1, 1) := by decide +kernel
theorem dX3_round_80 : decode cX3_round 80 = .ok (.iconst 1, 1) := by decide +kernel
theorem dX3_round_81 : decode cX3_round 81 = .ok (.iaload, 1) := by decide +kernel
theorem dX3_round_82 : decode cX3_round 82 = .ok (.invokestatic 87, 3) := by decide +kernel
theorem dX3_round_85 : decode cX3_round 85 = .ok (.invokestatic 91, 3) := by decide +kernel
theorem dX3_round_88 : decode cX3_round 88 = .ok (.istore 4, 2) := by decide +kernel
theorem dX3_round_90 : decode cX3_round 90 = .ok (.aload_n 1, 1) := by decide +kernel
theorem dX3_round_91 : decode cX3_round 91 = .ok (.iload_n 3, 1) := by decide +kernel
theorem dX3_round_92 : decode cX3_round 92 = .ok (.iconst 2, 1) := by decide +kernel
theorem dX3_round_93 : decode cX3_round 93 = .ok (.invokestatic 64, 3) := by decide +kernel
theorem dX3_round_96 : decode cX3_round 96 = .ok (.iload_n 2, 1) := by decide +kernel
theorem dX3_round_97 : decode cX3_round 97 = .ok (.iload_n 3, 1) := by decide +kernel
theorem dX3_round_98 : decode cX3_round 98 = .ok (.invokestatic 94, 3) := by decide +kernel
theorem dX3_round_101 : decode cX3_round 101 = .ok (.ifCond .eq 7, 3) := by decide +kernel
theorem dX3_round_104 : decode cX3_round 104 = .ok (.iconst 0, 1) := by decide +kernel
theorem dX3_round_105 : decode cX3_round 105 = .ok (.goto 5, 3) := by decide +kernel
theorem dX3_round_108 : decode cX3_round 108 = .ok (.iload 4, 2) := by decide +kernel
theorem dX3_round_110 : decode cX3_round 110 = .ok (.iastore, 1) := by decide +kernel
theorem dX3_round_111 : decode cX3_round 111 = .ok (.iinc 3 1, 3) := by decide +kernel
theorem dX3_round_114 : decode cX3_round 114 = .ok (.goto (-77), 3) := by decide +kernel
theorem dX3_round_117 : decode cX3_round 117 = .ok (.return_, 1) := by decide +kernel
theorem dX3_roundsOn_0 : decode cX3_roundsOn 0 = .ok (.iconst 0, 1) := by decide +kernel
theorem dX3_roundsOn_1 : decode cX3_roundsOn 1 = .ok (.istore_n 3, 1) := by decide +kernel
theorem dX3_roundsOn_2 : decode cX3_roundsOn 2 = .ok (.iload_n 3, 1) := by decide +kernel
theorem dX3_roundsOn_3 : decode cX3_roundsOn 3 = .ok (.iload_n 2, 1) := by decide +kernel
theorem dX3_roundsOn_4 : decode cX3_roundsOn 4 = .ok (.if_icmp .ge 15, 3) := by decide +kernel
theorem dX3_roundsOn_7 : decode cX3_roundsOn 7 = .ok (.aload_n 0, 1) := by decide +kernel
theorem dX3_roundsOn_8 : decode cX3_roundsOn 8 = .ok (.aload_n 1, 1) := by decide +kernel
theorem dX3_roundsOn_9 : decode cX3_roundsOn 9 = .ok (.iconst 0, 1) := by decide +kernel
theorem dX3_roundsOn_10 : decode cX3_roundsOn 10 = .ok (.invokevirtual 98, 3) := by decide +kernel
theorem dX3_roundsOn_13 : decode cX3_roundsOn 13 = .ok (.iinc 3 1, 3) := by decide +kernel
theorem dX3_roundsOn_16 : decode cX3_roundsOn 16 = .ok (.goto (-14), 3) := by decide +kernel
theorem dX3_roundsOn_19 : decode cX3_roundsOn 19 = .ok (.return_, 1) := by decide +kernel
theorem dX3_upright_0 : decode cX3_upright 0 = .ok (.iconst 0, 1) := by decide +kernel
theorem dX3_upright_1 : decode cX3_upright 1 = .ok (.istore_n 1, 1) := by decide +kernel
theorem dX3_upright_2 : decode cX3_upright 2 = .ok (.iload_n 1, 1) := by decide +kernel
theorem dX3_upright_3 : decode cX3_upright 3 = .ok (.bipush 8, 2) := by decide +kernel
theorem dX3_upright_5 : decode cX3_upright 5 = .ok (.if_icmp .ge 17, 3) := by decide +kernel
theorem dX3_upright_8 : decode cX3_upright 8 = .ok (.aload_n 0, 1) := by decide +kernel
theorem dX3_upright_9 : decode cX3_upright 9 = .ok (.iload_n 1, 1) := by decide +kernel
theorem dX3_upright_10 : decode cX3_upright 10 = .ok (.iconst 2, 1) := by decide +kernel
theorem dX3_upright_11 : decode cX3_upright 11 = .ok (.invokestatic 64, 3) := by decide +kernel
theorem dX3_upright_14 : decode cX3_upright 14 = .ok (.iconst 0, 1) := by decide +kernel
theorem dX3_upright_15 : decode cX3_upright 15 = .ok (.iastore, 1) := by decide +kernel
theorem dX3_upright_16 : decode cX3_upright 16 = .ok (.iinc 1 1, 3) := by decide +kernel
theorem dX3_upright_19 : decode cX3_upright 19 = .ok (.goto (-17), 3) := by decide +kernel
theorem dX3_upright_22 : decode cX3_upright 22 = .ok (.return_, 1) := by decide +kernel
theorem dX3_blocksIn_0 : decode cX3_blocksIn 0 = .ok (.aload_n 0, 1) := by decide +kernel
theorem dX3_blocksIn_1 : decode cX3_blocksIn 1 = .ok (.iload_n 1, 1) := by decide +kernel
theorem dX3_blocksIn_2 : decode cX3_blocksIn 2 = .ok (.iconst 3, 1) := by decide +kernel
theorem dX3_blocksIn_3 : decode cX3_blocksIn 3 = .ok (.invokestatic 64, 3) := by decide +kernel
theorem dX3_blocksIn_6 : decode cX3_blocksIn 6 = .ok (.iconst 1, 1) := by decide +kernel
theorem dX3_blocksIn_7 : decode cX3_blocksIn 7 = .ok (.iastore, 1) := by decide +kernel
theorem dX3_blocksIn_8 : decode cX3_blocksIn 8 = .ok (.aload_n 0, 1) := by decide +kernel
theorem dX3_blocksIn_9 : decode cX3_blocksIn 9 = .ok (.iload_n 1, 1) := by decide +kernel
theorem dX3_blocksIn_10 : decode cX3_blocksIn 10 = .ok (.iconst 2, 1) := by decide +kernel
theorem dX3_blocksIn_11 : decode cX3_blocksIn 11 = .ok (.invokestatic 64, 3) := by decide +kernel
theorem dX3_blocksIn_14 : decode cX3_blocksIn 14 = .ok (.iconst 0, 1) := by decide +kernel
theorem dX3_blocksIn_15 : decode cX3_blocksIn 15 = .ok (.iastore, 1) := by decide +kernel
theorem dX3_blocksIn_16 : decode cX3_blocksIn 16 = .ok (.return_, 1) := by decide +kernel
theorem dX3_changes_0 : decode cX3_changes 0 = .ok (.iconst 0, 1) := by decide +kernel
theorem dX3_changes_1 : decode cX3_changes 1 = .ok (.istore_n 3, 1) := by decide +kernel
theorem dX3_changes_2 : decode cX3_changes 2 = .ok (.iload_n 3, 1) := by decide +kernel
theorem dX3_changes_3 : decode cX3_changes 3 = .ok (.iconst 1, 1) := by decide +kernel
theorem dX3_changes_4 : decode cX3_changes 4 = .ok (.if_icmp .gt 41, 3) := by decide +kernel
theorem dX3_changes_7 : decode cX3_changes 7 = .ok (.aload_n 0, 1) := by decide +kernel
theorem dX3_changes_8 : decode cX3_changes 8 = .ok (.iload_n 1, 1) := by decide +kernel
theorem dX3_changes_9 : decode cX3_changes 9 = .ok (.iload_n 3, 1) := by decide +kernel
theorem dX3_changes_10 : decode cX3_changes 10 = .ok (.invokestatic 64, 3) := by decide +kernel
theorem dX3_changes_13 : decode cX3_changes 13 = .ok (.iaload, 1) := by decide +kernel
theorem dX3_changes_14 : decode cX3_changes 14 = .ok (.istore 4, 2) := by decide +kernel
theorem dX3_changes_16 : decode cX3_changes 16 = .ok (.aload_n 0, 1) := by decide +kernel
theorem dX3_changes_17 : decode cX3_changes 17 = .ok (.iload_n 1, 1) := by decide +kernel
theorem dX3_changes_18 : decode cX3_changes 18 = .ok (.iload_n 3, 1) := by decide +kernel
theorem dX3_changes_19 : decode cX3_changes 19 = .ok (.invokestatic 64, 3) := by decide +kernel
theorem dX3_changes_22 : decode cX3_changes 22 = .ok (.aload_n 0, 1) := by decide +kernel
theorem dX3_changes_23 : decode cX3_changes 23 = .ok (.iload_n 2, 1) := by decide +kernel
theorem dX3_changes_24 : decode cX3_changes 24 = .ok (.iload_n 3, 1) := by decide +kernel
theorem dX3_changes_25 : decode cX3_changes 25 = .ok (.invokestatic 64, 3) := by decide +kernel
theorem dX3_changes_28 : decode cX3_changes 28 = .ok (.iaload, 1) := by decide +kernel
theorem dX3_changes_29 : decode cX3_changes 29 = .ok (.iastore, 1) := by decide +kernel
theorem dX3_changes_30 : decode cX3_changes 30 = .ok (.aload_n 0, 1) := by decide +kernel
theorem dX3_changes_31 : decode cX3_changes 31 = .ok (.iload_n 2, 1) := by decide +kernel
theorem dX3_changes_32 : decode cX3_changes 32 = .ok (.iload_n 3, 1) := by decide +kernel
theorem dX3_changes_33 : decode cX3_changes 33 = .ok (.invokestatic 64, 3) := by decide +kernel
theorem dX3_changes_36 : decode cX3_changes 36 = .ok (.iload 4, 2) := by decide +kernel
theorem dX3_changes_38 : decode cX3_changes 38 = .ok (.iastore, 1) := by decide +kernel
theorem dX3_changes_39 : decode cX3_changes 39 = .ok (.iinc 3 1, 3) := by decide +kernel
theorem dX3_changes_42 : decode cX3_changes 42 = .ok (.goto (-40), 3) := by decide +kernel
theorem dX3_changes_45 : decode cX3_changes 45 = .ok (.aload_n 0, 1) := by decide +kernel
theorem dX3_changes_46 : decode cX3_changes 46 = .ok (.invokestatic 102, 3) := by decide +kernel
theorem dX3_changes_49 : decode cX3_changes 49 = .ok (.return_, 1) := by decide +kernel
theorem dX3_here_0 : decode cX3_here 0 = .ok (.aload_n 0, 1) := by decide +kernel
theorem dX3_here_1 : decode cX3_here 1 = .ok (.getfield 106, 3) := by decide +kernel
theorem dX3_here_4 : decode cX3_here 4 = .ok (.aload_n 0, 1) := by decide +kernel
theorem dX3_here_5 : decode cX3_here 5 = .ok (.getfield 110, 3) := by decide +kernel
theorem dX3_here_8 : decode cX3_here 8 = .ok (.if_icmp .ge 24, 3) := by decide +kernel
theorem dX3_here_11 : decode cX3_here 11 = .ok (.aload_n 0, 1) := by decide +kernel
theorem dX3_here_12 : decode cX3_here 12 = .ok (.getfield 49, 3) := by decide +kernel
theorem dX3_here_15 : decode cX3_here 15 = .ok (.aload_n 0, 1) := by decide +kernel
theorem dX3_here_16 : decode cX3_here 16 = .ok (.getfield 113, 3) := by decide +kernel
theorem dX3_here_19 : decode cX3_here 19 = .ok (.aload_n 0, 1) := by decide +kernel
theorem dX3_here_20 : decode cX3_here 20 = .ok (.getfield 106, 3) := by decide +kernel
theorem dX3_here_23 : decode cX3_here 23 = .ok (.iadd, 1) := by decide +kernel
theorem dX3_here_24 : decode cX3_here 24 = .ok (.iaload, 1) := by decide +kernel
theorem dX3_here_25 : decode cX3_here 25 = .ok (.sipush 255, 3) := by decide +kernel
theorem dX3_here_28 : decode cX3_here 28 = .ok (.iand, 1) := by decide +kernel
theorem dX3_here_29 : decode cX3_here 29 = .ok (.goto 4, 3) := by decide +kernel
theorem dX3_here_32 : decode cX3_here 32 = .ok (.iconst (-1), 1) := by decide +kernel
theorem dX3_here_33 : decode cX3_here 33 = .ok (.ireturn, 1) := by decide +kernel
theorem dX3_readsNumber_0 : decode cX3_readsNumber 0 = .ok (.aload_n 0, 1) := by decide +kernel
theorem dX3_readsNumber_1 : decode cX3_readsNumber 1 = .ok (.getfield 25, 3) := by decide +kernel
theorem dX3_readsNumber_4 : decode cX3_readsNumber 4 = .ok (.iload_n 1, 1) := by decide +kernel
theorem dX3_readsNumber_5 : decode cX3_readsNumber 5 = .ok (.iconst 0, 1) := by decide +kernel
theorem dX3_readsNumber_6 : decode cX3_readsNumber 6 = .ok (.iastore, 1) := by decide +kernel
theorem dX3_readsNumber_7 : decode cX3_readsNumber 7 = .ok (.iconst 0, 1) := by decide +kernel
theorem dX3_readsNumber_8 : decode cX3_readsNumber 8 = .ok (.istore_n 3, 1) := by decide +kernel
theorem dX3_readsNumber_9 : decode cX3_readsNumber 9 = .ok (.iload_n 3, 1) := by decide +kernel
theorem dX3_readsNumber_10 : decode cX3_readsNumber 10 = .ok (.iload_n 2, 1) := by decide +kernel
theorem dX3_readsNumber_11 : decode cX3_readsNumber 11 = .ok (.if_icmp .ge 58, 3) := by decide +kernel
theorem dX3_readsNumber_14 : decode cX3_readsNumber 14 = .ok (.aload_n 0, 1) := by decide +kernel
theorem dX3_readsNumber_15 : decode cX3_readsNumber 15 = .ok (.invokevirtual 116, 3) := by decide +kernel
theorem dX3_readsNumber_18 : decode cX3_readsNumber 18 = .ok (.bipush 48, 2) := by decide +kernel
theorem dX3_readsNumber_20 : decode cX3_readsNumber 20 = .ok (.bipush 57, 2) := by decide +kernel
theorem dX3_readsNumber_22 : decode cX3_readsNumber 22 = .ok (.invokestatic 52, 3) := by decide +kernel
theorem dX3_readsNumber_25 : decode cX3_readsNumber 25 = .ok (.ifCond .ne 5, 3) := by decide +kernel
theorem dX3_readsNumber_28 : decode cX3_readsNumber 28 = .ok (.iconst 0, 1) := by decide +kernel
theorem dX3_readsNumber_29 : decode cX3_readsNumber 29 = .ok (.ireturn, 1) := by decide +kernel
theorem dX3_readsNumber_30 : decode cX3_readsNumber 30 = .ok (.aload_n 0, 1) := by decide +kernel
theorem dX3_readsNumber_31 : decode cX3_readsNumber 31 = .ok (.getfield 25, 3) := by decide +kernel
theorem dX3_readsNumber_34 : decode cX3_readsNumber 34 = .ok (.iload_n 1, 1) := by decide +kernel
theorem dX3_readsNumber_35 : decode cX3_readsNumber 35 = .ok (.bipush 10, 2) := by decide +kernel
theorem dX3_readsNumber_37 : decode cX3_readsNumber 37 = .ok (.aload_n 0, 1) := by decide +kernel
theorem dX3_readsNumber_38 : decode cX3_readsNumber 38 = .ok (.getfield 25, 3) := by decide +kernel
theorem dX3_readsNumber_41 : decode cX3_readsNumber 41 = .ok (.iload_n 1, 1) := by decide +kernel
theorem dX3_readsNumber_42 : decode cX3_readsNumber 42 = .ok (.iaload, 1) := by decide +kernel
theorem dX3_readsNumber_43 : decode cX3_readsNumber 43 = .ok (.imul, 1) := by decide +kernel
theorem dX3_readsNumber_44 : decode cX3_readsNumber 44 = .ok (.aload_n 0, 1) := by decide +kernel
theorem dX3_readsNumber_45 : decode cX3_readsNumber 45 = .ok (.invokevirtual 116, 3) := by decide +kernel
theorem dX3_readsNumber_48 : decode cX3_readsNumber 48 = .ok (.iadd, 1) := by decide +kernel
theorem dX3_readsNumber_49 : decode cX3_readsNumber 49 = .ok (.bipush 48, 2) := by decide +kernel
theorem dX3_readsNumber_51 : decode cX3_readsNumber 51 = .ok (.isub, 1) := by decide +kernel
theorem dX3_readsNumber_52 : decode cX3_readsNumber 52 = .ok (.iastore, 1) := by decide +kernel
theorem dX3_readsNumber_53 : decode cX3_readsNumber 53 = .ok (.aload_n 0, 1) := by decide +kernel
theorem dX3_readsNumber_54 : decode cX3_readsNumber 54 = .ok (.dup, 1) := by decide +kernel
theorem dX3_readsNumber_55 : decode cX3_readsNumber 55 = .ok (.getfield 106, 3) := by decide +kernel
theorem dX3_readsNumber_58 : decode cX3_readsNumber 58 = .ok (.iconst 1, 1) := by decide +kernel
theorem dX3_readsNumber_59 : decode cX3_readsNumber 59 = .ok (.iadd, 1) := by decide +kernel
theorem dX3_readsNumber_60 : decode cX3_readsNumber 60 = .ok (.putfield 106, 3) := by decide +kernel
theorem dX3_readsNumber_63 : decode cX3_readsNumber 63 = .ok (.iinc 3 1, 3) := by decide +kernel
theorem dX3_readsNumber_66 : decode cX3_readsNumber 66 = .ok (.goto (-57), 3) := by decide +kernel
theorem dX3_readsNumber_69 : decode cX3_readsNumber 69 = .ok (.iconst 1, 1) := by decide +kernel
theorem dX3_readsNumber_70 : decode cX3_readsNumber 70 = .ok (.ireturn, 1) := by decide +kernel
theorem dX3_readsStatement_0 : decode cX3_readsStatement 0 = .ok (.aload_n 0, 1) := by decide +kernel
theorem dX3_readsStatement_1 : decode cX3_readsStatement 1 = .ok (.invokevirtual 116, 3) := by decide +kernel
theorem dX3_readsStatement_4 : decode cX3_readsStatement 4 = .ok (.istore_n 1, 1) := by decide +kernel
theorem dX3_readsStatement_5 : decode cX3_readsStatement 5 = .ok (.aload_n 0, 1) := by decide +kernel
theorem dX3_readsStatement_6 : decode cX3_readsStatement 6 = .ok (.dup, 1) := by decide +kernel
theorem dX3_readsStatement_7 : decode cX3_readsStatement 7 = .ok (.getfield 106, 3) := by decide +kernel
theorem dX3_readsStatement_10 : decode cX3_readsStatement 10 = .ok (.iconst 1, 1) := by decide +kernel
theorem dX3_readsStatement_11 : decode cX3_readsStatement 11 = .ok (.iadd, 1) := by decide +kernel
theorem dX3_readsStatement_12 : decode cX3_readsStatement 12 = .ok (.putfield 106, 3) := by decide +kernel
theorem dX3_readsStatement_15 : decode cX3_readsStatement 15 = .ok (.iload_n 1, 1) := by decide +kernel
theorem dX3_readsStatement_16 : decode cX3_readsStatement 16 = .ok (.lookupswitch 134 #[(98, 114), (104, 124), (112, 60), (114, 124), (116, 87), (120, 60)], 60) := by decide +kernel
theorem dX3_readsStatement_76 : decode cX3_readsStatement 76 = .ok (.aload_n 0, 1) := by decide +kernel
theorem dX3_readsStatement_77 : decode cX3_readsStatement 77 = .ok (.iconst 0, 1) := by decide +kernel
theorem dX3_readsStatement_78 : decode cX3_readsStatement 78 = .ok (.iconst 1, 1) := by decide +kernel
theorem dX3_readsStatement_79 : decode cX3_readsStatement 79 = .ok (.invokevirtual 120, 3) := by decide +kernel
theorem dX3_readsStatement_82 : decode cX3_readsStatement 82 = .ok (.ifCond .eq 16, 3) := by decide +kernel
theorem dX3_readsStatement_85 : decode cX3_readsStatement 85 = .ok (.aload_n 0, 1) := by decide +kernel
theorem dX3_readsStatement_86 : decode cX3_readsStatement 86 = .ok (.iconst 1, 1) := by decide +kernel
theorem dX3_readsStatement_87 : decode cX3_readsStatement 87 = .ok (.iconst 1, 1) := by decide +kernel
theorem dX3_readsStatement_88 : decode cX3_readsStatement 88 = .ok (.invokevirtual 120, 3) := by decide +kernel
theorem dX3_readsStatement_91 : decode cX3_readsStatement 91 = .ok (.ifCond .eq 7, 3) := by decide +kernel
theorem dX3_readsStatement_94 : decode cX3_readsStatement 94 = .ok (.iconst 1, 1) := by decide +kernel
theorem dX3_readsStatement_95 : decode cX3_readsStatement 95 = .ok (.goto 4, 3) := by decide +kernel
theorem dX3_readsStatement_98 : decode cX3_readsStatement 98 = .ok (.iconst 0, 1) := by decide +kernel
theorem dX3_readsStatement_99 : decode cX3_readsStatement 99 = .ok (.istore_n 2, 1) := by decide +kernel
theorem dX3_readsStatement_100 : decode cX3_readsStatement 100 = .ok (.goto 62, 3) := by decide +kernel
theorem dX3_readsStatement_103 : decode cX3_readsStatement 103 = .ok (.aload_n 0, 1) := by decide +kernel
theorem dX3_readsStatement_104 : decode cX3_readsStatement 104 = .ok (.iconst 0, 1) := by decide +kernel
theorem dX3_readsStatement_105 : decode cX3_readsStatement 105 = .ok (.iconst 1, 1) := by decide +kernel
theorem dX3_readsStatement_106 : decode cX3_readsStatement 106 = .ok (.invokevirtual 120, 3) := by decide +kernel
theorem dX3_readsStatement_109 : decode cX3_readsStatement 109 = .ok (.ifCond .eq 16, 3) := by decide +kernel
theorem dX3_readsStatement_112 : decode cX3_readsStatement 112 = .ok (.aload_n 0, 1) := by decide +kernel
theorem dX3_readsStatement_113 : decode cX3_readsStatement 113 = .ok (.iconst 1, 1) := by decide +kernel
theorem dX3_readsStatement_114 : decode cX3_readsStatement 114 = .ok (.iconst 2, 1) := by decide +kernel
theorem dX3_readsStatement_115 : decode cX3_readsStatement 115 = .ok (.invokevirtual 120, 3) := by decide +kernel
theorem dX3_readsStatement_118 : decode cX3_readsStatement 118 = .ok (.ifCond .eq 7, 3) := by decide +kernel
theorem dX3_readsStatement_121 : decode cX3_readsStatement 121 = .ok (.iconst 1, 1) := by decide +kernel
theorem dX3_readsStatement_122 : decode cX3_readsStatement 122 = .ok (.goto 4, 3) := by decide +kernel
theorem dX3_readsStatement_125 : decode cX3_readsStatement 125 = .ok (.iconst 0, 1) := by decide +kernel
theorem dX3_readsStatement_126 : decode cX3_readsStatement 126 = .ok (.istore_n 2, 1) := by decide +kernel
theorem dX3_readsStatement_127 : decode cX3_readsStatement 127 = .ok (.goto 35, 3) := by decide +kernel
theorem dX3_readsStatement_130 : decode cX3_readsStatement 130 = .ok (.aload_n 0, 1) := by decide +kernel
theorem dX3_readsStatement_131 : decode cX3_readsStatement 131 = .ok (.iconst 0, 1) := by decide +kernel
theorem dX3_readsStatement_132 : decode cX3_readsStatement 132 = .ok (.iconst 1, 1) := by decide +kernel
theorem dX3_readsStatement_133 : decode cX3_readsStatement 133 = .ok (.invokevirtual 120, 3) := by decide +kernel
theorem dX3_readsStatement_136 : decode cX3_readsStatement 136 = .ok (.istore_n 2, 1) := by decide +kernel
theorem dX3_readsStatement_137 : decode cX3_readsStatement 137 = .ok (.goto 25, 3) := by decide +kernel
theorem dX3_readsStatement_140 : decode cX3_readsStatement 140 = .ok (.aload_n 0, 1) := by decide +kernel
theorem dX3_readsStatement_141 : decode cX3_readsStatement 141 = .ok (.iconst 0, 1) := by decide +kernel
theorem dX3_readsStatement_142 : decode cX3_readsStatement 142 = .ok (.iconst 2, 1) := by decide +kernel
theorem dX3_readsStatement_143 : decode cX3_readsStatement 143 = .ok (.invokevirtual 120, 3) := by decide +kernel
theorem dX3_readsStatement_146 : decode cX3_readsStatement 146 = .ok (.istore_n 2, 1) := by decide +kernel
theorem dX3_readsStatement_147 : decode cX3_readsStatement 147 = .ok (.goto 15, 3) := by decide +kernel
theorem dX3_readsStatement_150 : decode cX3_readsStatement 150 = .ok (.aload_n 0, 1) := by decide +kernel
theorem dX3_readsStatement_151 : decode cX3_readsStatement 151 = .ok (.dup, 1) := by decide +kernel
theorem dX3_readsStatement_152 : decode cX3_readsStatement 152 = .ok (.getfield 106, 3) := by decide +kernel
theorem dX3_readsStatement_155 : decode cX3_readsStatement 155 = .ok (.iconst 1, 1) := by decide +kernel
theorem dX3_readsStatement_156 : decode cX3_readsStatement 156 = .ok (.isub, 1) := by decide +kernel
theorem dX3_readsStatement_157 : decode cX3_readsStatement 157 = .ok (.putfield 106, 3) := by decide +kernel
theorem dX3_readsStatement_160 : decode cX3_readsStatement 160 = .ok (.iconst 0, 1) := by decide +kernel
theorem dX3_readsStatement_161 : decode cX3_readsStatement 161 = .ok (.ireturn, 1) := by decide +kernel
theorem dX3_readsStatement_162 : decode cX3_readsStatement 162 = .ok (.iload_n 2, 1) := by decide +kernel
theorem dX3_readsStatement_163 : decode cX3_readsStatement 163 = .ok (.ifCond .eq 12, 3) := by decide +kernel
theorem dX3_readsStatement_166 : decode cX3_readsStatement 166 = .ok (.aload_n 0, 1) := by decide +kernel
theorem dX3_readsStatement_167 : decode cX3_readsStatement 167 = .ok (.invokevirtual 116, 3) := by decide +kernel
theorem dX3_readsStatement_170 : decode cX3_readsStatement 170 = .ok (.bipush 59, 2) := by decide +kernel
theorem dX3_readsStatement_172 : decode cX3_readsStatement 172 = .ok (.if_icmp .eq 5, 3) := by decide +kernel
theorem dX3_readsStatement_175 : decode cX3_readsStatement 175 = .ok (.iconst 0, 1) := by decide +kernel
theorem dX3_readsStatement_176 : decode cX3_readsStatement 176 = .ok (.ireturn, 1) := by decide +kernel
theorem dX3_readsStatement_177 : decode cX3_readsStatement 177 = .ok (.aload_n 0, 1) := by decide +kernel
theorem dX3_readsStatement_178 : decode cX3_readsStatement 178 = .ok (.dup, 1) := by decide +kernel
theorem dX3_readsStatement_179 : decode cX3_readsStatement 179 = .ok (.getfield 106, 3) := by decide +kernel
theorem dX3_readsStatement_182 : decode cX3_readsStatement 182 = .ok (.iconst 1, 1) := by decide +kernel
theorem dX3_readsStatement_183 : decode cX3_readsStatement 183 = .ok (.iadd, 1) := by decide +kernel
theorem dX3_readsStatement_184 : decode cX3_readsStatement 184 = .ok (.putfield 106, 3) := by decide +kernel
theorem dX3_readsStatement_187 : decode cX3_readsStatement 187 = .ok (.iconst 1, 1) := by decide +kernel
theorem dX3_readsStatement_188 : decode cX3_readsStatement 188 = .ok (.ireturn, 1) := by decide +kernel
theorem dX3_adds_0 : decode cX3_adds 0 = .ok (.aload_n 0, 1) := by decide +kernel
theorem dX3_adds_1 : decode cX3_adds 1 = .ok (.getfield 9, 3) := by decide +kernel
theorem dX3_adds_4 : decode cX3_adds 4 = .ok (.iconst 0, 1) := by decide +kernel
theorem dX3_adds_5 : decode cX3_adds 5 = .ok (.iaload, 1) := by decide +kernel
theorem dX3_adds_6 : decode cX3_adds 6 = .ok (.istore_n 3, 1) := by decide +kernel
theorem dX3_adds_7 : decode cX3_adds 7 = .ok (.aload_n 0, 1) := by decide +kernel
theorem dX3_adds_8 : decode cX3_adds 8 = .ok (.getfield 9, 3) := by decide +kernel
theorem dX3_adds_11 : decode cX3_adds 11 = .ok (.iload_n 3, 1) := by decide +kernel
theorem dX3_adds_12 : decode cX3_adds 12 = .ok (.iconst 0, 1) := by decide +kernel
theorem dX3_adds_13 : decode cX3_adds 13 = .ok (.invokestatic 64, 3) := by decide +kernel
theorem dX3_adds_16 : decode cX3_adds 16 = .ok (.iload_n 1, 1) := by decide +kernel
theorem dX3_adds_17 : decode cX3_adds 17 = .ok (.iastore, 1) := by decide +kernel
theorem dX3_adds_18 : decode cX3_adds 18 = .ok (.aload_n 0, 1) := by decide +kernel
theorem dX3_adds_19 : decode cX3_adds 19 = .ok (.getfield 9, 3) := by decide +kernel
theorem dX3_adds_22 : decode cX3_adds 22 = .ok (.iload_n 3, 1) := by decide +kernel
theorem dX3_adds_23 : decode cX3_adds 23 = .ok (.iconst 1, 1) := by decide +kernel
theorem dX3_adds_24 : decode cX3_adds 24 = .ok (.invokestatic 64, 3) := by decide +kernel
theorem dX3_adds_27 : decode cX3_adds 27 = .ok (.iload_n 2, 1) := by decide +kernel
theorem dX3_adds_28 : decode cX3_adds 28 = .ok (.iastore, 1) := by decide +kernel
theorem dX3_adds_29 : decode cX3_adds 29 = .ok (.aload_n 0, 1) := by decide +kernel
theorem dX3_adds_30 : decode cX3_adds 30 = .ok (.getfield 9, 3) := by decide +kernel
theorem dX3_adds_33 : decode cX3_adds 33 = .ok (.iload_n 3, 1) := by decide +kernel
theorem dX3_adds_34 : decode cX3_adds 34 = .ok (.iconst 2, 1) := by decide +kernel
theorem dX3_adds_35 : decode cX3_adds 35 = .ok (.invokestatic 64, 3) := by decide +kernel
theorem dX3_adds_38 : decode cX3_adds 38 = .ok (.iconst 0, 1) := by decide +kernel
theorem dX3_adds_39 : decode cX3_adds 39 = .ok (.iastore, 1) := by decide +kernel
theorem dX3_adds_40 : decode cX3_adds 40 = .ok (.aload_n 0, 1) := by decide +kernel
theorem dX3_adds_41 : decode cX3_adds 41 = .ok (.getfield 9, 3) := by decide +kernel
theorem dX3_adds_44 : decode cX3_adds 44 = .ok (.iload_n 3, 1) := by decide +kernel
theorem dX3_adds_45 : decode cX3_adds 45 = .ok (.iconst 3, 1) := by decide +kernel
theorem dX3_adds_46 : decode cX3_adds 46 = .ok (.invokestatic 64, 3) := by decide +kernel
theorem dX3_adds_49 : decode cX3_adds 49 = .ok (.iconst 0, 1) := by decide +kernel
theorem dX3_adds_50 : decode cX3_adds 50 = .ok (.iastore, 1) := by decide +kernel
theorem dX3_adds_51 : decode cX3_adds 51 = .ok (.aload_n 0, 1) := by decide +kernel
theorem dX3_adds_52 : decode cX3_adds 52 = .ok (.getfield 9, 3) := by decide +kernel
theorem dX3_adds_55 : decode cX3_adds 55 = .ok (.iconst 0, 1) := by decide +kernel
theorem dX3_adds_56 : decode cX3_adds 56 = .ok (.dup2, 1) := by decide +kernel
theorem dX3_adds_57 : decode cX3_adds 57 = .ok (.iaload, 1) := by decide +kernel
theorem dX3_adds_58 : decode cX3_adds 58 = .ok (.iconst 1, 1) := by decide +kernel
theorem dX3_adds_59 : decode cX3_adds 59 = .ok (.iadd, 1) := by decide +kernel
theorem dX3_adds_60 : decode cX3_adds 60 = .ok (.iastore, 1) := by decide +kernel
theorem dX3_adds_61 : decode cX3_adds 61 = .ok (.return_, 1) := by decide +kernel
theorem dX3_turnsBlock_0 : decode cX3_turnsBlock 0 = .ok (.iconst 1, 1) := by decide +kernel
theorem dX3_turnsBlock_1 : decode cX3_turnsBlock 1 = .ok (.aload_n 0, 1) := by decide +kernel
theorem dX3_turnsBlock_2 : decode cX3_turnsBlock 2 = .ok (.getfield 9, 3) := by decide +kernel
theorem dX3_turnsBlock_5 : decode cX3_turnsBlock 5 = .ok (.iload_n 1, 1) := by decide +kernel
theorem dX3_turnsBlock_6 : decode cX3_turnsBlock 6 = .ok (.iconst 3, 1) := by decide +kernel
theorem dX3_turnsBlock_7 : decode cX3_turnsBlock 7 = .ok (.invokestatic 64, 3) := by decide +kernel
theorem dX3_turnsBlock_10 : decode cX3_turnsBlock 10 = .ok (.iaload, 1) := by decide +kernel
theorem dX3_turnsBlock_11 : decode cX3_turnsBlock 11 = .ok (.isub, 1) := by decide +kernel
theorem dX3_turnsBlock_12 : decode cX3_turnsBlock 12 = .ok (.istore_n 2, 1) := by decide +kernel
theorem dX3_turnsBlock_13 : decode cX3_turnsBlock 13 = .ok (.aload_n 0, 1) := by decide +kernel
theorem dX3_turnsBlock_14 : decode cX3_turnsBlock 14 = .ok (.getfield 9, 3) := by decide +kernel
theorem dX3_turnsBlock_17 : decode cX3_turnsBlock 17 = .ok (.iload_n 1, 1) := by decide +kernel
theorem dX3_turnsBlock_18 : decode cX3_turnsBlock 18 = .ok (.iconst 3, 1) := by decide +kernel
theorem dX3_turnsBlock_19 : decode cX3_turnsBlock 19 = .ok (.invokestatic 64, 3) := by decide +kernel
theorem dX3_turnsBlock_22 : decode cX3_turnsBlock 22 = .ok (.iload_n 2, 1) := by decide +kernel
theorem dX3_turnsBlock_23 : decode cX3_turnsBlock 23 = .ok (.iastore, 1) := by decide +kernel
theorem dX3_turnsBlock_24 : decode cX3_turnsBlock 24 = .ok (.iload_n 2, 1) := by decide +kernel
theorem dX3_turnsBlock_25 : decode cX3_turnsBlock 25 = .ok (.iconst 1, 1) := by decide +kernel
theorem dX3_turnsBlock_26 : decode cX3_turnsBlock 26 = .ok (.if_icmp .ne 14, 3) := by decide +kernel
theorem dX3_turnsBlock_29 : decode cX3_turnsBlock 29 = .ok (.aload_n 0, 1) := by decide +kernel
theorem dX3_turnsBlock_30 : decode cX3_turnsBlock 30 = .ok (.getfield 9, 3) := by decide +kernel
theorem dX3_turnsBlock_33 : decode cX3_turnsBlock 33 = .ok (.iload_n 1, 1) := by decide +kernel
theorem dX3_turnsBlock_34 : decode cX3_turnsBlock 34 = .ok (.iconst 2, 1) := by decide +kernel
theorem dX3_turnsBlock_35 : decode cX3_turnsBlock 35 = .ok (.invokestatic 64, 3) := by decide +kernel
theorem dX3_turnsBlock_38 : decode cX3_turnsBlock 38 = .ok (.iconst 0, 1) := by decide +kernel
theorem dX3_turnsBlock_39 : decode cX3_turnsBlock 39 = .ok (.iastore, 1) := by decide +kernel
theorem dX3_turnsBlock_40 : decode cX3_turnsBlock 40 = .ok (.return_, 1) := by decide +kernel
theorem dX3_isDone_0 : decode cX3_isDone 0 = .ok (.aload_n 0, 1) := by decide +kernel
theorem dX3_isDone_1 : decode cX3_isDone 1 = .ok (.getfield 25, 3) := by decide +kernel
theorem dX3_isDone_4 : decode cX3_isDone 4 = .ok (.iconst 0, 1) := by decide +kernel
theorem dX3_isDone_5 : decode cX3_isDone 5 = .ok (.iaload, 1) := by decide +kernel
theorem dX3_isDone_6 : decode cX3_isDone 6 = .ok (.istore_n 2, 1) := by decide +kernel
theorem dX3_isDone_7 : decode cX3_isDone 7 = .ok (.aload_n 0, 1) := by decide +kernel
theorem dX3_isDone_8 : decode cX3_isDone 8 = .ok (.getfield 25, 3) := by decide +kernel
theorem dX3_isDone_11 : decode cX3_isDone 11 = .ok (.iconst 1, 1) := by decide +kernel
theorem dX3_isDone_12 : decode cX3_isDone 12 = .ok (.iaload, 1) := by decide +kernel
theorem dX3_isDone_13 : decode cX3_isDone 13 = .ok (.istore_n 3, 1) := by decide +kernel
theorem dX3_isDone_14 : decode cX3_isDone 14 = .ok (.iload_n 1, 1) := by decide +kernel
theorem dX3_isDone_15 : decode cX3_isDone 15 = .ok (.lookupswitch 184 #[(98, 111), (104, 128), (112, 49), (114, 147), (116, 76)], 49) := by decide +kernel
theorem dX3_isDone_64 : decode cX3_isDone 64 = .ok (.iload_n 2, 1) := by decide +kernel
theorem dX3_isDone_65 : decode cX3_isDone 65 = .ok (.bipush 8, 2) := by decide +kernel
theorem dX3_isDone_67 : decode cX3_isDone 67 = .ok (.if_icmp .ge 14, 3) := by decide +kernel
theorem dX3_isDone_70 : decode cX3_isDone 70 = .ok (.aload_n 0, 1) := by decide +kernel
theorem dX3_isDone_71 : decode cX3_isDone 71 = .ok (.getfield 9, 3) := by decide +kernel
theorem dX3_isDone_74 : decode cX3_isDone 74 = .ok (.iconst 0, 1) := by decide +kernel
theorem dX3_isDone_75 : decode cX3_isDone 75 = .ok (.iaload, 1) := by decide +kernel
theorem dX3_isDone_76 : decode cX3_isDone 76 = .ok (.bipush 8, 2) := by decide +kernel
theorem dX3_isDone_78 : decode cX3_isDone 78 = .ok (.if_icmp .ne 5, 3) := by decide +kernel
theorem dX3_isDone_81 : decode cX3_isDone 81 = .ok (.iconst 0, 1) := by decide +kernel
theorem dX3_isDone_82 : decode cX3_isDone 82 = .ok (.ireturn, 1) := by decide +kernel
theorem dX3_isDone_83 : decode cX3_isDone 83 = .ok (.aload_n 0, 1) := by decide +kernel
theorem dX3_isDone_84 : decode cX3_isDone 84 = .ok (.iload_n 2, 1) := by decide +kernel
theorem dX3_isDone_85 : decode cX3_isDone 85 = .ok (.iload_n 3, 1) := by decide +kernel
theorem dX3_isDone_86 : decode cX3_isDone 86 = .ok (.invokevirtual 123, 3) := by decide +kernel
theorem dX3_isDone_89 : decode cX3_isDone 89 = .ok (.iconst 1, 1) := by decide +kernel
theorem dX3_isDone_90 : decode cX3_isDone 90 = .ok (.ireturn, 1) := by decide +kernel
theorem dX3_isDone_91 : decode cX3_isDone 91 = .ok (.aload_n 0, 1) := by decide +kernel
theorem dX3_isDone_92 : decode cX3_isDone 92 = .ok (.iload_n 2, 1) := by decide +kernel
theorem dX3_isDone_93 : decode cX3_isDone 93 = .ok (.invokevirtual 127, 3) := by decide +kernel
theorem dX3_isDone_96 : decode cX3_isDone 96 = .ok (.ifCond .eq 15, 3) := by decide +kernel
theorem dX3_isDone_99 : decode cX3_isDone 99 = .ok (.iload_n 3, 1) := by decide +kernel
theorem dX3_isDone_100 : decode cX3_isDone 100 = .ok (.aload_n 0, 1) := by decide +kernel
theorem dX3_isDone_101 : decode cX3_isDone 101 = .ok (.getfield 9, 3) := by decide +kernel
theorem dX3_isDone_104 : decode cX3_isDone 104 = .ok (.iload_n 2, 1) := by decide +kernel
theorem dX3_isDone_105 : decode cX3_isDone 105 = .ok (.invokestatic 84, 3) := by decide +kernel
theorem dX3_isDone_108 : decode cX3_isDone 108 = .ok (.if_icmp .le 5, 3) := by decide +kernel
theorem dX3_isDone_111 : decode cX3_isDone 111 = .ok (.iconst 0, 1) := by decide +kernel
theorem dX3_isDone_112 : decode cX3_isDone 112 = .ok (.ireturn, 1) := by decide +kernel
theorem dX3_isDone_113 : decode cX3_isDone 113 = .ok (.aload_n 0, 1) := by decide +kernel
theorem dX3_isDone_114 : decode cX3_isDone 114 = .ok (.getfield 9, 3) := by decide +kernel
theorem dX3_isDone_117 : decode cX3_isDone 117 = .ok (.iload_n 2, 1) := by decide +kernel
theorem dX3_isDone_118 : decode cX3_isDone 118 = .ok (.iconst 2, 1) := by decide +kernel
theorem dX3_isDone_119 : decode cX3_isDone 119 = .ok (.invokestatic 64, 3) := by decide +kernel
theorem dX3_isDone_122 : decode cX3_isDone 122 = .ok (.iload_n 3, 1) := by decide +kernel
theorem dX3_isDone_123 : decode cX3_isDone 123 = .ok (.iastore, 1) := by decide +kernel
theorem dX3_isDone_124 : decode cX3_isDone 124 = .ok (.iconst 1, 1) := by decide +kernel
theorem dX3_isDone_125 : decode cX3_isDone 125 = .ok (.ireturn, 1) := by decide +kernel
theorem dX3_isDone_126 : decode cX3_isDone 126 = .ok (.aload_n 0, 1) := by decide +kernel
theorem dX3_isDone_127 : decode cX3_isDone 127 = .ok (.iload_n 2, 1) := by decide +kernel
theorem dX3_isDone_128 : decode cX3_isDone 128 = .ok (.invokevirtual 127, 3) := by decide +kernel
theorem dX3_isDone_131 : decode cX3_isDone 131 = .ok (.ifCond .ne 5, 3) := by decide +kernel
theorem dX3_isDone_134 : decode cX3_isDone 134 = .ok (.iconst 0, 1) := by decide +kernel
theorem dX3_isDone_135 : decode cX3_isDone 135 = .ok (.ireturn, 1) := by decide +kernel
theorem dX3_isDone_136 : decode cX3_isDone 136 = .ok (.aload_n 0, 1) := by decide +kernel
theorem dX3_isDone_137 : decode cX3_isDone 137 = .ok (.iload_n 2, 1) := by decide +kernel
theorem dX3_isDone_138 : decode cX3_isDone 138 = .ok (.invokevirtual 130, 3) := by decide +kernel
theorem dX3_isDone_141 : decode cX3_isDone 141 = .ok (.iconst 1, 1) := by decide +kernel
theorem dX3_isDone_142 : decode cX3_isDone 142 = .ok (.ireturn, 1) := by decide +kernel
theorem dX3_isDone_143 : decode cX3_isDone 143 = .ok (.aload_n 0, 1) := by decide +kernel
theorem dX3_isDone_144 : decode cX3_isDone 144 = .ok (.getfield 9, 3) := by decide +kernel
theorem dX3_isDone_147 : decode cX3_isDone 147 = .ok (.iconst 1, 1) := by decide +kernel
theorem dX3_isDone_148 : decode cX3_isDone 148 = .ok (.iload_n 2, 1) := by decide +kernel
theorem dX3_isDone_149 : decode cX3_isDone 149 = .ok (.iastore, 1) := by decide +kernel
theorem dX3_isDone_150 : decode cX3_isDone 150 = .ok (.iload_n 2, 1) := by decide +kernel
theorem dX3_isDone_151 : decode cX3_isDone 151 = .ok (.bipush 24, 2) := by decide +kernel
theorem dX3_isDone_153 : decode cX3_isDone 153 = .ok (.if_icmp .ge 7, 3) := by decide +kernel
theorem dX3_isDone_156 : decode cX3_isDone 156 = .ok (.iconst 1, 1) := by decide +kernel
theorem dX3_isDone_157 : decode cX3_isDone 157 = .ok (.goto 4, 3) := by decide +kernel
theorem dX3_isDone_160 : decode cX3_isDone 160 = .ok (.iconst 0, 1) := by decide +kernel
theorem dX3_isDone_161 : decode cX3_isDone 161 = .ok (.ireturn, 1) := by decide +kernel
theorem dX3_isDone_162 : decode cX3_isDone 162 = .ok (.iload_n 2, 1) := by decide +kernel
theorem dX3_isDone_163 : decode cX3_isDone 163 = .ok (.iconst 1, 1) := by decide +kernel
theorem dX3_isDone_164 : decode cX3_isDone 164 = .ok (.bipush 60, 2) := by decide +kernel
theorem dX3_isDone_166 : decode cX3_isDone 166 = .ok (.invokestatic 52, 3) := by decide +kernel
theorem dX3_isDone_169 : decode cX3_isDone 169 = .ok (.ifCond .eq 17, 3) := by decide +kernel
theorem dX3_isDone_172 : decode cX3_isDone 172 = .ok (.aload_n 0, 1) := by decide +kernel
theorem dX3_isDone_173 : decode cX3_isDone 173 = .ok (.getfield 9, 3) := by decide +kernel
theorem dX3_isDone_176 : decode cX3_isDone 176 = .ok (.iconst 2, 1) := by decide +kernel
theorem dX3_isDone_177 : decode cX3_isDone 177 = .ok (.iaload, 1) := by decide +kernel
theorem dX3_isDone_178 : decode cX3_isDone 178 = .ok (.iload_n 2, 1) := by decide +kernel
theorem dX3_isDone_179 : decode cX3_isDone 179 = .ok (.iadd, 1) := by decide +kernel
theorem dX3_isDone_180 : decode cX3_isDone 180 = .ok (.sipush 999, 3) := by decide +kernel
theorem dX3_isDone_183 : decode cX3_isDone 183 = .ok (.if_icmp .le 5, 3) := by decide +kernel
theorem dX3_isDone_186 : decode cX3_isDone 186 = .ok (.iconst 0, 1) := by decide +kernel
theorem dX3_isDone_187 : decode cX3_isDone 187 = .ok (.ireturn, 1) := by decide +kernel
theorem dX3_isDone_188 : decode cX3_isDone 188 = .ok (.aload_n 0, 1) := by decide +kernel
theorem dX3_isDone_189 : decode cX3_isDone 189 = .ok (.aload_n 0, 1) := by decide +kernel
theorem dX3_isDone_190 : decode cX3_isDone 190 = .ok (.getfield 9, 3) := by decide +kernel
theorem dX3_isDone_193 : decode cX3_isDone 193 = .ok (.iload_n 2, 1) := by decide +kernel
theorem dX3_isDone_194 : decode cX3_isDone 194 = .ok (.invokevirtual 134, 3) := by decide +kernel
theorem dX3_isDone_197 : decode cX3_isDone 197 = .ok (.iconst 1, 1) := by decide +kernel
theorem dX3_isDone_198 : decode cX3_isDone 198 = .ok (.ireturn, 1) := by decide +kernel
theorem dX3_isDone_199 : decode cX3_isDone 199 = .ok (.aload_n 0, 1) := by decide +kernel
theorem dX3_isDone_200 : decode cX3_isDone 200 = .ok (.iload_n 2, 1) := by decide +kernel
theorem dX3_isDone_201 : decode cX3_isDone 201 = .ok (.invokevirtual 127, 3) := by decide +kernel
theorem dX3_isDone_204 : decode cX3_isDone 204 = .ok (.ifCond .eq 16, 3) := by decide +kernel
theorem dX3_isDone_207 : decode cX3_isDone 207 = .ok (.aload_n 0, 1) := by decide +kernel
theorem dX3_isDone_208 : decode cX3_isDone 208 = .ok (.iload_n 3, 1) := by decide +kernel
theorem dX3_isDone_209 : decode cX3_isDone 209 = .ok (.invokevirtual 127, 3) := by decide +kernel
theorem dX3_isDone_212 : decode cX3_isDone 212 = .ok (.ifCond .eq 8, 3) := by decide +kernel
theorem dX3_isDone_215 : decode cX3_isDone 215 = .ok (.iload_n 2, 1) := by decide +kernel
theorem dX3_isDone_216 : decode cX3_isDone 216 = .ok (.iload_n 3, 1) := by decide +kernel
theorem dX3_isDone_217 : decode cX3_isDone 217 = .ok (.if_icmp .ne 5, 3) := by decide +kernel
theorem dX3_isDone_220 : decode cX3_isDone 220 = .ok (.iconst 0, 1) := by decide +kernel
theorem dX3_isDone_221 : decode cX3_isDone 221 = .ok (.ireturn, 1) := by decide +kernel
theorem dX3_isDone_222 : decode cX3_isDone 222 = .ok (.aload_n 0, 1) := by decide +kernel
theorem dX3_isDone_223 : decode cX3_isDone 223 = .ok (.getfield 9, 3) := by decide +kernel
theorem dX3_isDone_226 : decode cX3_isDone 226 = .ok (.iload_n 2, 1) := by decide +kernel
theorem dX3_isDone_227 : decode cX3_isDone 227 = .ok (.iload_n 3, 1) := by decide +kernel
theorem dX3_isDone_228 : decode cX3_isDone 228 = .ok (.invokestatic 137, 3) := by decide +kernel
theorem dX3_isDone_231 : decode cX3_isDone 231 = .ok (.iconst 1, 1) := by decide +kernel
theorem dX3_isDone_232 : decode cX3_isDone 232 = .ok (.ireturn, 1) := by decide +kernel
theorem dX3_coach_0 : decode cX3_coach 0 = .ok (.aload_n 0, 1) := by decide +kernel
theorem dX3_coach_1 : decode cX3_coach 1 = .ok (.iload_n 1, 1) := by decide +kernel
theorem dX3_coach_2 : decode cX3_coach 2 = .ok (.iconst 0, 1) := by decide +kernel
theorem dX3_coach_3 : decode cX3_coach 3 = .ok (.invokevirtual 141, 3) := by decide +kernel
theorem dX3_coach_6 : decode cX3_coach 6 = .ok (.istore_n 2, 1) := by decide +kernel
theorem dX3_coach_7 : decode cX3_coach 7 = .ok (.iload_n 2, 1) := by decide +kernel
theorem dX3_coach_8 : decode cX3_coach 8 = .ok (.ifCond .eq 5, 3) := by decide +kernel
theorem dX3_coach_11 : decode cX3_coach 11 = .ok (.iload_n 2, 1) := by decide +kernel
theorem dX3_coach_12 : decode cX3_coach 12 = .ok (.ireturn, 1) := by decide +kernel
theorem dX3_coach_13 : decode cX3_coach 13 = .ok (.aload_n 0, 1) := by decide +kernel
theorem dX3_coach_14 : decode cX3_coach 14 = .ok (.bipush 100, 2) := by decide +kernel
theorem dX3_coach_16 : decode cX3_coach 16 = .ok (.iload_n 1, 1) := by decide +kernel
theorem dX3_coach_17 : decode cX3_coach 17 = .ok (.imul, 1) := by decide +kernel
theorem dX3_coach_18 : decode cX3_coach 18 = .ok (.putfield 113, 3) := by decide +kernel
theorem dX3_coach_21 : decode cX3_coach 21 = .ok (.aload_n 0, 1) := by decide +kernel
theorem dX3_coach_22 : decode cX3_coach 22 = .ok (.aload_n 0, 1) := by decide +kernel
theorem dX3_coach_23 : decode cX3_coach 23 = .ok (.getfield 46, 3) := by decide +kernel
theorem dX3_coach_26 : decode cX3_coach 26 = .ok (.iload_n 1, 1) := by decide +kernel
theorem dX3_coach_27 : decode cX3_coach 27 = .ok (.iaload, 1) := by decide +kernel
theorem dX3_coach_28 : decode cX3_coach 28 = .ok (.putfield 110, 3) := by decide +kernel
theorem dX3_coach_31 : decode cX3_coach 31 = .ok (.aload_n 0, 1) := by decide +kernel
theorem dX3_coach_32 : decode cX3_coach 32 = .ok (.iconst 0, 1) := by decide +kernel
theorem dX3_coach_33 : decode cX3_coach 33 = .ok (.putfield 106, 3) := by decide +kernel
theorem dX3_coach_36 : decode cX3_coach 36 = .ok (.iconst 0, 1) := by decide +kernel
theorem dX3_coach_37 : decode cX3_coach 37 = .ok (.istore_n 3, 1) := by decide +kernel
theorem dX3_coach_38 : decode cX3_coach 38 = .ok (.iconst 0, 1) := by decide +kernel
theorem dX3_coach_39 : decode cX3_coach 39 = .ok (.istore 4, 2) := by decide +kernel
theorem dX3_coach_41 : decode cX3_coach 41 = .ok (.aload_n 0, 1) := by decide +kernel
theorem dX3_coach_42 : decode cX3_coach 42 = .ok (.invokevirtual 144, 3) := by decide +kernel
theorem dX3_coach_45 : decode cX3_coach 45 = .ok (.ifCond .ne 13, 3) := by decide +kernel
theorem dX3_coach_48 : decode cX3_coach 48 = .ok (.sipush (-1000), 3) := by decide +kernel
theorem dX3_coach_51 : decode cX3_coach 51 = .ok (.aload_n 0, 1) := by decide +kernel
theorem dX3_coach_52 : decode cX3_coach 52 = .ok (.getfield 106, 3) := by decide +kernel
theorem dX3_coach_55 : decode cX3_coach 55 = .ok (.isub, 1) := by decide +kernel
theorem dX3_coach_56 : decode cX3_coach 56 = .ok (.istore 4, 2) := by decide +kernel
theorem dX3_coach_58 : decode cX3_coach 58 = .ok (.iinc 3 1, 3) := by decide +kernel
theorem dX3_coach_61 : decode cX3_coach 61 = .ok (.iload 4, 2) := by decide +kernel
theorem dX3_coach_63 : decode cX3_coach 63 = .ok (.ifCond .ne 14, 3) := by decide +kernel
theorem dX3_coach_66 : decode cX3_coach 66 = .ok (.aload_n 0, 1) := by decide +kernel
theorem dX3_coach_67 : decode cX3_coach 67 = .ok (.getfield 106, 3) := by decide +kernel
theorem dX3_coach_70 : decode cX3_coach 70 = .ok (.aload_n 0, 1) := by decide +kernel
theorem dX3_coach_71 : decode cX3_coach 71 = .ok (.getfield 110, 3) := by decide +kernel
theorem dX3_coach_74 : decode cX3_coach 74 = .ok (.if_icmp .lt (-33), 3) := by decide +kernel
theorem dX3_coach_77 : decode cX3_coach 77 = .ok (.aload_n 0, 1) := by decide +kernel
theorem dX3_coach_78 : decode cX3_coach 78 = .ok (.getfield 9, 3) := by decide +kernel
theorem dX3_coach_81 : decode cX3_coach 81 = .ok (.aload_n 0, 1) := by decide +kernel
theorem dX3_coach_82 : decode cX3_coach 82 = .ok (.getfield 19, 3) := by decide +kernel
theorem dX3_coach_85 : decode cX3_coach 85 = .ok (.invokestatic 148, 3) := by decide +kernel
theorem dX3_coach_88 : decode cX3_coach 88 = .ok (.aload_n 0, 1) := by decide +kernel
theorem dX3_coach_89 : decode cX3_coach 89 = .ok (.iconst 0, 1) := by decide +kernel
theorem dX3_coach_90 : decode cX3_coach 90 = .ok (.putfield 106, 3) := by decide +kernel
theorem dX3_coach_93 : decode cX3_coach 93 = .ok (.iload 4, 2) := by decide +kernel
theorem dX3_coach_95 : decode cX3_coach 95 = .ok (.ifCond .ne 66, 3) := by decide +kernel
theorem dX3_coach_98 : decode cX3_coach 98 = .ok (.aload_n 0, 1) := by decide +kernel
theorem dX3_coach_99 : decode cX3_coach 99 = .ok (.getfield 106, 3) := by decide +kernel
theorem dX3_coach_102 : decode cX3_coach 102 = .ok (.aload_n 0, 1) := by decide +kernel
theorem dX3_coach_103 : decode cX3_coach 103 = .ok (.getfield 110, 3) := by decide +kernel
theorem dX3_coach_106 : decode cX3_coach 106 = .ok (.if_icmp .ge 55, 3) := by decide +kernel
theorem dX3_coach_109 : decode cX3_coach 109 = .ok (.aload_n 0, 1) := by decide +kernel
theorem dX3_coach_110 : decode cX3_coach 110 = .ok (.getfield 106, 3) := by decide +kernel
theorem dX3_coach_113 : decode cX3_coach 113 = .ok (.istore 5, 2) := by decide +kernel
theorem dX3_coach_115 : decode cX3_coach 115 = .ok (.aload_n 0, 1) := by decide +kernel
theorem dX3_coach_116 : decode cX3_coach 116 = .ok (.invokevirtual 116, 3) := by decide +kernel
theorem dX3_coach_119 : decode cX3_coach 119 = .ok (.istore 6, 2) := by decide +kernel
theorem dX3_coach_121 : decode cX3_coach 121 = .ok (.aload_n 0, 1) := by decide +kernel
theorem dX3_coach_122 : decode cX3_coach 122 = .ok (.invokevirtual 144, 3) := by decide +kernel
theorem dX3_coach_125 : decode cX3_coach 125 = .ok (.istore 7, 2) := by decide +kernel
theorem dX3_coach_127 : decode cX3_coach 127 = .ok (.aload_n 0, 1) := by decide +kernel
theorem dX3_coach_128 : decode cX3_coach 128 = .ok (.iload 6, 2) := by decide +kernel
theorem dX3_coach_130 : decode cX3_coach 130 = .ok (.invokevirtual 152, 3) := by decide +kernel
theorem dX3_coach_133 : decode cX3_coach 133 = .ok (.ifCond .eq 6, 3) := by decide +kernel
theorem dX3_coach_136 : decode cX3_coach 136 = .ok (.goto (-43), 3) := by decide +kernel
theorem dX3_coach_139 : decode cX3_coach 139 = .ok (.sipush (-2000), 3) := by decide +kernel
theorem dX3_coach_142 : decode cX3_coach 142 = .ok (.iload 5, 2) := by decide +kernel
theorem dX3_coach_144 : decode cX3_coach 144 = .ok (.isub, 1) := by decide +kernel
theorem dX3_coach_145 : decode cX3_coach 145 = .ok (.istore 4, 2) := by decide +kernel
theorem dX3_coach_147 : decode cX3_coach 147 = .ok (.aload_n 0, 1) := by decide +kernel
theorem dX3_coach_148 : decode cX3_coach 148 = .ok (.getfield 19, 3) := by decide +kernel
theorem dX3_coach_151 : decode cX3_coach 151 = .ok (.aload_n 0, 1) := by decide +kernel
theorem dX3_coach_152 : decode cX3_coach 152 = .ok (.getfield 9, 3) := by decide +kernel
theorem dX3_coach_155 : decode cX3_coach 155 = .ok (.invokestatic 148, 3) := by decide +kernel
theorem dX3_coach_158 : decode cX3_coach 158 = .ok (.goto (-65), 3) := by decide +kernel
theorem dX3_coach_161 : decode cX3_coach 161 = .ok (.iload 4, 2) := by decide +kernel
theorem dX3_coach_163 : decode cX3_coach 163 = .ok (.ifCond .ne 7, 3) := by decide +kernel
theorem dX3_coach_166 : decode cX3_coach 166 = .ok (.iload_n 3, 1) := by decide +kernel
theorem dX3_coach_167 : decode cX3_coach 167 = .ok (.goto 5, 3) := by decide +kernel
theorem dX3_coach_170 : decode cX3_coach 170 = .ok (.iload 4, 2) := by decide +kernel
theorem dX3_coach_172 : decode cX3_coach 172 = .ok (.ireturn, 1) := by decide +kernel
theorem dX3_seat_0 : decode cX3_seat 0 = .ok (.aload_n 0, 1) := by decide +kernel
theorem dX3_seat_1 : decode cX3_seat 1 = .ok (.iload_n 1, 1) := by decide +kernel
theorem dX3_seat_2 : decode cX3_seat 2 = .ok (.invokevirtual 127, 3) := by decide +kernel
theorem dX3_seat_5 : decode cX3_seat 5 = .ok (.ifCond .eq 13, 3) := by decide +kernel
theorem dX3_seat_8 : decode cX3_seat 8 = .ok (.iload_n 2, 1) := by decide +kernel
theorem dX3_seat_9 : decode cX3_seat 9 = .ok (.iconst 0, 1) := by decide +kernel
theorem dX3_seat_10 : decode cX3_seat 10 = .ok (.bipush 7, 2) := by decide +kernel
theorem dX3_seat_12 : decode cX3_seat 12 = .ok (.invokestatic 52, 3) := by decide +kernel
theorem dX3_seat_15 : decode cX3_seat 15 = .ok (.ifCond .ne 5, 3) := by decide +kernel
theorem dX3_seat_18 : decode cX3_seat 18 = .ok (.iconst (-1), 1) := by decide +kernel
theorem dX3_seat_19 : decode cX3_seat 19 = .ok (.ireturn, 1) := by decide +kernel
theorem dX3_seat_20 : decode cX3_seat 20 = .ok (.iload_n 2, 1) := by decide +kernel
theorem dX3_seat_21 : decode cX3_seat 21 = .ok (.tableswitch 82 4 7 #[31, 40, 64, 73], 31) := by decide +kernel
theorem dX3_seat_52 : decode cX3_seat 52 = .ok (.aload_n 0, 1) := by decide +kernel
theorem dX3_seat_53 : decode cX3_seat 53 = .ok (.getfield 9, 3) := by decide +kernel
theorem dX3_seat_56 : decode cX3_seat 56 = .ok (.iload_n 1, 1) := by decide +kernel
theorem dX3_seat_57 : decode cX3_seat 57 = .ok (.invokestatic 84, 3) := by decide +kernel
theorem dX3_seat_60 : decode cX3_seat 60 = .ok (.ireturn, 1) := by decide +kernel
theorem dX3_seat_61 : decode cX3_seat 61 = .ok (.aload_n 0, 1) := by decide +kernel
theorem dX3_seat_62 : decode cX3_seat 62 = .ok (.getfield 9, 3) := by decide +kernel
theorem dX3_seat_65 : decode cX3_seat 65 = .ok (.iload_n 1, 1) := by decide +kernel
theorem dX3_seat_66 : decode cX3_seat 66 = .ok (.iconst 0, 1) := by decide +kernel
theorem dX3_seat_67 : decode cX3_seat 67 = .ok (.invokestatic 64, 3) := by decide +kernel
theorem dX3_seat_70 : decode cX3_seat 70 = .ok (.iaload, 1) := by decide +kernel
theorem dX3_seat_71 : decode cX3_seat 71 = .ok (.aload_n 0, 1) := by decide +kernel
theorem dX3_seat_72 : decode cX3_seat 72 = .ok (.getfield 9, 3) := by decide +kernel
theorem dX3_seat_75 : decode cX3_seat 75 = .ok (.iload_n 1, 1) := by decide +kernel
theorem dX3_seat_76 : decode cX3_seat 76 = .ok (.iconst 1, 1) := by decide +kernel
theorem dX3_seat_77 : decode cX3_seat 77 = .ok (.invokestatic 64, 3) := by decide +kernel
theorem dX3_seat_80 : decode cX3_seat 80 = .ok (.iaload, 1) := by decide +kernel
theorem dX3_seat_81 : decode cX3_seat 81 = .ok (.invokestatic 67, 3) := by decide +kernel
theorem dX3_seat_84 : decode cX3_seat 84 = .ok (.ireturn, 1) := by decide +kernel
theorem dX3_seat_85 : decode cX3_seat 85 = .ok (.aload_n 0, 1) := by decide +kernel
theorem dX3_seat_86 : decode cX3_seat 86 = .ok (.getfield 9, 3) := by decide +kernel
theorem dX3_seat_89 : decode cX3_seat 89 = .ok (.iload_n 1, 1) := by decide +kernel
theorem dX3_seat_90 : decode cX3_seat 90 = .ok (.invokestatic 74, 3) := by decide +kernel
theorem dX3_seat_93 : decode cX3_seat 93 = .ok (.ireturn, 1) := by decide +kernel
theorem dX3_seat_94 : decode cX3_seat 94 = .ok (.aload_n 0, 1) := by decide +kernel
theorem dX3_seat_95 : decode cX3_seat 95 = .ok (.getfield 9, 3) := by decide +kernel
theorem dX3_seat_98 : decode cX3_seat 98 = .ok (.iload_n 1, 1) := by decide +kernel
theorem dX3_seat_99 : decode cX3_seat 99 = .ok (.invokestatic 78, 3) := by decide +kernel
theorem dX3_seat_102 : decode cX3_seat 102 = .ok (.ireturn, 1) := by decide +kernel
theorem dX3_seat_103 : decode cX3_seat 103 = .ok (.aload_n 0, 1) := by decide +kernel
theorem dX3_seat_104 : decode cX3_seat 104 = .ok (.getfield 9, 3) := by decide +kernel
theorem dX3_seat_107 : decode cX3_seat 107 = .ok (.iload_n 1, 1) := by decide +kernel
theorem dX3_seat_108 : decode cX3_seat 108 = .ok (.iload_n 2, 1) := by decide +kernel
theorem dX3_seat_109 : decode cX3_seat 109 = .ok (.invokestatic 64, 3) := by decide +kernel
theorem dX3_seat_112 : decode cX3_seat 112 = .ok (.iaload, 1) := by decide +kernel
theorem dX3_seat_113 : decode cX3_seat 113 = .ok (.ireturn, 1) := by decide +kernel
theorem dX3_comes_0 : decode cX3_comes 0 = .ok (.aload_n 0, 1) := by decide +kernel
theorem dX3_comes_1 : decode cX3_comes 1 = .ok (.iload_n 1, 1) := by decide +kernel
theorem dX3_comes_2 : decode cX3_comes 2 = .ok (.invokevirtual 155, 3) := by decide +kernel
theorem dX3_comes_5 : decode cX3_comes 5 = .ok (.istore_n 2, 1) := by decide +kernel
theorem dX3_comes_6 : decode cX3_comes 6 = .ok (.iload_n 2, 1) := by decide +kernel
theorem dX3_comes_7 : decode cX3_comes 7 = .ok (.ifCond .eq 5, 3) := by decide +kernel
theorem dX3_comes_10 : decode cX3_comes 10 = .ok (.iload_n 2, 1) := by decide +kernel
theorem dX3_comes_11 : decode cX3_comes 11 = .ok (.ireturn, 1) := by decide +kernel
theorem dX3_comes_12 : decode cX3_comes 12 = .ok (.aload_n 0, 1) := by decide +kernel
theorem dX3_comes_13 : decode cX3_comes 13 = .ok (.getfield 9, 3) := by decide +kernel
theorem dX3_comes_16 : decode cX3_comes 16 = .ok (.iconst 0, 1) := by decide +kernel
theorem dX3_comes_17 : decode cX3_comes 17 = .ok (.iaload, 1) := by decide +kernel
theorem dX3_comes_18 : decode cX3_comes 18 = .ok (.bipush 8, 2) := by decide +kernel
theorem dX3_comes_20 : decode cX3_comes 20 = .ok (.if_icmp .ne 6, 3) := by decide +kernel
theorem dX3_comes_23 : decode cX3_comes 23 = .ok (.bipush (-2), 2) := by decide +kernel
theorem dX3_comes_25 : decode cX3_comes 25 = .ok (.ireturn, 1) := by decide +kernel
theorem dX3_comes_26 : decode cX3_comes 26 = .ok (.aload_n 0, 1) := by decide +kernel
theorem dX3_comes_27 : decode cX3_comes 27 = .ok (.aload_n 0, 1) := by decide +kernel
theorem dX3_comes_28 : decode cX3_comes 28 = .ok (.getfield 37, 3) := by decide +kernel
theorem dX3_comes_31 : decode cX3_comes 31 = .ok (.iload_n 1, 1) := by decide +kernel
theorem dX3_comes_32 : decode cX3_comes 32 = .ok (.iaload, 1) := by decide +kernel
theorem dX3_comes_33 : decode cX3_comes 33 = .ok (.aload_n 0, 1) := by decide +kernel
theorem dX3_comes_34 : decode cX3_comes 34 = .ok (.getfield 40, 3) := by decide +kernel
theorem dX3_comes_37 : decode cX3_comes 37 = .ok (.iload_n 1, 1) := by decide +kernel
theorem dX3_comes_38 : decode cX3_comes 38 = .ok (.iaload, 1) := by decide +kernel
theorem dX3_comes_39 : decode cX3_comes 39 = .ok (.invokevirtual 123, 3) := by decide +kernel
theorem dX3_comes_42 : decode cX3_comes 42 = .ok (.aload_n 0, 1) := by decide +kernel
theorem dX3_comes_43 : decode cX3_comes 43 = .ok (.getfield 9, 3) := by decide +kernel
theorem dX3_comes_46 : decode cX3_comes 46 = .ok (.iconst 0, 1) := by decide +kernel
theorem dX3_comes_47 : decode cX3_comes 47 = .ok (.iaload, 1) := by decide +kernel
theorem dX3_comes_48 : decode cX3_comes 48 = .ok (.iconst 1, 1) := by decide +kernel
theorem dX3_comes_49 : decode cX3_comes 49 = .ok (.isub, 1) := by decide +kernel
theorem dX3_comes_50 : decode cX3_comes 50 = .ok (.ireturn, 1) := by decide +kernel
theorem dX3_tips_0 : decode cX3_tips 0 = .ok (.aload_n 0, 1) := by decide +kernel
theorem dX3_tips_1 : decode cX3_tips 1 = .ok (.iload_n 1, 1) := by decide +kernel
theorem dX3_tips_2 : decode cX3_tips 2 = .ok (.invokevirtual 127, 3) := by decide +kernel
theorem dX3_tips_5 : decode cX3_tips 5 = .ok (.ifCond .eq 13, 3) := by decide +kernel
theorem dX3_tips_8 : decode cX3_tips 8 = .ok (.iload_n 2, 1) := by decide +kernel
theorem dX3_tips_9 : decode cX3_tips 9 = .ok (.iconst 0, 1) := by decide +kernel
theorem dX3_tips_10 : decode cX3_tips 10 = .ok (.bipush 10, 2) := by decide +kernel
theorem dX3_tips_12 : decode cX3_tips 12 = .ok (.invokestatic 52, 3) := by decide +kernel
theorem dX3_tips_15 : decode cX3_tips 15 = .ok (.ifCond .ne 5, 3) := by decide +kernel
theorem dX3_tips_18 : decode cX3_tips 18 = .ok (.iconst (-1), 1) := by decide +kernel
theorem dX3_tips_19 : decode cX3_tips 19 = .ok (.ireturn, 1) := by decide +kernel
theorem dX3_tips_20 : decode cX3_tips 20 = .ok (.iload_n 2, 1) := by decide +kernel
theorem dX3_tips_21 : decode cX3_tips 21 = .ok (.aload_n 0, 1) := by decide +kernel
theorem dX3_tips_22 : decode cX3_tips 22 = .ok (.getfield 9, 3) := by decide +kernel
theorem dX3_tips_25 : decode cX3_tips 25 = .ok (.iload_n 1, 1) := by decide +kernel
theorem dX3_tips_26 : decode cX3_tips 26 = .ok (.invokestatic 84, 3) := by decide +kernel
theorem dX3_tips_29 : decode cX3_tips 29 = .ok (.if_icmp .le 6, 3) := by decide +kernel
theorem dX3_tips_32 : decode cX3_tips 32 = .ok (.bipush (-3), 2) := by decide +kernel
theorem dX3_tips_34 : decode cX3_tips 34 = .ok (.ireturn, 1) := by decide +kernel
theorem dX3_tips_35 : decode cX3_tips 35 = .ok (.aload_n 0, 1) := by decide +kernel
theorem dX3_tips_36 : decode cX3_tips 36 = .ok (.getfield 9, 3) := by decide +kernel
theorem dX3_tips_39 : decode cX3_tips 39 = .ok (.iload_n 1, 1) := by decide +kernel
theorem dX3_tips_40 : decode cX3_tips 40 = .ok (.iconst 2, 1) := by decide +kernel
theorem dX3_tips_41 : decode cX3_tips 41 = .ok (.invokestatic 64, 3) := by decide +kernel
theorem dX3_tips_44 : decode cX3_tips 44 = .ok (.iaload, 1) := by decide +kernel
theorem dX3_tips_45 : decode cX3_tips 45 = .ok (.istore_n 3, 1) := by decide +kernel
theorem dX3_tips_46 : decode cX3_tips 46 = .ok (.aload_n 0, 1) := by decide +kernel
theorem dX3_tips_47 : decode cX3_tips 47 = .ok (.getfield 9, 3) := by decide +kernel
theorem dX3_tips_50 : decode cX3_tips 50 = .ok (.iload_n 1, 1) := by decide +kernel
theorem dX3_tips_51 : decode cX3_tips 51 = .ok (.iconst 2, 1) := by decide +kernel
theorem dX3_tips_52 : decode cX3_tips 52 = .ok (.invokestatic 64, 3) := by decide +kernel
theorem dX3_tips_55 : decode cX3_tips 55 = .ok (.iload_n 2, 1) := by decide +kernel
theorem dX3_tips_56 : decode cX3_tips 56 = .ok (.iastore, 1) := by decide +kernel
theorem dX3_tips_57 : decode cX3_tips 57 = .ok (.iload_n 3, 1) := by decide +kernel
theorem dX3_tips_58 : decode cX3_tips 58 = .ok (.ireturn, 1) := by decide +kernel
theorem dX3_blocks_0 : decode cX3_blocks 0 = .ok (.aload_n 0, 1) := by decide +kernel
theorem dX3_blocks_1 : decode cX3_blocks 1 = .ok (.iload_n 1, 1) := by decide +kernel
theorem dX3_blocks_2 : decode cX3_blocks 2 = .ok (.invokevirtual 127, 3) := by decide +kernel
theorem dX3_blocks_5 : decode cX3_blocks 5 = .ok (.ifCond .ne 5, 3) := by decide +kernel
theorem dX3_blocks_8 : decode cX3_blocks 8 = .ok (.iconst (-1), 1) := by decide +kernel
theorem dX3_blocks_9 : decode cX3_blocks 9 = .ok (.ireturn, 1) := by decide +kernel
theorem dX3_blocks_10 : decode cX3_blocks 10 = .ok (.aload_n 0, 1) := by decide +kernel
theorem dX3_blocks_11 : decode cX3_blocks 11 = .ok (.iload_n 1, 1) := by decide +kernel
theorem dX3_blocks_12 : decode cX3_blocks 12 = .ok (.invokevirtual 130, 3) := by decide +kernel
theorem dX3_blocks_15 : decode cX3_blocks 15 = .ok (.aload_n 0, 1) := by decide +kernel
theorem dX3_blocks_16 : decode cX3_blocks 16 = .ok (.getfield 9, 3) := by decide +kernel
theorem dX3_blocks_19 : decode cX3_blocks 19 = .ok (.iload_n 1, 1) := by decide +kernel
theorem dX3_blocks_20 : decode cX3_blocks 20 = .ok (.iconst 3, 1) := by decide +kernel
theorem dX3_blocks_21 : decode cX3_blocks 21 = .ok (.invokestatic 64, 3) := by decide +kernel
theorem dX3_blocks_24 : decode cX3_blocks 24 = .ok (.iaload, 1) := by decide +kernel
theorem dX3_blocks_25 : decode cX3_blocks 25 = .ok (.ireturn, 1) := by decide +kernel
theorem dX3_hour_0 : decode cX3_hour 0 = .ok (.iload_n 1, 1) := by decide +kernel
theorem dX3_hour_1 : decode cX3_hour 1 = .ok (.iconst 0, 1) := by decide +kernel
theorem dX3_hour_2 : decode cX3_hour 2 = .ok (.bipush 23, 2) := by decide +kernel
theorem dX3_hour_4 : decode cX3_hour 4 = .ok (.invokestatic 52, 3) := by decide +kernel
theorem dX3_hour_7 : decode cX3_hour 7 = .ok (.ifCond .ne 5, 3) := by decide +kernel
theorem dX3_hour_10 : decode cX3_hour 10 = .ok (.iconst (-1), 1) := by decide +kernel
theorem dX3_hour_11 : decode cX3_hour 11 = .ok (.ireturn, 1) := by decide +kernel
theorem dX3_hour_12 : decode cX3_hour 12 = .ok (.aload_n 0, 1) := by decide +kernel
theorem dX3_hour_13 : decode cX3_hour 13 = .ok (.getfield 9, 3) := by decide +kernel
theorem dX3_hour_16 : decode cX3_hour 16 = .ok (.iconst 1, 1) := by decide +kernel
theorem dX3_hour_17 : decode cX3_hour 17 = .ok (.iaload, 1) := by decide +kernel
theorem dX3_hour_18 : decode cX3_hour 18 = .ok (.istore_n 2, 1) := by decide +kernel
theorem dX3_hour_19 : decode cX3_hour 19 = .ok (.aload_n 0, 1) := by decide +kernel
theorem dX3_hour_20 : decode cX3_hour 20 = .ok (.getfield 9, 3) := by decide +kernel
theorem dX3_hour_23 : decode cX3_hour 23 = .ok (.iconst 1, 1) := by decide +kernel
theorem dX3_hour_24 : decode cX3_hour 24 = .ok (.iload_n 1, 1) := by decide +kernel
theorem dX3_hour_25 : decode cX3_hour 25 = .ok (.iastore, 1) := by decide +kernel
theorem dX3_hour_26 : decode cX3_hour 26 = .ok (.iload_n 2, 1) := by decide +kernel
theorem dX3_hour_27 : decode cX3_hour 27 = .ok (.ireturn, 1) := by decide +kernel
theorem dX3_change_0 : decode cX3_change 0 = .ok (.aload_n 0, 1) := by decide +kernel
theorem dX3_change_1 : decode cX3_change 1 = .ok (.iload_n 1, 1) := by decide +kernel
theorem dX3_change_2 : decode cX3_change 2 = .ok (.invokevirtual 127, 3) := by decide +kernel
theorem dX3_change_5 : decode cX3_change 5 = .ok (.ifCond .eq 16, 3) := by decide +kernel
theorem dX3_change_8 : decode cX3_change 8 = .ok (.aload_n 0, 1) := by decide +kernel
theorem dX3_change_9 : decode cX3_change 9 = .ok (.iload_n 2, 1) := by decide +kernel
theorem dX3_change_10 : decode cX3_change 10 = .ok (.invokevirtual 127, 3) := by decide +kernel
theorem dX3_change_13 : decode cX3_change 13 = .ok (.ifCond .eq 8, 3) := by decide +kernel
theorem dX3_change_16 : decode cX3_change 16 = .ok (.iload_n 1, 1) := by decide +kernel
theorem dX3_change_17 : decode cX3_change 17 = .ok (.iload_n 2, 1) := by decide +kernel
theorem dX3_change_18 : decode cX3_change 18 = .ok (.if_icmp .ne 5, 3) := by decide +kernel
theorem dX3_change_21 : decode cX3_change 21 = .ok (.iconst (-1), 1) := by decide +kernel
theorem dX3_change_22 : decode cX3_change 22 = .ok (.ireturn, 1) := by decide +kernel
theorem dX3_change_23 : decode cX3_change 23 = .ok (.aload_n 0, 1) := by decide +kernel
theorem dX3_change_24 : decode cX3_change 24 = .ok (.getfield 9, 3) := by decide +kernel
theorem dX3_change_27 : decode cX3_change 27 = .ok (.iload_n 1, 1) := by decide +kernel
theorem dX3_change_28 : decode cX3_change 28 = .ok (.iload_n 2, 1) := by decide +kernel
theorem dX3_change_29 : decode cX3_change 29 = .ok (.invokestatic 137, 3) := by decide +kernel
theorem dX3_change_32 : decode cX3_change 32 = .ok (.iconst 1, 1) := by decide +kernel
theorem dX3_change_33 : decode cX3_change 33 = .ok (.ireturn, 1) := by decide +kernel
theorem dX3_rounds_0 : decode cX3_rounds 0 = .ok (.iload_n 1, 1) := by decide +kernel
theorem dX3_rounds_1 : decode cX3_rounds 1 = .ok (.iconst 1, 1) := by decide +kernel
theorem dX3_rounds_2 : decode cX3_rounds 2 = .ok (.bipush 60, 2) := by decide +kernel
theorem dX3_rounds_4 : decode cX3_rounds 4 = .ok (.invokestatic 52, 3) := by decide +kernel
theorem dX3_rounds_7 : decode cX3_rounds 7 = .ok (.ifCond .ne 5, 3) := by decide +kernel
theorem dX3_rounds_10 : decode cX3_rounds 10 = .ok (.iconst (-1), 1) := by decide +kernel
theorem dX3_rounds_11 : decode cX3_rounds 11 = .ok (.ireturn, 1) := by decide +kernel
theorem dX3_rounds_12 : decode cX3_rounds 12 = .ok (.aload_n 0, 1) := by decide +kernel
theorem dX3_rounds_13 : decode cX3_rounds 13 = .ok (.getfield 9, 3) := by decide +kernel
theorem dX3_rounds_16 : decode cX3_rounds 16 = .ok (.iconst 2, 1) := by decide +kernel
theorem dX3_rounds_17 : decode cX3_rounds 17 = .ok (.iaload, 1) := by decide +kernel
theorem dX3_rounds_18 : decode cX3_rounds 18 = .ok (.iload_n 1, 1) := by decide +kernel
theorem dX3_rounds_19 : decode cX3_rounds 19 = .ok (.iadd, 1) := by decide +kernel
theorem dX3_rounds_20 : decode cX3_rounds 20 = .ok (.sipush 999, 3) := by decide +kernel
theorem dX3_rounds_23 : decode cX3_rounds 23 = .ok (.if_icmp .le 6, 3) := by decide +kernel
theorem dX3_rounds_26 : decode cX3_rounds 26 = .ok (.bipush (-3), 2) := by decide +kernel
theorem dX3_rounds_28 : decode cX3_rounds 28 = .ok (.ireturn, 1) := by decide +kernel
theorem dX3_rounds_29 : decode cX3_rounds 29 = .ok (.aload_n 0, 1) := by decide +kernel
theorem dX3_rounds_30 : decode cX3_rounds 30 = .ok (.aload_n 0, 1) := by decide +kernel
theorem dX3_rounds_31 : decode cX3_rounds 31 = .ok (.getfield 9, 3) := by decide +kernel
theorem dX3_rounds_34 : decode cX3_rounds 34 = .ok (.iload_n 1, 1) := by decide +kernel
theorem dX3_rounds_35 : decode cX3_rounds 35 = .ok (.invokevirtual 134, 3) := by decide +kernel
theorem dX3_rounds_38 : decode cX3_rounds 38 = .ok (.aload_n 0, 1) := by decide +kernel
theorem dX3_rounds_39 : decode cX3_rounds 39 = .ok (.getfield 9, 3) := by decide +kernel
theorem dX3_rounds_42 : decode cX3_rounds 42 = .ok (.invokestatic 159, 3) := by decide +kernel
theorem dX3_rounds_45 : decode cX3_rounds 45 = .ok (.ireturn, 1) := by decide +kernel
theorem dX3_takes_0 : decode cX3_takes 0 = .ok (.aload_n 0, 1) := by decide +kernel
theorem dX3_takes_1 : decode cX3_takes 1 = .ok (.getfield 9, 3) := by decide +kernel
theorem dX3_takes_4 : decode cX3_takes 4 = .ok (.aload_n 0, 1) := by decide +kernel
theorem dX3_takes_5 : decode cX3_takes 5 = .ok (.getfield 13, 3) := by decide +kernel
theorem dX3_takes_8 : decode cX3_takes 8 = .ok (.invokestatic 148, 3) := by decide +kernel
theorem dX3_takes_11 : decode cX3_takes 11 = .ok (.aload_n 0, 1) := by decide +kernel
theorem dX3_takes_12 : decode cX3_takes 12 = .ok (.aload_n 0, 1) := by decide +kernel
theorem dX3_takes_13 : decode cX3_takes 13 = .ok (.getfield 13, 3) := by decide +kernel
theorem dX3_takes_16 : decode cX3_takes 16 = .ok (.iload_n 1, 1) := by decide +kernel
theorem dX3_takes_17 : decode cX3_takes 17 = .ok (.invokevirtual 134, 3) := by decide +kernel
theorem dX3_takes_20 : decode cX3_takes 20 = .ok (.return_, 1) := by decide +kernel
theorem dX3_behind_0 : decode cX3_behind 0 = .ok (.aload_n 0, 1) := by decide +kernel
theorem dX3_behind_1 : decode cX3_behind 1 = .ok (.iload_n 1, 1) := by decide +kernel
theorem dX3_behind_2 : decode cX3_behind 2 = .ok (.invokevirtual 127, 3) := by decide +kernel
theorem dX3_behind_5 : decode cX3_behind 5 = .ok (.ifCond .eq 22, 3) := by decide +kernel
theorem dX3_behind_8 : decode cX3_behind 8 = .ok (.iload_n 2, 1) := by decide +kernel
theorem dX3_behind_9 : decode cX3_behind 9 = .ok (.iconst 0, 1) := by decide +kernel
theorem dX3_behind_10 : decode cX3_behind 10 = .ok (.bipush 60, 2) := by decide +kernel
theorem dX3_behind_12 : decode cX3_behind 12 = .ok (.invokestatic 52, 3) := by decide +kernel
theorem dX3_behind_15 : decode cX3_behind 15 = .ok (.ifCond .eq 12, 3) := by decide +kernel
theorem dX3_behind_18 : decode cX3_behind 18 = .ok (.iload_n 3, 1) := by decide +kernel
theorem dX3_behind_19 : decode cX3_behind 19 = .ok (.iconst 0, 1) := by decide +kernel
theorem dX3_behind_20 : decode cX3_behind 20 = .ok (.iconst 1, 1) := by decide +kernel
theorem dX3_behind_21 : decode cX3_behind 21 = .ok (.invokestatic 52, 3) := by decide +kernel
theorem dX3_behind_24 : decode cX3_behind 24 = .ok (.ifCond .ne 5, 3) := by decide +kernel
theorem dX3_behind_27 : decode cX3_behind 27 = .ok (.iconst (-1), 1) := by decide +kernel
theorem dX3_behind_28 : decode cX3_behind 28 = .ok (.ireturn, 1) := by decide +kernel
theorem dX3_behind_29 : decode cX3_behind 29 = .ok (.aload_n 0, 1) := by decide +kernel
theorem dX3_behind_30 : decode cX3_behind 30 = .ok (.iload_n 2, 1) := by decide +kernel
theorem dX3_behind_31 : decode cX3_behind 31 = .ok (.invokevirtual 163, 3) := by decide +kernel
theorem dX3_behind_34 : decode cX3_behind 34 = .ok (.iload_n 3, 1) := by decide +kernel
theorem dX3_behind_35 : decode cX3_behind 35 = .ok (.ifCond .ne 16, 3) := by decide +kernel
theorem dX3_behind_38 : decode cX3_behind 38 = .ok (.aload_n 0, 1) := by decide +kernel
theorem dX3_behind_39 : decode cX3_behind 39 = .ok (.getfield 13, 3) := by decide +kernel
theorem dX3_behind_42 : decode cX3_behind 42 = .ok (.iload_n 1, 1) := by decide +kernel
theorem dX3_behind_43 : decode cX3_behind 43 = .ok (.iconst 2, 1) := by decide +kernel
theorem dX3_behind_44 : decode cX3_behind 44 = .ok (.invokestatic 64, 3) := by decide +kernel
theorem dX3_behind_47 : decode cX3_behind 47 = .ok (.iaload, 1) := by decide +kernel
theorem dX3_behind_48 : decode cX3_behind 48 = .ok (.goto 11, 3) := by decide +kernel
theorem dX3_behind_51 : decode cX3_behind 51 = .ok (.aload_n 0, 1) := by decide +kernel
theorem dX3_behind_52 : decode cX3_behind 52 = .ok (.getfield 13, 3) := by decide +kernel
theorem dX3_behind_55 : decode cX3_behind 55 = .ok (.iload_n 1, 1) := by decide +kernel
theorem dX3_behind_56 : decode cX3_behind 56 = .ok (.invokestatic 78, 3) := by decide +kernel
theorem dX3_behind_59 : decode cX3_behind 59 = .ok (.ireturn, 1) := by decide +kernel
theorem dX3_still_0 : decode cX3_still 0 = .ok (.aload_n 0, 1) := by decide +kernel
theorem dX3_still_1 : decode cX3_still 1 = .ok (.getfield 9, 3) := by decide +kernel
theorem dX3_still_4 : decode cX3_still 4 = .ok (.aload_n 0, 1) := by decide +kernel
theorem dX3_still_5 : decode cX3_still 5 = .ok (.getfield 13, 3) := by decide +kernel
theorem dX3_still_8 : decode cX3_still 8 = .ok (.invokestatic 148, 3) := by decide +kernel
theorem dX3_still_11 : decode cX3_still 11 = .ok (.iconst 0, 1) := by decide +kernel
theorem dX3_still_12 : decode cX3_still 12 = .ok (.istore_n 1, 1) := by decide +kernel
theorem dX3_still_13 : decode cX3_still 13 = .ok (.iload_n 1, 1) := by decide +kernel
theorem dX3_still_14 : decode cX3_still 14 = .ok (.bipush 60, 2) := by decide +kernel
theorem dX3_still_16 : decode cX3_still 16 = .ok (.if_icmp .gt 86, 3) := by decide +kernel
theorem dX3_still_19 : decode cX3_still 19 = .ok (.aload_n 0, 1) := by decide +kernel
theorem dX3_still_20 : decode cX3_still 20 = .ok (.getfield 13, 3) := by decide +kernel
theorem dX3_still_23 : decode cX3_still 23 = .ok (.aload_n 0, 1) := by decide +kernel
theorem dX3_still_24 : decode cX3_still 24 = .ok (.getfield 19, 3) := by decide +kernel
theorem dX3_still_27 : decode cX3_still 27 = .ok (.invokestatic 148, 3) := by decide +kernel
theorem dX3_still_30 : decode cX3_still 30 = .ok (.aload_n 0, 1) := by decide +kernel
theorem dX3_still_31 : decode cX3_still 31 = .ok (.aload_n 0, 1) := by decide +kernel
theorem dX3_still_32 : decode cX3_still 32 = .ok (.getfield 13, 3) := by decide +kernel
theorem dX3_still_35 : decode cX3_still 35 = .ok (.iconst 0, 1) := by decide +kernel
theorem dX3_still_36 : decode cX3_still 36 = .ok (.invokevirtual 98, 3) := by decide +kernel
theorem dX3_still_39 : decode cX3_still 39 = .ok (.iconst 1, 1) := by decide +kernel
theorem dX3_still_40 : decode cX3_still 40 = .ok (.istore_n 2, 1) := by decide +kernel
theorem dX3_still_41 : decode cX3_still 41 = .ok (.iconst 0, 1) := by decide +kernel
theorem dX3_still_42 : decode cX3_still 42 = .ok (.istore_n 3, 1) := by decide +kernel
theorem dX3_still_43 : decode cX3_still 43 = .ok (.iload_n 3, 1) := by decide +kernel
theorem dX3_still_44 : decode cX3_still 44 = .ok (.aload_n 0, 1) := by decide +kernel
theorem dX3_still_45 : decode cX3_still 45 = .ok (.getfield 13, 3) := by decide +kernel
theorem dX3_still_48 : decode cX3_still 48 = .ok (.iconst 0, 1) := by decide +kernel
theorem dX3_still_49 : decode cX3_still 49 = .ok (.iaload, 1) := by decide +kernel
theorem dX3_still_50 : decode cX3_still 50 = .ok (.if_icmp .ge 40, 3) := by decide +kernel
theorem dX3_still_53 : decode cX3_still 53 = .ok (.iload_n 2, 1) := by decide +kernel
theorem dX3_still_54 : decode cX3_still 54 = .ok (.aload_n 0, 1) := by decide +kernel
theorem dX3_still_55 : decode cX3_still 55 = .ok (.getfield 13, 3) := by decide +kernel
theorem dX3_still_58 : decode cX3_still 58 = .ok (.iload_n 3, 1) := by decide +kernel
theorem dX3_still_59 : decode cX3_still 59 = .ok (.iconst 2, 1) := by decide +kernel
theorem dX3_still_60 : decode cX3_still 60 = .ok (.invokestatic 64, 3) := by decide +kernel
theorem dX3_still_63 : decode cX3_still 63 = .ok (.iaload, 1) := by decide +kernel
theorem dX3_still_64 : decode cX3_still 64 = .ok (.aload_n 0, 1) := by decide +kernel
theorem dX3_still_65 : decode cX3_still 65 = .ok (.getfield 19, 3) := by decide +kernel
theorem dX3_still_68 : decode cX3_still 68 = .ok (.iload_n 3, 1) := by decide +kernel
theorem dX3_still_69 : decode cX3_still 69 = .ok (.iconst 2, 1) := by decide +kernel
theorem dX3_still_70 : decode cX3_still 70 = .ok (.invokestatic 64, 3) := by decide +kernel
theorem dX3_still_73 : decode cX3_still 73 = .ok (.iaload, 1) := by decide +kernel
theorem dX3_still_74 : decode cX3_still 74 = .ok (.if_icmp .ne 7, 3) := by decide +kernel
theorem dX3_still_77 : decode cX3_still 77 = .ok (.iconst 1, 1) := by decide +kernel
theorem dX3_still_78 : decode cX3_still 78 = .ok (.goto 4, 3) := by decide +kernel
theorem dX3_still_81 : decode cX3_still 81 = .ok (.iconst 0, 1) := by decide +kernel
theorem dX3_still_82 : decode cX3_still 82 = .ok (.iand, 1) := by decide +kernel
theorem dX3_still_83 : decode cX3_still 83 = .ok (.istore_n 2, 1) := by decide +kernel
theorem dX3_still_84 : decode cX3_still 84 = .ok (.iinc 3 1, 3) := by decide +kernel
theorem dX3_still_87 : decode cX3_still 87 = .ok (.goto (-44), 3) := by decide +kernel
theorem dX3_still_90 : decode cX3_still 90 = .ok (.iload_n 2, 1) := by decide +kernel
theorem dX3_still_91 : decode cX3_still 91 = .ok (.ifCond .eq 5, 3) := by decide +kernel
theorem dX3_still_94 : decode cX3_still 94 = .ok (.iload_n 1, 1) := by decide +kernel
theorem dX3_still_95 : decode cX3_still 95 = .ok (.ireturn, 1) := by decide +kernel
theorem dX3_still_96 : decode cX3_still 96 = .ok (.iinc 1 1, 3) := by decide +kernel
theorem dX3_still_99 : decode cX3_still 99 = .ok (.goto (-86), 3) := by decide +kernel
theorem dX3_still_102 : decode cX3_still 102 = .ok (.bipush (-4), 2) := by decide +kernel
theorem dX3_still_104 : decode cX3_still 104 = .ok (.ireturn, 1) := by decide +kernel
theorem dX3_runIn_0 : decode cX3_runIn 0 = .ok (.iconst 0, 1) := by decide +kernel
theorem dX3_runIn_1 : decode cX3_runIn 1 = .ok (.istore_n 2, 1) := by decide +kernel
theorem dX3_runIn_2 : decode cX3_runIn 2 = .ok (.iload_n 1, 1) := by decide +kernel
theorem dX3_runIn_3 : decode cX3_runIn 3 = .ok (.istore_n 3, 1) := by decide +kernel
theorem dX3_runIn_4 : decode cX3_runIn 4 = .ok (.iload_n 3, 1) := by decide +kernel
theorem dX3_runIn_5 : decode cX3_runIn 5 = .ok (.aload_n 0, 1) := by decide +kernel
theorem dX3_runIn_6 : decode cX3_runIn 6 = .ok (.getfield 13, 3) := by decide +kernel
theorem dX3_runIn_9 : decode cX3_runIn 9 = .ok (.iconst 0, 1) := by decide +kernel
theorem dX3_runIn_10 : decode cX3_runIn 10 = .ok (.iaload, 1) := by decide +kernel
theorem dX3_runIn_11 : decode cX3_runIn 11 = .ok (.if_icmp .ge 25, 3) := by decide +kernel
theorem dX3_runIn_14 : decode cX3_runIn 14 = .ok (.aload_n 0, 1) := by decide +kernel
theorem dX3_runIn_15 : decode cX3_runIn 15 = .ok (.getfield 13, 3) := by decide +kernel
theorem dX3_runIn_18 : decode cX3_runIn 18 = .ok (.iload_n 3, 1) := by decide +kernel
theorem dX3_runIn_19 : decode cX3_runIn 19 = .ok (.iconst 2, 1) := by decide +kernel
theorem dX3_runIn_20 : decode cX3_runIn 20 = .ok (.invokestatic 64, 3) := by decide +kernel
theorem dX3_runIn_23 : decode cX3_runIn 23 = .ok (.iaload, 1) := by decide +kernel
theorem dX3_runIn_24 : decode cX3_runIn 24 = .ok (.ifCond .le 12, 3) := by decide +kernel
theorem dX3_runIn_27 : decode cX3_runIn 27 = .ok (.iinc 2 1, 3) := by decide +kernel
theorem dX3_runIn_30 : decode cX3_runIn 30 = .ok (.iinc 3 1, 3) := by decide +kernel
theorem dX3_runIn_33 : decode cX3_runIn 33 = .ok (.goto (-29), 3) := by decide +kernel
theorem dX3_runIn_36 : decode cX3_runIn 36 = .ok (.iload_n 2, 1) := by decide +kernel
theorem dX3_runIn_37 : decode cX3_runIn 37 = .ok (.ireturn, 1) := by decide +kernel
theorem dX3_run_0 : decode cX3_run 0 = .ok (.aload_n 0, 1) := by decide +kernel
theorem dX3_run_1 : decode cX3_run 1 = .ok (.iload_n 1, 1) := by decide +kernel
theorem dX3_run_2 : decode cX3_run 2 = .ok (.invokevirtual 127, 3) := by decide +kernel
theorem dX3_run_5 : decode cX3_run 5 = .ok (.ifCond .eq 13, 3) := by decide +kernel
theorem dX3_run_8 : decode cX3_run 8 = .ok (.iload_n 2, 1) := by decide +kernel
theorem dX3_run_9 : decode cX3_run 9 = .ok (.iconst 0, 1) := by decide +kernel
theorem dX3_run_10 : decode cX3_run 10 = .ok (.bipush 60, 2) := by decide +kernel
theorem dX3_run_12 : decode cX3_run 12 = .ok (.invokestatic 52, 3) := by decide +kernel
theorem dX3_run_15 : decode cX3_run 15 = .ok (.ifCond .ne 5, 3) := by decide +kernel
theorem dX3_run_18 : decode cX3_run 18 = .ok (.iconst (-1), 1) := by decide +kernel
theorem dX3_run_19 : decode cX3_run 19 = .ok (.ireturn, 1) := by decide +kernel
theorem dX3_run_20 : decode cX3_run 20 = .ok (.aload_n 0, 1) := by decide +kernel
theorem dX3_run_21 : decode cX3_run 21 = .ok (.iload_n 2, 1) := by decide +kernel
theorem dX3_run_22 : decode cX3_run 22 = .ok (.invokevirtual 163, 3) := by decide +kernel
theorem dX3_run_25 : decode cX3_run 25 = .ok (.aload_n 0, 1) := by decide +kernel
theorem dX3_run_26 : decode cX3_run 26 = .ok (.iload_n 1, 1) := by decide +kernel
theorem dX3_run_27 : decode cX3_run 27 = .ok (.invokevirtual 166, 3) := by decide +kernel
theorem dX3_run_30 : decode cX3_run 30 = .ok (.ireturn, 1) := by decide +kernel
theorem dX3_longest_0 : decode cX3_longest 0 = .ok (.iload_n 1, 1) := by decide +kernel
theorem dX3_longest_1 : decode cX3_longest 1 = .ok (.iconst 0, 1) := by decide +kernel
theorem dX3_longest_2 : decode cX3_longest 2 = .ok (.bipush 60, 2) := by decide +kernel
theorem dX3_longest_4 : decode cX3_longest 4 = .ok (.invokestatic 52, 3) := by decide +kernel
theorem dX3_longest_7 : decode cX3_longest 7 = .ok (.ifCond .eq 12, 3) := by decide +kernel
theorem dX3_longest_10 : decode cX3_longest 10 = .ok (.iload_n 2, 1) := by decide +kernel
theorem dX3_longest_11 : decode cX3_longest 11 = .ok (.iconst 0, 1) := by decide +kernel
theorem dX3_longest_12 : decode cX3_longest 12 = .ok (.iconst 1, 1) := by decide +kernel
theorem dX3_longest_13 : decode cX3_longest 13 = .ok (.invokestatic 52, 3) := by decide +kernel
theorem dX3_longest_16 : decode cX3_longest 16 = .ok (.ifCond .ne 5, 3) := by decide +kernel
theorem dX3_longest_19 : decode cX3_longest 19 = .ok (.iconst (-1), 1) := by decide +kernel
theorem dX3_longest_20 : decode cX3_longest 20 = .ok (.ireturn, 1) := by decide +kernel
theorem dX3_longest_21 : decode cX3_longest 21 = .ok (.aload_n 0, 1) := by decide +kernel
theorem dX3_longest_22 : decode cX3_longest 22 = .ok (.iload_n 1, 1) := by decide +kernel
theorem dX3_longest_23 : decode cX3_longest 23 = .ok (.invokevirtual 163, 3) := by decide +kernel
theorem dX3_longest_26 : decode cX3_longest 26 = .ok (.bipush (-4), 2) := by decide +kernel
theorem dX3_longest_28 : decode cX3_longest 28 = .ok (.istore_n 3, 1) := by decide +kernel
theorem dX3_longest_29 : decode cX3_longest 29 = .ok (.iconst 0, 1) := by decide +kernel
theorem dX3_longest_30 : decode cX3_longest 30 = .ok (.istore 4, 2) := by decide +kernel
theorem dX3_longest_32 : decode cX3_longest 32 = .ok (.iconst 0, 1) := by decide +kernel
theorem dX3_longest_33 : decode cX3_longest 33 = .ok (.istore 5, 2) := by decide +kernel
theorem dX3_longest_35 : decode cX3_longest 35 = .ok (.iload 5, 2) := by decide +kernel
theorem dX3_longest_37 : decode cX3_longest 37 = .ok (.aload_n 0, 1) := by decide +kernel
theorem dX3_longest_38 : decode cX3_longest 38 = .ok (.getfield 13, 3) := by decide +kernel
theorem dX3_longest_41 : decode cX3_longest 41 = .ok (.iconst 0, 1) := by decide +kernel
theorem dX3_longest_42 : decode cX3_longest 42 = .ok (.iaload, 1) := by decide +kernel
theorem dX3_longest_43 : decode cX3_longest 43 = .ok (.if_icmp .ge 34, 3) := by decide +kernel
theorem dX3_longest_46 : decode cX3_longest 46 = .ok (.aload_n 0, 1) := by decide +kernel
theorem dX3_longest_47 : decode cX3_longest 47 = .ok (.iload 5, 2) := by decide +kernel
theorem dX3_longest_49 : decode cX3_longest 49 = .ok (.invokevirtual 166, 3) := by decide +kernel
theorem dX3_longest_52 : decode cX3_longest 52 = .ok (.iload 4, 2) := by decide +kernel
theorem dX3_longest_54 : decode cX3_longest 54 = .ok (.if_icmp .gt 6, 3) := by decide +kernel
theorem dX3_longest_57 : decode cX3_longest 57 = .ok (.goto 14, 3) := by decide +kernel
theorem dX3_longest_60 : decode cX3_longest 60 = .ok (.iload 5, 2) := by decide +kernel
theorem dX3_longest_62 : decode cX3_longest 62 = .ok (.istore_n 3, 1) := by decide +kernel
theorem dX3_longest_63 : decode cX3_longest 63 = .ok (.aload_n 0, 1) := by decide +kernel
theorem dX3_longest_64 : decode cX3_longest 64 = .ok (.iload 5, 2) := by decide +kernel
theorem dX3_longest_66 : decode cX3_longest 66 = .ok (.invokevirtual 166, 3) := by decide +kernel
theorem dX3_longest_69 : decode cX3_longest 69 = .ok (.istore 4, 2) := by decide +kernel
theorem dX3_longest_71 : decode cX3_longest 71 = .ok (.iinc 5 1, 3) := by decide +kernel
theorem dX3_longest_74 : decode cX3_longest 74 = .ok (.goto (-39), 3) := by decide +kernel
theorem dX3_longest_77 : decode cX3_longest 77 = .ok (.iload_n 2, 1) := by decide +kernel
theorem dX3_longest_78 : decode cX3_longest 78 = .ok (.ifCond .ne 7, 3) := by decide +kernel
theorem dX3_longest_81 : decode cX3_longest 81 = .ok (.iload_n 3, 1) := by decide +kernel
theorem dX3_longest_82 : decode cX3_longest 82 = .ok (.goto 5, 3) := by decide +kernel
theorem dX3_longest_85 : decode cX3_longest 85 = .ok (.iload 4, 2) := by decide +kernel
theorem dX3_longest_87 : decode cX3_longest 87 = .ok (.ireturn, 1) := by decide +kernel
theorem dX3_began_0 : decode cX3_began 0 = .ok (.iload_n 1, 1) := by decide +kernel
theorem dX3_began_1 : decode cX3_began 1 = .ok (.iconst 0, 1) := by decide +kernel
theorem dX3_began_2 : decode cX3_began 2 = .ok (.bipush 60, 2) := by decide +kernel
theorem dX3_began_4 : decode cX3_began 4 = .ok (.invokestatic 52, 3) := by decide +kernel
theorem dX3_began_7 : decode cX3_began 7 = .ok (.ifCond .ne 5, 3) := by decide +kernel
theorem dX3_began_10 : decode cX3_began 10 = .ok (.iconst (-1), 1) := by decide +kernel
theorem dX3_began_11 : decode cX3_began 11 = .ok (.ireturn, 1) := by decide +kernel
theorem dX3_began_12 : decode cX3_began 12 = .ok (.aload_n 0, 1) := by decide +kernel
theorem dX3_began_13 : decode cX3_began 13 = .ok (.iload_n 1, 1) := by decide +kernel
theorem dX3_began_14 : decode cX3_began 14 = .ok (.invokevirtual 163, 3) := by decide +kernel
theorem dX3_began_17 : decode cX3_began 17 = .ok (.bipush (-4), 2) := by decide +kernel
theorem dX3_began_19 : decode cX3_began 19 = .ok (.istore_n 2, 1) := by decide +kernel
theorem dX3_began_20 : decode cX3_began 20 = .ok (.aload_n 0, 1) := by decide +kernel
theorem dX3_began_21 : decode cX3_began 21 = .ok (.getfield 13, 3) := by decide +kernel
theorem dX3_began_24 : decode cX3_began 24 = .ok (.invokestatic 159, 3) := by decide +kernel
theorem dX3_began_27 : decode cX3_began 27 = .ok (.istore_n 3, 1) := by decide +kernel
theorem dX3_began_28 : decode cX3_began 28 = .ok (.iconst 0, 1) := by decide +kernel
theorem dX3_began_29 : decode cX3_began 29 = .ok (.istore 4, 2) := by decide +kernel
theorem dX3_began_31 : decode cX3_began 31 = .ok (.iload 4, 2) := by decide +kernel
theorem dX3_began_33 : decode cX3_began 33 = .ok (.aload_n 0, 1) := by decide +kernel
theorem dX3_began_34 : decode cX3_began 34 = .ok (.getfield 9, 3) := by decide +kernel
theorem dX3_began_37 : decode cX3_began 37 = .ok (.iconst 0, 1) := by decide +kernel
theorem dX3_began_38 : decode cX3_began 38 = .ok (.iaload, 1) := by decide +kernel
theorem dX3_began_39 : decode cX3_began 39 = .ok (.if_icmp .ge 63, 3) := by decide +kernel
theorem dX3_began_42 : decode cX3_began 42 = .ok (.aload_n 0, 1) := by decide +kernel
theorem dX3_began_43 : decode cX3_began 43 = .ok (.getfield 9, 3) := by decide +kernel
theorem dX3_began_46 : decode cX3_began 46 = .ok (.aload_n 0, 1) := by decide +kernel
theorem dX3_began_47 : decode cX3_began 47 = .ok (.getfield 13, 3) := by decide +kernel
theorem dX3_began_50 : decode cX3_began 50 = .ok (.invokestatic 148, 3) := by decide +kernel
theorem dX3_began_53 : decode cX3_began 53 = .ok (.aload_n 0, 1) := by decide +kernel
theorem dX3_began_54 : decode cX3_began 54 = .ok (.getfield 13, 3) := by decide +kernel
theorem dX3_began_57 : decode cX3_began 57 = .ok (.iload 4, 2) := by decide +kernel
theorem dX3_began_59 : decode cX3_began 59 = .ok (.invokestatic 169, 3) := by decide +kernel
theorem dX3_began_62 : decode cX3_began 62 = .ok (.aload_n 0, 1) := by decide +kernel
theorem dX3_began_63 : decode cX3_began 63 = .ok (.aload_n 0, 1) := by decide +kernel
theorem dX3_began_64 : decode cX3_began 64 = .ok (.getfield 13, 3) := by decide +kernel
theorem dX3_began_67 : decode cX3_began 67 = .ok (.iload_n 1, 1) := by decide +kernel
theorem dX3_began_68 : decode cX3_began 68 = .ok (.invokevirtual 134, 3) := by decide +kernel
theorem dX3_began_71 : decode cX3_began 71 = .ok (.aload_n 0, 1) := by decide +kernel
theorem dX3_began_72 : decode cX3_began 72 = .ok (.getfield 13, 3) := by decide +kernel
theorem dX3_began_75 : decode cX3_began 75 = .ok (.invokestatic 159, 3) := by decide +kernel
theorem dX3_began_78 : decode cX3_began 78 = .ok (.iload_n 3, 1) := by decide +kernel
theorem dX3_began_79 : decode cX3_began 79 = .ok (.if_icmp .lt 6, 3) := by decide +kernel
theorem dX3_began_82 : decode cX3_began 82 = .ok (.goto 14, 3) := by decide +kernel
theorem dX3_began_85 : decode cX3_began 85 = .ok (.iload 4, 2) := by decide +kernel
theorem dX3_began_87 : decode cX3_began 87 = .ok (.istore_n 2, 1) := by decide +kernel
theorem dX3_began_88 : decode cX3_began 88 = .ok (.aload_n 0, 1) := by decide +kernel
theorem dX3_began_89 : decode cX3_began 89 = .ok (.getfield 13, 3) := by decide +kernel
theorem dX3_began_92 : decode cX3_began 92 = .ok (.invokestatic 159, 3) := by decide +kernel
theorem dX3_began_95 : decode cX3_began 95 = .ok (.istore_n 3, 1) := by decide +kernel
theorem dX3_began_96 : decode cX3_began 96 = .ok (.iinc 4 1, 3) := by decide +kernel
theorem dX3_began_99 : decode cX3_began 99 = .ok (.goto (-68), 3) := by decide +kernel
theorem dX3_began_102 : decode cX3_began 102 = .ok (.iload_n 2, 1) := by decide +kernel
theorem dX3_began_103 : decode cX3_began 103 = .ok (.ireturn, 1) := by decide +kernel
theorem dX3_lost_0 : decode cX3_lost 0 = .ok (.iload_n 1, 1) := by decide +kernel
theorem dX3_lost_1 : decode cX3_lost 1 = .ok (.iconst 0, 1) := by decide +kernel
theorem dX3_lost_2 : decode cX3_lost 2 = .ok (.bipush 60, 2) := by decide +kernel
theorem dX3_lost_4 : decode cX3_lost 4 = .ok (.invokestatic 52, 3) := by decide +kernel
theorem dX3_lost_7 : decode cX3_lost 7 = .ok (.ifCond .ne 6, 3) := by decide +kernel
theorem dX3_lost_10 : decode cX3_lost 10 = .ok (.ldc 172, 2) := by decide +kernel
theorem dX3_lost_12 : decode cX3_lost 12 = .ok (.ireturn, 1) := by decide +kernel
theorem dX3_lost_13 : decode cX3_lost 13 = .ok (.aload_n 0, 1) := by decide +kernel
theorem dX3_lost_14 : decode cX3_lost 14 = .ok (.iload_n 1, 1) := by decide +kernel
theorem dX3_lost_15 : decode cX3_lost 15 = .ok (.invokevirtual 163, 3) := by decide +kernel
theorem dX3_lost_18 : decode cX3_lost 18 = .ok (.aload_n 0, 1) := by decide +kernel
theorem dX3_lost_19 : decode cX3_lost 19 = .ok (.getfield 13, 3) := by decide +kernel
theorem dX3_lost_22 : decode cX3_lost 22 = .ok (.invokestatic 173, 3) := by decide +kernel
theorem dX3_lost_25 : decode cX3_lost 25 = .ok (.ireturn, 1) := by decide +kernel
theorem dX3_best_0 : decode cX3_best 0 = .ok (.iload_n 1, 1) := by decide +kernel
theorem dX3_best_1 : decode cX3_best 1 = .ok (.iconst (-1), 1) := by decide +kernel
theorem dX3_best_2 : decode cX3_best 2 = .ok (.if_icmp .eq 14, 3) := by decide +kernel
theorem dX3_best_5 : decode cX3_best 5 = .ok (.aload_n 0, 1) := by decide +kernel
theorem dX3_best_6 : decode cX3_best 6 = .ok (.iload_n 1, 1) := by decide +kernel
theorem dX3_best_7 : decode cX3_best 7 = .ok (.invokevirtual 127, 3) := by decide +kernel
theorem dX3_best_10 : decode cX3_best 10 = .ok (.ifCond .ne 6, 3) := by decide +kernel
theorem dX3_best_13 : decode cX3_best 13 = .ok (.ldc 172, 2) := by decide +kernel
theorem dX3_best_15 : decode cX3_best 15 = .ok (.ireturn, 1) := by decide +kernel
theorem dX3_best_16 : decode cX3_best 16 = .ok (.aload_n 0, 1) := by decide +kernel
theorem dX3_best_17 : decode cX3_best 17 = .ok (.getfield 9, 3) := by decide +kernel
theorem dX3_best_20 : decode cX3_best 20 = .ok (.aload_n 0, 1) := by decide +kernel
theorem dX3_best_21 : decode cX3_best 21 = .ok (.getfield 13, 3) := by decide +kernel
theorem dX3_best_24 : decode cX3_best 24 = .ok (.invokestatic 148, 3) := by decide +kernel
theorem dX3_best_27 : decode cX3_best 27 = .ok (.iconst 0, 1) := by decide +kernel
theorem dX3_best_28 : decode cX3_best 28 = .ok (.istore_n 2, 1) := by decide +kernel
theorem dX3_best_29 : decode cX3_best 29 = .ok (.iload_n 2, 1) := by decide +kernel
theorem dX3_best_30 : decode cX3_best 30 = .ok (.aload_n 0, 1) := by decide +kernel
theorem dX3_best_31 : decode cX3_best 31 = .ok (.getfield 13, 3) := by decide +kernel
theorem dX3_best_34 : decode cX3_best 34 = .ok (.iconst 0, 1) := by decide +kernel
theorem dX3_best_35 : decode cX3_best 35 = .ok (.iaload, 1) := by decide +kernel
theorem dX3_best_36 : decode cX3_best 36 = .ok (.if_icmp .ge 63, 3) := by decide +kernel
theorem dX3_best_39 : decode cX3_best 39 = .ok (.aload_n 0, 1) := by decide +kernel
theorem dX3_best_40 : decode cX3_best 40 = .ok (.getfield 13, 3) := by decide +kernel
theorem dX3_best_43 : decode cX3_best 43 = .ok (.iload_n 2, 1) := by decide +kernel
theorem dX3_best_44 : decode cX3_best 44 = .ok (.iconst 2, 1) := by decide +kernel
theorem dX3_best_45 : decode cX3_best 45 = .ok (.invokestatic 64, 3) := by decide +kernel
theorem dX3_best_48 : decode cX3_best 48 = .ok (.aload_n 0, 1) := by decide +kernel
theorem dX3_best_49 : decode cX3_best 49 = .ok (.getfield 13, 3) := by decide +kernel
theorem dX3_best_52 : decode cX3_best 52 = .ok (.iload_n 2, 1) := by decide +kernel
theorem dX3_best_53 : decode cX3_best 53 = .ok (.invokestatic 84, 3) := by decide +kernel
theorem dX3_best_56 : decode cX3_best 56 = .ok (.ifCond .le 35, 3) := by decide +kernel
theorem dX3_best_59 : decode cX3_best 59 = .ok (.aload_n 0, 1) := by decide +kernel
theorem dX3_best_60 : decode cX3_best 60 = .ok (.getfield 13, 3) := by decide +kernel
theorem dX3_best_63 : decode cX3_best 63 = .ok (.iload_n 2, 1) := by decide +kernel
theorem dX3_best_64 : decode cX3_best 64 = .ok (.invokestatic 74, 3) := by decide +kernel
theorem dX3_best_67 : decode cX3_best 67 = .ok (.aload_n 0, 1) := by decide +kernel
theorem dX3_best_68 : decode cX3_best 68 = .ok (.getfield 13, 3) := by decide +kernel
theorem dX3_best_71 : decode cX3_best 71 = .ok (.iload_n 2, 1) := by decide +kernel
theorem dX3_best_72 : decode cX3_best 72 = .ok (.iconst 1, 1) := by decide +kernel
theorem dX3_best_73 : decode cX3_best 73 = .ok (.iadd, 1) := by decide +kernel
theorem dX3_best_74 : decode cX3_best 74 = .ok (.invokestatic 74, 3) := by decide +kernel
theorem dX3_best_77 : decode cX3_best 77 = .ok (.if_icmp .le 14, 3) := by decide +kernel
theorem dX3_best_80 : decode cX3_best 80 = .ok (.aload_n 0, 1) := by decide +kernel
theorem dX3_best_81 : decode cX3_best 81 = .ok (.getfield 13, 3) := by decide +kernel
theorem dX3_best_84 : decode cX3_best 84 = .ok (.iload_n 2, 1) := by decide +kernel
theorem dX3_best_85 : decode cX3_best 85 = .ok (.invokestatic 84, 3) := by decide +kernel
theorem dX3_best_88 : decode cX3_best 88 = .ok (.goto 4, 3) := by decide +kernel
theorem dX3_best_91 : decode cX3_best 91 = .ok (.iconst 0, 1) := by decide +kernel
theorem dX3_best_92 : decode cX3_best 92 = .ok (.iastore, 1) := by decide +kernel
theorem dX3_best_93 : decode cX3_best 93 = .ok (.iinc 2 1, 3) := by decide +kernel
theorem dX3_best_96 : decode cX3_best 96 = .ok (.goto (-67), 3) := by decide +kernel
theorem dX3_best_99 : decode cX3_best 99 = .ok (.iload_n 1, 1) := by decide +kernel
theorem dX3_best_100 : decode cX3_best 100 = .ok (.ifCond .ge 13, 3) := by decide +kernel
theorem dX3_best_103 : decode cX3_best 103 = .ok (.aload_n 0, 1) := by decide +kernel
theorem dX3_best_104 : decode cX3_best 104 = .ok (.getfield 13, 3) := by decide +kernel
theorem dX3_best_107 : decode cX3_best 107 = .ok (.invokestatic 173, 3) := by decide +kernel
theorem dX3_best_110 : decode cX3_best 110 = .ok (.goto 13, 3) := by decide +kernel
theorem dX3_best_113 : decode cX3_best 113 = .ok (.aload_n 0, 1) := by decide +kernel
theorem dX3_best_114 : decode cX3_best 114 = .ok (.getfield 13, 3) := by decide +kernel
theorem dX3_best_117 : decode cX3_best 117 = .ok (.iload_n 1, 1) := by decide +kernel
theorem dX3_best_118 : decode cX3_best 118 = .ok (.iconst 2, 1) := by decide +kernel
theorem dX3_best_119 : decode cX3_best 119 = .ok (.invokestatic 64, 3) := by decide +kernel
theorem dX3_best_122 : decode cX3_best 122 = .ok (.iaload, 1) := by decide +kernel
theorem dX3_best_123 : decode cX3_best 123 = .ok (.ireturn, 1) := by decide +kernel
theorem dX3_joyBy_0 : decode cX3_joyBy 0 = .ok (.iload_n 1, 1) := by decide +kernel
theorem dX3_joyBy_1 : decode cX3_joyBy 1 = .ok (.iconst 1, 1) := by decide +kernel
theorem dX3_joyBy_2 : decode cX3_joyBy 2 = .ok (.if_icmp .ne 5, 3) := by decide +kernel
theorem dX3_joyBy_5 : decode cX3_joyBy 5 = .ok (.iconst 0, 1) := by decide +kernel
theorem dX3_joyBy_6 : decode cX3_joyBy 6 = .ok (.ireturn, 1) := by decide +kernel
theorem dX3_joyBy_7 : decode cX3_joyBy 7 = .ok (.iload_n 1, 1) := by decide +kernel
theorem dX3_joyBy_8 : decode cX3_joyBy 8 = .ok (.ifCond .ne 17, 3) := by decide +kernel
theorem dX3_joyBy_11 : decode cX3_joyBy 11 = .ok (.aload_n 0, 1) := by decide +kernel
theorem dX3_joyBy_12 : decode cX3_joyBy 12 = .ok (.bipush 60, 2) := by decide +kernel
theorem dX3_joyBy_14 : decode cX3_joyBy 14 = .ok (.invokevirtual 163, 3) := by decide +kernel
theorem dX3_joyBy_17 : decode cX3_joyBy 17 = .ok (.aload_n 0, 1) := by decide +kernel
theorem dX3_joyBy_18 : decode cX3_joyBy 18 = .ok (.getfield 13, 3) := by decide +kernel
theorem dX3_joyBy_21 : decode cX3_joyBy 21 = .ok (.invokestatic 173, 3) := by decide +kernel
theorem dX3_joyBy_24 : decode cX3_joyBy 24 = .ok (.ireturn, 1) := by decide +kernel
theorem dX3_joyBy_25 : decode cX3_joyBy 25 = .ok (.aload_n 0, 1) := by decide +kernel
theorem dX3_joyBy_26 : decode cX3_joyBy 26 = .ok (.getfield 9, 3) := by decide +kernel
theorem dX3_joyBy_29 : decode cX3_joyBy 29 = .ok (.aload_n 0, 1) := by decide +kernel
theorem dX3_joyBy_30 : decode cX3_joyBy 30 = .ok (.getfield 13, 3) := by decide +kernel
theorem dX3_joyBy_33 : decode cX3_joyBy 33 = .ok (.invokestatic 148, 3) := by decide +kernel
theorem dX3_joyBy_36 : decode cX3_joyBy 36 = .ok (.iconst 0, 1) := by decide +kernel
theorem dX3_joyBy_37 : decode cX3_joyBy 37 = .ok (.istore_n 2, 1) := by decide +kernel
theorem dX3_joyBy_38 : decode cX3_joyBy 38 = .ok (.iload_n 2, 1) := by decide +kernel
theorem dX3_joyBy_39 : decode cX3_joyBy 39 = .ok (.aload_n 0, 1) := by decide +kernel
theorem dX3_joyBy_40 : decode cX3_joyBy 40 = .ok (.getfield 13, 3) := by decide +kernel
theorem dX3_joyBy_43 : decode cX3_joyBy 43 = .ok (.iconst 0, 1) := by decide +kernel
theorem dX3_joyBy_44 : decode cX3_joyBy 44 = .ok (.iaload, 1) := by decide +kernel
theorem dX3_joyBy_45 : decode cX3_joyBy 45 = .ok (.if_icmp .ge 27, 3) := by decide +kernel
theorem dX3_joyBy_48 : decode cX3_joyBy 48 = .ok (.aload_n 0, 1) := by decide +kernel
theorem dX3_joyBy_49 : decode cX3_joyBy 49 = .ok (.getfield 13, 3) := by decide +kernel
theorem dX3_joyBy_52 : decode cX3_joyBy 52 = .ok (.iload_n 2, 1) := by decide +kernel
theorem dX3_joyBy_53 : decode cX3_joyBy 53 = .ok (.iconst 2, 1) := by decide +kernel
theorem dX3_joyBy_54 : decode cX3_joyBy 54 = .ok (.invokestatic 64, 3) := by decide +kernel
theorem dX3_joyBy_57 : decode cX3_joyBy 57 = .ok (.aload_n 0, 1) := by decide +kernel
theorem dX3_joyBy_58 : decode cX3_joyBy 58 = .ok (.getfield 13, 3) := by decide +kernel
theorem dX3_joyBy_61 : decode cX3_joyBy 61 = .ok (.iload_n 2, 1) := by decide +kernel
theorem dX3_joyBy_62 : decode cX3_joyBy 62 = .ok (.invokestatic 84, 3) := by decide +kernel
theorem dX3_joyBy_65 : decode cX3_joyBy 65 = .ok (.iastore, 1) := by decide +kernel
theorem dX3_joyBy_66 : decode cX3_joyBy 66 = .ok (.iinc 2 1, 3) := by decide +kernel
theorem dX3_joyBy_69 : decode cX3_joyBy 69 = .ok (.goto (-31), 3) := by decide +kernel
theorem dX3_joyBy_72 : decode cX3_joyBy 72 = .ok (.aload_n 0, 1) := by decide +kernel
theorem dX3_joyBy_73 : decode cX3_joyBy 73 = .ok (.getfield 13, 3) := by decide +kernel
theorem dX3_joyBy_76 : decode cX3_joyBy 76 = .ok (.invokestatic 173, 3) := by decide +kernel
theorem dX3_joyBy_79 : decode cX3_joyBy 79 = .ok (.ireturn, 1) := by decide +kernel
theorem dX3_laws_0 : decode cX3_laws 0 = .ok (.iload_n 1, 1) := by decide +kernel
theorem dX3_laws_1 : decode cX3_laws 1 = .ok (.iconst (-1), 1) := by decide +kernel
theorem dX3_laws_2 : decode cX3_laws 2 = .ok (.iconst 2, 1) := by decide +kernel
theorem dX3_laws_3 : decode cX3_laws 3 = .ok (.invokestatic 52, 3) := by decide +kernel
theorem dX3_laws_6 : decode cX3_laws 6 = .ok (.ifCond .ne 6, 3) := by decide +kernel
theorem dX3_laws_9 : decode cX3_laws 9 = .ok (.ldc 172, 2) := by decide +kernel
theorem dX3_laws_11 : decode cX3_laws 11 = .ok (.ireturn, 1) := by decide +kernel
theorem dX3_laws_12 : decode cX3_laws 12 = .ok (.iload_n 1, 1) := by decide +kernel
theorem dX3_laws_13 : decode cX3_laws 13 = .ok (.ifCond .lt 9, 3) := by decide +kernel
theorem dX3_laws_16 : decode cX3_laws 16 = .ok (.aload_n 0, 1) := by decide +kernel
theorem dX3_laws_17 : decode cX3_laws 17 = .ok (.iload_n 1, 1) := by decide +kernel
theorem dX3_laws_18 : decode cX3_laws 18 = .ok (.invokevirtual 176, 3) := by decide +kernel
theorem dX3_laws_21 : decode cX3_laws 21 = .ok (.ireturn, 1) := by decide +kernel
theorem dX3_laws_22 : decode cX3_laws 22 = .ok (.iconst 0, 1) := by decide +kernel
theorem dX3_laws_23 : decode cX3_laws 23 = .ok (.istore_n 2, 1) := by decide +kernel
theorem dX3_laws_24 : decode cX3_laws 24 = .ok (.iconst 1, 1) := by decide +kernel
theorem dX3_laws_25 : decode cX3_laws 25 = .ok (.istore_n 3, 1) := by decide +kernel
theorem dX3_laws_26 : decode cX3_laws 26 = .ok (.iload_n 3, 1) := by decide +kernel
theorem dX3_laws_27 : decode cX3_laws 27 = .ok (.iconst 3, 1) := by decide +kernel
theorem dX3_laws_28 : decode cX3_laws 28 = .ok (.if_icmp .ge 24, 3) := by decide +kernel
theorem dX3_laws_31 : decode cX3_laws 31 = .ok (.aload_n 0, 1) := by decide +kernel
theorem dX3_laws_32 : decode cX3_laws 32 = .ok (.iload_n 3, 1) := by decide +kernel
theorem dX3_laws_33 : decode cX3_laws 33 = .ok (.invokevirtual 176, 3) := by decide +kernel
theorem dX3_laws_36 : decode cX3_laws 36 = .ok (.aload_n 0, 1) := by decide +kernel
theorem dX3_laws_37 : decode cX3_laws 37 = .ok (.iload_n 2, 1) := by decide +kernel
theorem dX3_laws_38 : decode cX3_laws 38 = .ok (.invokevirtual 176, 3) := by decide +kernel
theorem dX3_laws_41 : decode cX3_laws 41 = .ok (.if_icmp .le 5, 3) := by decide +kernel
theorem dX3_laws_44 : decode cX3_laws 44 = .ok (.iload_n 3, 1) := by decide +kernel
theorem dX3_laws_45 : decode cX3_laws 45 = .ok (.istore_n 2, 1) := by decide +kernel
theorem dX3_laws_46 : decode cX3_laws 46 = .ok (.iinc 3 1, 3) := by decide +kernel
theorem dX3_laws_49 : decode cX3_laws 49 = .ok (.goto (-23), 3) := by decide +kernel
theorem dX3_laws_52 : decode cX3_laws 52 = .ok (.iload_n 2, 1) := by decide +kernel
theorem dX3_laws_53 : decode cX3_laws 53 = .ok (.ireturn, 1) := by decide +kernel
theorem dX3_pays_0 : decode cX3_pays 0 = .ok (.iload_n 1, 1) := by decide +kernel
theorem dX3_pays_1 : decode cX3_pays 1 = .ok (.iconst 0, 1) := by decide +kernel
theorem dX3_pays_2 : decode cX3_pays 2 = .ok (.aload_n 0, 1) := by decide +kernel
theorem dX3_pays_3 : decode cX3_pays 3 = .ok (.getfield 9, 3) := by decide +kernel
theorem dX3_pays_6 : decode cX3_pays 6 = .ok (.iconst 0, 1) := by decide +kernel
theorem dX3_pays_7 : decode cX3_pays 7 = .ok (.iaload, 1) := by decide +kernel
theorem dX3_pays_8 : decode cX3_pays 8 = .ok (.iconst 2, 1) := by decide +kernel
theorem dX3_pays_9 : decode cX3_pays 9 = .ok (.isub, 1) := by decide +kernel
theorem dX3_pays_10 : decode cX3_pays 10 = .ok (.invokestatic 52, 3) := by decide +kernel
theorem dX3_pays_13 : decode cX3_pays 13 = .ok (.ifCond .ne 6, 3) := by decide +kernel
theorem dX3_pays_16 : decode cX3_pays 16 = .ok (.ldc 172, 2) := by decide +kernel
theorem dX3_pays_18 : decode cX3_pays 18 = .ok (.ireturn, 1) := by decide +kernel
theorem dX3_pays_19 : decode cX3_pays 19 = .ok (.aload_n 0, 1) := by decide +kernel
theorem dX3_pays_20 : decode cX3_pays 20 = .ok (.getfield 9, 3) := by decide +kernel
theorem dX3_pays_23 : decode cX3_pays 23 = .ok (.iload_n 1, 1) := by decide +kernel
theorem dX3_pays_24 : decode cX3_pays 24 = .ok (.iconst 2, 1) := by decide +kernel
theorem dX3_pays_25 : decode cX3_pays 25 = .ok (.invokestatic 64, 3) := by decide +kernel
theorem dX3_pays_28 : decode cX3_pays 28 = .ok (.iaload, 1) := by decide +kernel
theorem dX3_pays_29 : decode cX3_pays 29 = .ok (.aload_n 0, 1) := by decide +kernel
theorem dX3_pays_30 : decode cX3_pays 30 = .ok (.getfield 9, 3) := by decide +kernel
theorem dX3_pays_33 : decode cX3_pays 33 = .ok (.iload_n 1, 1) := by decide +kernel
theorem dX3_pays_34 : decode cX3_pays 34 = .ok (.iconst 1, 1) := by decide +kernel
theorem dX3_pays_35 : decode cX3_pays 35 = .ok (.iadd, 1) := by decide +kernel
theorem dX3_pays_36 : decode cX3_pays 36 = .ok (.invokestatic 74, 3) := by decide +kernel
theorem dX3_pays_39 : decode cX3_pays 39 = .ok (.aload_n 0, 1) := by decide +kernel
theorem dX3_pays_40 : decode cX3_pays 40 = .ok (.getfield 9, 3) := by decide +kernel
theorem dX3_pays_43 : decode cX3_pays 43 = .ok (.iload_n 1, 1) := by decide +kernel
theorem dX3_pays_44 : decode cX3_pays 44 = .ok (.invokestatic 74, 3) := by decide +kernel
theorem dX3_pays_47 : decode cX3_pays 47 = .ok (.isub, 1) := by decide +kernel
theorem dX3_pays_48 : decode cX3_pays 48 = .ok (.imul, 1) := by decide +kernel
theorem dX3_pays_49 : decode cX3_pays 49 = .ok (.ireturn, 1) := by decide +kernel
theorem dX3_price_0 : decode cX3_price 0 = .ok (.iload_n 1, 1) := by decide +kernel
theorem dX3_price_1 : decode cX3_price 1 = .ok (.iconst 0, 1) := by decide +kernel
theorem dX3_price_2 : decode cX3_price 2 = .ok (.aload_n 0, 1) := by decide +kernel
theorem dX3_price_3 : decode cX3_price 3 = .ok (.getfield 9, 3) := by decide +kernel
theorem dX3_price_6 : decode cX3_price 6 = .ok (.iconst 0, 1) := by decide +kernel
theorem dX3_price_7 : decode cX3_price 7 = .ok (.iaload, 1) := by decide +kernel
theorem dX3_price_8 : decode cX3_price 8 = .ok (.iconst 2, 1) := by decide +kernel
theorem dX3_price_9 : decode cX3_price 9 = .ok (.isub, 1) := by decide +kernel
theorem dX3_price_10 : decode cX3_price 10 = .ok (.invokestatic 52, 3) := by decide +kernel
theorem dX3_price_13 : decode cX3_price 13 = .ok (.ifCond .ne 6, 3) := by decide +kernel
theorem dX3_price_16 : decode cX3_price 16 = .ok (.ldc 172, 2) := by decide +kernel
theorem dX3_price_18 : decode cX3_price 18 = .ok (.ireturn, 1) := by decide +kernel
theorem dX3_price_19 : decode cX3_price 19 = .ok (.aload_n 0, 1) := by decide +kernel
theorem dX3_price_20 : decode cX3_price 20 = .ok (.getfield 9, 3) := by decide +kernel
theorem dX3_price_23 : decode cX3_price 23 = .ok (.iload_n 1, 1) := by decide +kernel
theorem dX3_price_24 : decode cX3_price 24 = .ok (.iconst 2, 1) := by decide +kernel
theorem dX3_price_25 : decode cX3_price 25 = .ok (.invokestatic 64, 3) := by decide +kernel
theorem dX3_price_28 : decode cX3_price 28 = .ok (.iaload, 1) := by decide +kernel
theorem dX3_price_29 : decode cX3_price 29 = .ok (.aload_n 0, 1) := by decide +kernel
theorem dX3_price_30 : decode cX3_price 30 = .ok (.getfield 9, 3) := by decide +kernel
theorem dX3_price_33 : decode cX3_price 33 = .ok (.iload_n 1, 1) := by decide +kernel
theorem dX3_price_34 : decode cX3_price 34 = .ok (.iconst 1, 1) := by decide +kernel
theorem dX3_price_35 : decode cX3_price 35 = .ok (.iadd, 1) := by decide +kernel
theorem dX3_price_36 : decode cX3_price 36 = .ok (.invokestatic 74, 3) := by decide +kernel
theorem dX3_price_39 : decode cX3_price 39 = .ok (.aload_n 0, 1) := by decide +kernel
theorem dX3_price_40 : decode cX3_price 40 = .ok (.getfield 9, 3) := by decide +kernel
theorem dX3_price_43 : decode cX3_price 43 = .ok (.iload_n 1, 1) := by decide +kernel
theorem dX3_price_44 : decode cX3_price 44 = .ok (.invokestatic 74, 3) := by decide +kernel
theorem dX3_price_47 : decode cX3_price 47 = .ok (.iadd, 1) := by decide +kernel
theorem dX3_price_48 : decode cX3_price 48 = .ok (.imul, 1) := by decide +kernel
theorem dX3_price_49 : decode cX3_price 49 = .ok (.iconst 2, 1) := by decide +kernel
theorem dX3_price_50 : decode cX3_price 50 = .ok (.idiv, 1) := by decide +kernel
theorem dX3_price_51 : decode cX3_price 51 = .ok (.ireturn, 1) := by decide +kernel
theorem dX3_seats_0 : decode cX3_seats 0 = .ok (.iload_n 2, 1) := by decide +kernel
theorem dX3_seats_1 : decode cX3_seats 1 = .ok (.ifCond .ne 161, 3) := by decide +kernel
theorem dX3_seats_4 : decode cX3_seats 4 = .ok (.aload_n 0, 1) := by decide +kernel
theorem dX3_seats_5 : decode cX3_seats 5 = .ok (.getfield 9, 3) := by decide +kernel
theorem dX3_seats_8 : decode cX3_seats 8 = .ok (.aload_n 0, 1) := by decide +kernel
theorem dX3_seats_9 : decode cX3_seats 9 = .ok (.getfield 13, 3) := by decide +kernel
theorem dX3_seats_12 : decode cX3_seats 12 = .ok (.invokestatic 148, 3) := by decide +kernel
theorem dX3_seats_15 : decode cX3_seats 15 = .ok (.iconst 0, 1) := by decide +kernel
theorem dX3_seats_16 : decode cX3_seats 16 = .ok (.istore 4, 2) := by decide +kernel
theorem dX3_seats_18 : decode cX3_seats 18 = .ok (.iload 4, 2) := by decide +kernel
theorem dX3_seats_20 : decode cX3_seats 20 = .ok (.aload_n 0, 1) := by decide +kernel
theorem dX3_seats_21 : decode cX3_seats 21 = .ok (.getfield 9, 3) := by decide +kernel
theorem dX3_seats_24 : decode cX3_seats 24 = .ok (.iconst 0, 1) := by decide +kernel
theorem dX3_seats_25 : decode cX3_seats 25 = .ok (.iaload, 1) := by decide +kernel
theorem dX3_seats_26 : decode cX3_seats 26 = .ok (.if_icmp .ge 63, 3) := by decide +kernel
theorem dX3_seats_29 : decode cX3_seats 29 = .ok (.aload_n 0, 1) := by decide +kernel
theorem dX3_seats_30 : decode cX3_seats 30 = .ok (.getfield 13, 3) := by decide +kernel
theorem dX3_seats_33 : decode cX3_seats 33 = .ok (.iload 4, 2) := by decide +kernel
theorem dX3_seats_35 : decode cX3_seats 35 = .ok (.iconst 0, 1) := by decide +kernel
theorem dX3_seats_36 : decode cX3_seats 36 = .ok (.invokestatic 64, 3) := by decide +kernel
theorem dX3_seats_39 : decode cX3_seats 39 = .ok (.aload_n 0, 1) := by decide +kernel
theorem dX3_seats_40 : decode cX3_seats 40 = .ok (.getfield 9, 3) := by decide +kernel
theorem dX3_seats_43 : decode cX3_seats 43 = .ok (.aload_n 0, 1) := by decide +kernel
theorem dX3_seats_44 : decode cX3_seats 44 = .ok (.getfield 28, 3) := by decide +kernel
theorem dX3_seats_47 : decode cX3_seats 47 = .ok (.iload 4, 2) := by decide +kernel
theorem dX3_seats_49 : decode cX3_seats 49 = .ok (.iaload, 1) := by decide +kernel
theorem dX3_seats_50 : decode cX3_seats 50 = .ok (.iconst 0, 1) := by decide +kernel
theorem dX3_seats_51 : decode cX3_seats 51 = .ok (.invokestatic 64, 3) := by decide +kernel
theorem dX3_seats_54 : decode cX3_seats 54 = .ok (.iaload, 1) := by decide +kernel
theorem dX3_seats_55 : decode cX3_seats 55 = .ok (.iastore, 1) := by decide +kernel
theorem dX3_seats_56 : decode cX3_seats 56 = .ok (.aload_n 0, 1) := by decide +kernel
theorem dX3_seats_57 : decode cX3_seats 57 = .ok (.getfield 13, 3) := by decide +kernel
theorem dX3_seats_60 : decode cX3_seats 60 = .ok (.iload 4, 2) := by decide +kernel
theorem dX3_seats_62 : decode cX3_seats 62 = .ok (.iconst 1, 1) := by decide +kernel
theorem dX3_seats_63 : decode cX3_seats 63 = .ok (.invokestatic 64, 3) := by decide +kernel
theorem dX3_seats_66 : decode cX3_seats 66 = .ok (.aload_n 0, 1) := by decide +kernel
theorem dX3_seats_67 : decode cX3_seats 67 = .ok (.getfield 9, 3) := by decide +kernel
theorem dX3_seats_70 : decode cX3_seats 70 = .ok (.aload_n 0, 1) := by decide +kernel
theorem dX3_seats_71 : decode cX3_seats 71 = .ok (.getfield 28, 3) := by decide +kernel
theorem dX3_seats_74 : decode cX3_seats 74 = .ok (.iload 4, 2) := by decide +kernel
theorem dX3_seats_76 : decode cX3_seats 76 = .ok (.iaload, 1) := by decide +kernel
theorem dX3_seats_77 : decode cX3_seats 77 = .ok (.iconst 1, 1) := by decide +kernel
theorem dX3_seats_78 : decode cX3_seats 78 = .ok (.invokestatic 64, 3) := by decide +kernel
theorem dX3_seats_81 : decode cX3_seats 81 = .ok (.iaload, 1) := by decide +kernel
theorem dX3_seats_82 : decode cX3_seats 82 = .ok (.iastore, 1) := by decide +kernel
theorem dX3_seats_83 : decode cX3_seats 83 = .ok (.iinc 4 1, 3) := by decide +kernel
theorem dX3_seats_86 : decode cX3_seats 86 = .ok (.goto (-68), 3) := by decide +kernel
theorem dX3_seats_89 : decode cX3_seats 89 = .ok (.aload_n 0, 1) := by decide +kernel
theorem dX3_seats_90 : decode cX3_seats 90 = .ok (.getfield 13, 3) := by decide +kernel
theorem dX3_seats_93 : decode cX3_seats 93 = .ok (.invokestatic 102, 3) := by decide +kernel
theorem dX3_seats_96 : decode cX3_seats 96 = .ok (.aload_n 0, 1) := by decide +kernel
theorem dX3_seats_97 : decode cX3_seats 97 = .ok (.aload_n 0, 1) := by decide +kernel
theorem dX3_seats_98 : decode cX3_seats 98 = .ok (.getfield 13, 3) := by decide +kernel
theorem dX3_seats_101 : decode cX3_seats 101 = .ok (.iload_n 3, 1) := by decide +kernel
theorem dX3_seats_102 : decode cX3_seats 102 = .ok (.invokevirtual 134, 3) := by decide +kernel
theorem dX3_seats_105 : decode cX3_seats 105 = .ok (.aload_n 0, 1) := by decide +kernel
theorem dX3_seats_106 : decode cX3_seats 106 = .ok (.getfield 13, 3) := by decide +kernel
theorem dX3_seats_109 : decode cX3_seats 109 = .ok (.invokestatic 173, 3) := by decide +kernel
theorem dX3_seats_112 : decode cX3_seats 112 = .ok (.aload_n 0, 1) := by decide +kernel
theorem dX3_seats_113 : decode cX3_seats 113 = .ok (.getfield 179, 3) := by decide +kernel
theorem dX3_seats_116 : decode cX3_seats 116 = .ok (.if_icmp .gt 4, 3) := by decide +kernel
theorem dX3_seats_119 : decode cX3_seats 119 = .ok (.return_, 1) := by decide +kernel
theorem dX3_seats_120 : decode cX3_seats 120 = .ok (.aload_n 0, 1) := by decide +kernel
theorem dX3_seats_121 : decode cX3_seats 121 = .ok (.aload_n 0, 1) := by decide +kernel
theorem dX3_seats_122 : decode cX3_seats 122 = .ok (.getfield 13, 3) := by decide +kernel
theorem dX3_seats_125 : decode cX3_seats 125 = .ok (.invokestatic 173, 3) := by decide +kernel
theorem dX3_seats_128 : decode cX3_seats 128 = .ok (.putfield 179, 3) := by decide +kernel
theorem dX3_seats_131 : decode cX3_seats 131 = .ok (.iconst 0, 1) := by decide +kernel
theorem dX3_seats_132 : decode cX3_seats 132 = .ok (.istore 4, 2) := by decide +kernel
theorem dX3_seats_134 : decode cX3_seats 134 = .ok (.iload 4, 2) := by decide +kernel
theorem dX3_seats_136 : decode cX3_seats 136 = .ok (.bipush 8, 2) := by decide +kernel
theorem dX3_seats_138 : decode cX3_seats 138 = .ok (.if_icmp .ge 23, 3) := by decide +kernel
theorem dX3_seats_141 : decode cX3_seats 141 = .ok (.aload_n 0, 1) := by decide +kernel
theorem dX3_seats_142 : decode cX3_seats 142 = .ok (.getfield 31, 3) := by decide +kernel
theorem dX3_seats_145 : decode cX3_seats 145 = .ok (.iload 4, 2) := by decide +kernel
theorem dX3_seats_147 : decode cX3_seats 147 = .ok (.aload_n 0, 1) := by decide +kernel
theorem dX3_seats_148 : decode cX3_seats 148 = .ok (.getfield 28, 3) := by decide +kernel
theorem dX3_seats_151 : decode cX3_seats 151 = .ok (.iload 4, 2) := by decide +kernel
theorem dX3_seats_153 : decode cX3_seats 153 = .ok (.iaload, 1) := by decide +kernel
theorem dX3_seats_154 : decode cX3_seats 154 = .ok (.iastore, 1) := by decide +kernel
theorem dX3_seats_155 : decode cX3_seats 155 = .ok (.iinc 4 1, 3) := by decide +kernel
theorem dX3_seats_158 : decode cX3_seats 158 = .ok (.goto (-24), 3) := by decide +kernel
theorem dX3_seats_161 : decode cX3_seats 161 = .ok (.return_, 1) := by decide +kernel
theorem dX3_seats_162 : decode cX3_seats 162 = .ok (.iconst 0, 1) := by decide +kernel
theorem dX3_seats_163 : decode cX3_seats 163 = .ok (.istore 4, 2) := by decide +kernel
theorem dX3_seats_165 : decode cX3_seats 165 = .ok (.iload 4, 2) := by decide +kernel
theorem dX3_seats_167 : decode cX3_seats 167 = .ok (.aload_n 0, 1) := by decide +kernel
theorem dX3_seats_168 : decode cX3_seats 168 = .ok (.getfield 9, 3) := by decide +kernel
theorem dX3_seats_171 : decode cX3_seats 171 = .ok (.iconst 0, 1) := by decide +kernel
theorem dX3_seats_172 : decode cX3_seats 172 = .ok (.iaload, 1) := by decide +kernel
theorem dX3_seats_173 : decode cX3_seats 173 = .ok (.if_icmp .ge 45, 3) := by decide +kernel
theorem dX3_seats_176 : decode cX3_seats 176 = .ok (.iload_n 2, 1) := by decide +kernel
theorem dX3_seats_177 : decode cX3_seats 177 = .ok (.iload 4, 2) := by decide +kernel
theorem dX3_seats_179 : decode cX3_seats 179 = .ok (.invokestatic 94, 3) := by decide +kernel
theorem dX3_seats_182 : decode cX3_seats 182 = .ok (.ifCond .ne 6, 3) := by decide +kernel
theorem dX3_seats_185 : decode cX3_seats 185 = .ok (.goto 27, 3) := by decide +kernel
theorem dX3_seats_188 : decode cX3_seats 188 = .ok (.aload_n 0, 1) := by decide +kernel
theorem dX3_seats_189 : decode cX3_seats 189 = .ok (.getfield 28, 3) := by decide +kernel
theorem dX3_seats_192 : decode cX3_seats 192 = .ok (.iload_n 1, 1) := by decide +kernel
theorem dX3_seats_193 : decode cX3_seats 193 = .ok (.iload 4, 2) := by decide +kernel
theorem dX3_seats_195 : decode cX3_seats 195 = .ok (.iastore, 1) := by decide +kernel
theorem dX3_seats_196 : decode cX3_seats 196 = .ok (.aload_n 0, 1) := by decide +kernel
theorem dX3_seats_197 : decode cX3_seats 197 = .ok (.iload_n 1, 1) := by decide +kernel
theorem dX3_seats_198 : decode cX3_seats 198 = .ok (.iconst 1, 1) := by decide +kernel
theorem dX3_seats_199 : decode cX3_seats 199 = .ok (.iadd, 1) := by decide +kernel
theorem dX3_seats_200 : decode cX3_seats 200 = .ok (.iload_n 2, 1) := by decide +kernel
theorem dX3_seats_201 : decode cX3_seats 201 = .ok (.iconst 1, 1) := by decide +kernel
theorem dX3_seats_202 : decode cX3_seats 202 = .ok (.iload 4, 2) := by decide +kernel
theorem dX3_seats_204 : decode cX3_seats 204 = .ok (.ishl, 1) := by decide +kernel
theorem dX3_seats_205 : decode cX3_seats 205 = .ok (.iconst (-1), 1) := by decide +kernel
theorem dX3_seats_206 : decode cX3_seats 206 = .ok (.ixor, 1) := by decide +kernel
theorem dX3_seats_207 : decode cX3_seats 207 = .ok (.iand, 1) := by decide +kernel
theorem dX3_seats_208 : decode cX3_seats 208 = .ok (.iload_n 3, 1) := by decide +kernel
theorem dX3_seats_209 : decode cX3_seats 209 = .ok (.invokevirtual 182, 3) := by decide +kernel
theorem dX3_seats_212 : decode cX3_seats 212 = .ok (.iinc 4 1, 3) := by decide +kernel
theorem dX3_seats_215 : decode cX3_seats 215 = .ok (.goto (-50), 3) := by decide +kernel
theorem dX3_seats_218 : decode cX3_seats 218 = .ok (.return_, 1) := by decide +kernel
theorem dX3_order_0 : decode cX3_order 0 = .ok (.iload_n 1, 1) := by decide +kernel
theorem dX3_order_1 : decode cX3_order 1 = .ok (.iconst 0, 1) := by decide +kernel
theorem dX3_order_2 : decode cX3_order 2 = .ok (.bipush 9, 2) := by decide +kernel
theorem dX3_order_4 : decode cX3_order 4 = .ok (.invokestatic 52, 3) := by decide +kernel
theorem dX3_order_7 : decode cX3_order 7 = .ok (.ifCond .eq 16, 3) := by decide +kernel
theorem dX3_order_10 : decode cX3_order 10 = .ok (.iload_n 2, 1) := by decide +kernel
theorem dX3_order_11 : decode cX3_order 11 = .ok (.iconst (-1), 1) := by decide +kernel
theorem dX3_order_12 : decode cX3_order 12 = .ok (.if_icmp .eq 14, 3) := by decide +kernel
theorem dX3_order_15 : decode cX3_order 15 = .ok (.aload_n 0, 1) := by decide +kernel
theorem dX3_order_16 : decode cX3_order 16 = .ok (.iload_n 2, 1) := by decide +kernel
theorem dX3_order_17 : decode cX3_order 17 = .ok (.invokevirtual 127, 3) := by decide +kernel
theorem dX3_order_20 : decode cX3_order 20 = .ok (.ifCond .ne 6, 3) := by decide +kernel
theorem dX3_order_23 : decode cX3_order 23 = .ok (.ldc 172, 2) := by decide +kernel
theorem dX3_order_25 : decode cX3_order 25 = .ok (.ireturn, 1) := by decide +kernel
theorem dX3_order_26 : decode cX3_order 26 = .ok (.aload_n 0, 1) := by decide +kernel
theorem dX3_order_27 : decode cX3_order 27 = .ok (.getfield 9, 3) := by decide +kernel
theorem dX3_order_30 : decode cX3_order 30 = .ok (.iconst 0, 1) := by decide +kernel
theorem dX3_order_31 : decode cX3_order 31 = .ok (.iaload, 1) := by decide +kernel
theorem dX3_order_32 : decode cX3_order 32 = .ok (.bipush 6, 2) := by decide +kernel
theorem dX3_order_34 : decode cX3_order 34 = .ok (.if_icmp .le 6, 3) := by decide +kernel
theorem dX3_order_37 : decode cX3_order 37 = .ok (.ldc 186, 2) := by decide +kernel
theorem dX3_order_39 : decode cX3_order 39 = .ok (.ireturn, 1) := by decide +kernel
theorem dX3_order_40 : decode cX3_order 40 = .ok (.aload_n 0, 1) := by decide +kernel
theorem dX3_order_41 : decode cX3_order 41 = .ok (.ldc 187, 2) := by decide +kernel
theorem dX3_order_43 : decode cX3_order 43 = .ok (.putfield 179, 3) := by decide +kernel
theorem dX3_order_46 : decode cX3_order 46 = .ok (.aload_n 0, 1) := by decide +kernel
theorem dX3_order_47 : decode cX3_order 47 = .ok (.iconst 0, 1) := by decide +kernel
theorem dX3_order_48 : decode cX3_order 48 = .ok (.iconst 1, 1) := by decide +kernel
theorem dX3_order_49 : decode cX3_order 49 = .ok (.aload_n 0, 1) := by decide +kernel
theorem dX3_order_50 : decode cX3_order 50 = .ok (.getfield 9, 3) := by decide +kernel
theorem dX3_order_53 : decode cX3_order 53 = .ok (.iconst 0, 1) := by decide +kernel
theorem dX3_order_54 : decode cX3_order 54 = .ok (.iaload, 1) := by decide +kernel
theorem dX3_order_55 : decode cX3_order 55 = .ok (.ishl, 1) := by decide +kernel
theorem dX3_order_56 : decode cX3_order 56 = .ok (.iconst 1, 1) := by decide +kernel
theorem dX3_order_57 : decode cX3_order 57 = .ok (.isub, 1) := by decide +kernel
theorem dX3_order_58 : decode cX3_order 58 = .ok (.iload_n 1, 1) := by decide +kernel
theorem dX3_order_59 : decode cX3_order 59 = .ok (.invokevirtual 182, 3) := by decide +kernel
theorem dX3_order_62 : decode cX3_order 62 = .ok (.iload_n 2, 1) := by decide +kernel
theorem dX3_order_63 : decode cX3_order 63 = .ok (.ifCond .ge 10, 3) := by decide +kernel
theorem dX3_order_66 : decode cX3_order 66 = .ok (.aload_n 0, 1) := by decide +kernel
theorem dX3_order_67 : decode cX3_order 67 = .ok (.getfield 179, 3) := by decide +kernel
theorem dX3_order_70 : decode cX3_order 70 = .ok (.goto 9, 3) := by decide +kernel
theorem dX3_order_73 : decode cX3_order 73 = .ok (.aload_n 0, 1) := by decide +kernel
theorem dX3_order_74 : decode cX3_order 74 = .ok (.getfield 31, 3) := by decide +kernel
theorem dX3_order_77 : decode cX3_order 77 = .ok (.iload_n 2, 1) := by decide +kernel
theorem dX3_order_78 : decode cX3_order 78 = .ok (.iaload, 1) := by decide +kernel
theorem dX3_order_79 : decode cX3_order 79 = .ok (.ireturn, 1) := by decide +kernel
theorem dX3_swap_0 : decode cX3_swap 0 = .ok (.iload_n 1, 1) := by decide +kernel
theorem dX3_swap_1 : decode cX3_swap 1 = .ok (.iconst 0, 1) := by decide +kernel
theorem dX3_swap_2 : decode cX3_swap 2 = .ok (.bipush 60, 2) := by decide +kernel
theorem dX3_swap_4 : decode cX3_swap 4 = .ok (.invokestatic 52, 3) := by decide +kernel
theorem dX3_swap_7 : decode cX3_swap 7 = .ok (.ifCond .ne 5, 3) := by decide +kernel
theorem dX3_swap_10 : decode cX3_swap 10 = .ok (.iconst (-1), 1) := by decide +kernel
theorem dX3_swap_11 : decode cX3_swap 11 = .ok (.ireturn, 1) := by decide +kernel
theorem dX3_swap_12 : decode cX3_swap 12 = .ok (.aload_n 0, 1) := by decide +kernel
theorem dX3_swap_13 : decode cX3_swap 13 = .ok (.getfield 9, 3) := by decide +kernel
theorem dX3_swap_16 : decode cX3_swap 16 = .ok (.aload_n 0, 1) := by decide +kernel
theorem dX3_swap_17 : decode cX3_swap 17 = .ok (.getfield 13, 3) := by decide +kernel
theorem dX3_swap_20 : decode cX3_swap 20 = .ok (.invokestatic 148, 3) := by decide +kernel
theorem dX3_swap_23 : decode cX3_swap 23 = .ok (.aload_n 0, 1) := by decide +kernel
theorem dX3_swap_24 : decode cX3_swap 24 = .ok (.getfield 13, 3) := by decide +kernel
theorem dX3_swap_27 : decode cX3_swap 27 = .ok (.invokestatic 102, 3) := by decide +kernel
theorem dX3_swap_30 : decode cX3_swap 30 = .ok (.aload_n 0, 1) := by decide +kernel
theorem dX3_swap_31 : decode cX3_swap 31 = .ok (.aload_n 0, 1) := by decide +kernel
theorem dX3_swap_32 : decode cX3_swap 32 = .ok (.getfield 13, 3) := by decide +kernel
theorem dX3_swap_35 : decode cX3_swap 35 = .ok (.iload_n 1, 1) := by decide +kernel
theorem dX3_swap_36 : decode cX3_swap 36 = .ok (.invokevirtual 134, 3) := by decide +kernel
theorem dX3_swap_39 : decode cX3_swap 39 = .ok (.bipush (-4), 2) := by decide +kernel
theorem dX3_swap_41 : decode cX3_swap 41 = .ok (.istore_n 2, 1) := by decide +kernel
theorem dX3_swap_42 : decode cX3_swap 42 = .ok (.aload_n 0, 1) := by decide +kernel
theorem dX3_swap_43 : decode cX3_swap 43 = .ok (.getfield 13, 3) := by decide +kernel
theorem dX3_swap_46 : decode cX3_swap 46 = .ok (.invokestatic 173, 3) := by decide +kernel
theorem dX3_swap_49 : decode cX3_swap 49 = .ok (.istore_n 3, 1) := by decide +kernel
