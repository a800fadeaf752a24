theorem dX3_swap_50 : decode cX3_swap 50 = .ok (.iconst 0, 1) := by decide +kernel
theorem dX3_swap_51 : decode cX3_swap 51 = .ok (.istore 4, 2) := by decide +kernel
theorem dX3_swap_53 : decode cX3_swap 53 = .ok (.iload 4, 2) := by decide +kernel
theorem dX3_swap_55 : decode cX3_swap 55 = .ok (.aload_n 0, 1) := by decide +kernel
theorem dX3_swap_56 : decode cX3_swap 56 = .ok (.getfield 9, 3) := by decide +kernel
theorem dX3_swap_59 : decode cX3_swap 59 = .ok (.iconst 0, 1) := by decide +kernel
theorem dX3_swap_60 : decode cX3_swap 60 = .ok (.iaload, 1) := by decide +kernel
theorem dX3_swap_61 : decode cX3_swap 61 = .ok (.if_icmp .ge 94, 3) := by decide +kernel
theorem dX3_swap_64 : decode cX3_swap 64 = .ok (.iload 4, 2) := by decide +kernel
theorem dX3_swap_66 : decode cX3_swap 66 = .ok (.iconst 1, 1) := by decide +kernel
theorem dX3_swap_67 : decode cX3_swap 67 = .ok (.iadd, 1) := by decide +kernel
theorem dX3_swap_68 : decode cX3_swap 68 = .ok (.istore 5, 2) := by decide +kernel
theorem dX3_swap_70 : decode cX3_swap 70 = .ok (.iload 5, 2) := by decide +kernel
theorem dX3_swap_72 : decode cX3_swap 72 = .ok (.aload_n 0, 1) := by decide +kernel
theorem dX3_swap_73 : decode cX3_swap 73 = .ok (.getfield 9, 3) := by decide +kernel
theorem dX3_swap_76 : decode cX3_swap 76 = .ok (.iconst 0, 1) := by decide +kernel
theorem dX3_swap_77 : decode cX3_swap 77 = .ok (.iaload, 1) := by decide +kernel
theorem dX3_swap_78 : decode cX3_swap 78 = .ok (.if_icmp .ge 71, 3) := by decide +kernel
theorem dX3_swap_81 : decode cX3_swap 81 = .ok (.aload_n 0, 1) := by decide +kernel
theorem dX3_swap_82 : decode cX3_swap 82 = .ok (.getfield 9, 3) := by decide +kernel
theorem dX3_swap_85 : decode cX3_swap 85 = .ok (.aload_n 0, 1) := by decide +kernel
theorem dX3_swap_86 : decode cX3_swap 86 = .ok (.getfield 13, 3) := by decide +kernel
theorem dX3_swap_89 : decode cX3_swap 89 = .ok (.invokestatic 148, 3) := by decide +kernel
theorem dX3_swap_92 : decode cX3_swap 92 = .ok (.aload_n 0, 1) := by decide +kernel
theorem dX3_swap_93 : decode cX3_swap 93 = .ok (.getfield 13, 3) := by decide +kernel
theorem dX3_swap_96 : decode cX3_swap 96 = .ok (.iload 4, 2) := by decide +kernel
theorem dX3_swap_98 : decode cX3_swap 98 = .ok (.iload 5, 2) := by decide +kernel
theorem dX3_swap_100 : decode cX3_swap 100 = .ok (.invokestatic 137, 3) := by decide +kernel
theorem dX3_swap_103 : decode cX3_swap 103 = .ok (.aload_n 0, 1) := by decide +kernel
theorem dX3_swap_104 : decode cX3_swap 104 = .ok (.aload_n 0, 1) := by decide +kernel
theorem dX3_swap_105 : decode cX3_swap 105 = .ok (.getfield 13, 3) := by decide +kernel
theorem dX3_swap_108 : decode cX3_swap 108 = .ok (.iload_n 1, 1) := by decide +kernel
theorem dX3_swap_109 : decode cX3_swap 109 = .ok (.invokevirtual 134, 3) := by decide +kernel
theorem dX3_swap_112 : decode cX3_swap 112 = .ok (.aload_n 0, 1) := by decide +kernel
theorem dX3_swap_113 : decode cX3_swap 113 = .ok (.getfield 13, 3) := by decide +kernel
theorem dX3_swap_116 : decode cX3_swap 116 = .ok (.invokestatic 173, 3) := by decide +kernel
theorem dX3_swap_119 : decode cX3_swap 119 = .ok (.iload_n 3, 1) := by decide +kernel
theorem dX3_swap_120 : decode cX3_swap 120 = .ok (.if_icmp .gt 6, 3) := by decide +kernel
theorem dX3_swap_123 : decode cX3_swap 123 = .ok (.goto 20, 3) := by decide +kernel
theorem dX3_swap_126 : decode cX3_swap 126 = .ok (.bipush 10, 2) := by decide +kernel
theorem dX3_swap_128 : decode cX3_swap 128 = .ok (.iload 4, 2) := by decide +kernel
theorem dX3_swap_130 : decode cX3_swap 130 = .ok (.imul, 1) := by decide +kernel
theorem dX3_swap_131 : decode cX3_swap 131 = .ok (.iload 5, 2) := by decide +kernel
theorem dX3_swap_133 : decode cX3_swap 133 = .ok (.iadd, 1) := by decide +kernel
theorem dX3_swap_134 : decode cX3_swap 134 = .ok (.istore_n 2, 1) := by decide +kernel
theorem dX3_swap_135 : decode cX3_swap 135 = .ok (.aload_n 0, 1) := by decide +kernel
theorem dX3_swap_136 : decode cX3_swap 136 = .ok (.getfield 13, 3) := by decide +kernel
theorem dX3_swap_139 : decode cX3_swap 139 = .ok (.invokestatic 173, 3) := by decide +kernel
theorem dX3_swap_142 : decode cX3_swap 142 = .ok (.istore_n 3, 1) := by decide +kernel
theorem dX3_swap_143 : decode cX3_swap 143 = .ok (.iinc 5 1, 3) := by decide +kernel
theorem dX3_swap_146 : decode cX3_swap 146 = .ok (.goto (-76), 3) := by decide +kernel
theorem dX3_swap_149 : decode cX3_swap 149 = .ok (.iinc 4 1, 3) := by decide +kernel
theorem dX3_swap_152 : decode cX3_swap 152 = .ok (.goto (-99), 3) := by decide +kernel
theorem dX3_swap_155 : decode cX3_swap 155 = .ok (.iload_n 2, 1) := by decide +kernel
theorem dX3_swap_156 : decode cX3_swap 156 = .ok (.ireturn, 1) := by decide +kernel
theorem dX3_stops_0 : decode cX3_stops 0 = .ok (.iload_n 1, 1) := by decide +kernel
theorem dX3_stops_1 : decode cX3_stops 1 = .ok (.iconst 1, 1) := by decide +kernel
theorem dX3_stops_2 : decode cX3_stops 2 = .ok (.bipush 60, 2) := by decide +kernel
theorem dX3_stops_4 : decode cX3_stops 4 = .ok (.invokestatic 52, 3) := by decide +kernel
theorem dX3_stops_7 : decode cX3_stops 7 = .ok (.ifCond .ne 5, 3) := by decide +kernel
theorem dX3_stops_10 : decode cX3_stops 10 = .ok (.iconst (-1), 1) := by decide +kernel
theorem dX3_stops_11 : decode cX3_stops 11 = .ok (.ireturn, 1) := by decide +kernel
theorem dX3_stops_12 : decode cX3_stops 12 = .ok (.iconst 1, 1) := by decide +kernel
theorem dX3_stops_13 : decode cX3_stops 13 = .ok (.aload_n 0, 1) := by decide +kernel
theorem dX3_stops_14 : decode cX3_stops 14 = .ok (.getfield 9, 3) := by decide +kernel
theorem dX3_stops_17 : decode cX3_stops 17 = .ok (.iconst 0, 1) := by decide +kernel
theorem dX3_stops_18 : decode cX3_stops 18 = .ok (.iaload, 1) := by decide +kernel
theorem dX3_stops_19 : decode cX3_stops 19 = .ok (.ishl, 1) := by decide +kernel
theorem dX3_stops_20 : decode cX3_stops 20 = .ok (.iconst 1, 1) := by decide +kernel
theorem dX3_stops_21 : decode cX3_stops 21 = .ok (.isub, 1) := by decide +kernel
theorem dX3_stops_22 : decode cX3_stops 22 = .ok (.istore_n 2, 1) := by decide +kernel
theorem dX3_stops_23 : decode cX3_stops 23 = .ok (.iconst 0, 1) := by decide +kernel
theorem dX3_stops_24 : decode cX3_stops 24 = .ok (.istore_n 3, 1) := by decide +kernel
theorem dX3_stops_25 : decode cX3_stops 25 = .ok (.iload_n 3, 1) := by decide +kernel
theorem dX3_stops_26 : decode cX3_stops 26 = .ok (.iconst 1, 1) := by decide +kernel
theorem dX3_stops_27 : decode cX3_stops 27 = .ok (.aload_n 0, 1) := by decide +kernel
theorem dX3_stops_28 : decode cX3_stops 28 = .ok (.getfield 9, 3) := by decide +kernel
theorem dX3_stops_31 : decode cX3_stops 31 = .ok (.iconst 0, 1) := by decide +kernel
theorem dX3_stops_32 : decode cX3_stops 32 = .ok (.iaload, 1) := by decide +kernel
theorem dX3_stops_33 : decode cX3_stops 33 = .ok (.ishl, 1) := by decide +kernel
theorem dX3_stops_34 : decode cX3_stops 34 = .ok (.if_icmp .ge 93, 3) := by decide +kernel
theorem dX3_stops_37 : decode cX3_stops 37 = .ok (.iload_n 3, 1) := by decide +kernel
theorem dX3_stops_38 : decode cX3_stops 38 = .ok (.invokestatic 188, 3) := by decide +kernel
theorem dX3_stops_41 : decode cX3_stops 41 = .ok (.iload_n 2, 1) := by decide +kernel
theorem dX3_stops_42 : decode cX3_stops 42 = .ok (.invokestatic 188, 3) := by decide +kernel
theorem dX3_stops_45 : decode cX3_stops 45 = .ok (.if_icmp .lt 6, 3) := by decide +kernel
theorem dX3_stops_48 : decode cX3_stops 48 = .ok (.goto 73, 3) := by decide +kernel
theorem dX3_stops_51 : decode cX3_stops 51 = .ok (.aload_n 0, 1) := by decide +kernel
theorem dX3_stops_52 : decode cX3_stops 52 = .ok (.getfield 9, 3) := by decide +kernel
theorem dX3_stops_55 : decode cX3_stops 55 = .ok (.aload_n 0, 1) := by decide +kernel
theorem dX3_stops_56 : decode cX3_stops 56 = .ok (.getfield 13, 3) := by decide +kernel
theorem dX3_stops_59 : decode cX3_stops 59 = .ok (.invokestatic 148, 3) := by decide +kernel
theorem dX3_stops_62 : decode cX3_stops 62 = .ok (.iconst 0, 1) := by decide +kernel
theorem dX3_stops_63 : decode cX3_stops 63 = .ok (.istore 4, 2) := by decide +kernel
theorem dX3_stops_65 : decode cX3_stops 65 = .ok (.iload 4, 2) := by decide +kernel
theorem dX3_stops_67 : decode cX3_stops 67 = .ok (.aload_n 0, 1) := by decide +kernel
theorem dX3_stops_68 : decode cX3_stops 68 = .ok (.getfield 9, 3) := by decide +kernel
theorem dX3_stops_71 : decode cX3_stops 71 = .ok (.iconst 0, 1) := by decide +kernel
theorem dX3_stops_72 : decode cX3_stops 72 = .ok (.iaload, 1) := by decide +kernel
theorem dX3_stops_73 : decode cX3_stops 73 = .ok (.if_icmp .ge 27, 3) := by decide +kernel
theorem dX3_stops_76 : decode cX3_stops 76 = .ok (.iload_n 3, 1) := by decide +kernel
theorem dX3_stops_77 : decode cX3_stops 77 = .ok (.iload 4, 2) := by decide +kernel
theorem dX3_stops_79 : decode cX3_stops 79 = .ok (.invokestatic 94, 3) := by decide +kernel
theorem dX3_stops_82 : decode cX3_stops 82 = .ok (.ifCond .eq 12, 3) := by decide +kernel
theorem dX3_stops_85 : decode cX3_stops 85 = .ok (.aload_n 0, 1) := by decide +kernel
theorem dX3_stops_86 : decode cX3_stops 86 = .ok (.getfield 13, 3) := by decide +kernel
theorem dX3_stops_89 : decode cX3_stops 89 = .ok (.iload 4, 2) := by decide +kernel
theorem dX3_stops_91 : decode cX3_stops 91 = .ok (.invokestatic 169, 3) := by decide +kernel
theorem dX3_stops_94 : decode cX3_stops 94 = .ok (.iinc 4 1, 3) := by decide +kernel
theorem dX3_stops_97 : decode cX3_stops 97 = .ok (.goto (-32), 3) := by decide +kernel
theorem dX3_stops_100 : decode cX3_stops 100 = .ok (.aload_n 0, 1) := by decide +kernel
theorem dX3_stops_101 : decode cX3_stops 101 = .ok (.aload_n 0, 1) := by decide +kernel
theorem dX3_stops_102 : decode cX3_stops 102 = .ok (.getfield 13, 3) := by decide +kernel
theorem dX3_stops_105 : decode cX3_stops 105 = .ok (.iload_n 1, 1) := by decide +kernel
theorem dX3_stops_106 : decode cX3_stops 106 = .ok (.invokevirtual 134, 3) := by decide +kernel
theorem dX3_stops_109 : decode cX3_stops 109 = .ok (.aload_n 0, 1) := by decide +kernel
theorem dX3_stops_110 : decode cX3_stops 110 = .ok (.getfield 13, 3) := by decide +kernel
theorem dX3_stops_113 : decode cX3_stops 113 = .ok (.invokestatic 191, 3) := by decide +kernel
theorem dX3_stops_116 : decode cX3_stops 116 = .ok (.ifCond .ne 5, 3) := by decide +kernel
theorem dX3_stops_119 : decode cX3_stops 119 = .ok (.iload_n 3, 1) := by decide +kernel
theorem dX3_stops_120 : decode cX3_stops 120 = .ok (.istore_n 2, 1) := by decide +kernel
theorem dX3_stops_121 : decode cX3_stops 121 = .ok (.iinc 3 1, 3) := by decide +kernel
theorem dX3_stops_124 : decode cX3_stops 124 = .ok (.goto (-99), 3) := by decide +kernel
theorem dX3_stops_127 : decode cX3_stops 127 = .ok (.iload_n 2, 1) := by decide +kernel
theorem dX3_stops_128 : decode cX3_stops 128 = .ok (.ireturn, 1) := by decide +kernel
theorem dX3_ask_0 : decode cX3_ask 0 = .ok (.iload_n 1, 1) := by decide +kernel
theorem dX3_ask_1 : decode cX3_ask 1 = .ok (.iconst 0, 1) := by decide +kernel
theorem dX3_ask_2 : decode cX3_ask 2 = .ok (.bipush 60, 2) := by decide +kernel
theorem dX3_ask_4 : decode cX3_ask 4 = .ok (.invokestatic 52, 3) := by decide +kernel
theorem dX3_ask_7 : decode cX3_ask 7 = .ok (.ifCond .ne 5, 3) := by decide +kernel
theorem dX3_ask_10 : decode cX3_ask 10 = .ok (.iconst (-1), 1) := by decide +kernel
theorem dX3_ask_11 : decode cX3_ask 11 = .ok (.ireturn, 1) := by decide +kernel
theorem dX3_ask_12 : decode cX3_ask 12 = .ok (.bipush (-4), 2) := by decide +kernel
theorem dX3_ask_14 : decode cX3_ask 14 = .ok (.istore_n 2, 1) := by decide +kernel
theorem dX3_ask_15 : decode cX3_ask 15 = .ok (.ldc 187, 2) := by decide +kernel
theorem dX3_ask_17 : decode cX3_ask 17 = .ok (.istore_n 3, 1) := by decide +kernel
theorem dX3_ask_18 : decode cX3_ask 18 = .ok (.iconst 0, 1) := by decide +kernel
theorem dX3_ask_19 : decode cX3_ask 19 = .ok (.istore 4, 2) := by decide +kernel
theorem dX3_ask_21 : decode cX3_ask 21 = .ok (.iload 4, 2) := by decide +kernel
theorem dX3_ask_23 : decode cX3_ask 23 = .ok (.aload_n 0, 1) := by decide +kernel
theorem dX3_ask_24 : decode cX3_ask 24 = .ok (.getfield 9, 3) := by decide +kernel
theorem dX3_ask_27 : decode cX3_ask 27 = .ok (.iconst 0, 1) := by decide +kernel
theorem dX3_ask_28 : decode cX3_ask 28 = .ok (.iaload, 1) := by decide +kernel
theorem dX3_ask_29 : decode cX3_ask 29 = .ok (.if_icmp .ge 63, 3) := by decide +kernel
theorem dX3_ask_32 : decode cX3_ask 32 = .ok (.aload_n 0, 1) := by decide +kernel
theorem dX3_ask_33 : decode cX3_ask 33 = .ok (.getfield 9, 3) := by decide +kernel
theorem dX3_ask_36 : decode cX3_ask 36 = .ok (.aload_n 0, 1) := by decide +kernel
theorem dX3_ask_37 : decode cX3_ask 37 = .ok (.getfield 13, 3) := by decide +kernel
theorem dX3_ask_40 : decode cX3_ask 40 = .ok (.invokestatic 148, 3) := by decide +kernel
theorem dX3_ask_43 : decode cX3_ask 43 = .ok (.aload_n 0, 1) := by decide +kernel
theorem dX3_ask_44 : decode cX3_ask 44 = .ok (.getfield 13, 3) := by decide +kernel
theorem dX3_ask_47 : decode cX3_ask 47 = .ok (.iload 4, 2) := by decide +kernel
theorem dX3_ask_49 : decode cX3_ask 49 = .ok (.invokestatic 169, 3) := by decide +kernel
theorem dX3_ask_52 : decode cX3_ask 52 = .ok (.aload_n 0, 1) := by decide +kernel
theorem dX3_ask_53 : decode cX3_ask 53 = .ok (.aload_n 0, 1) := by decide +kernel
theorem dX3_ask_54 : decode cX3_ask 54 = .ok (.getfield 13, 3) := by decide +kernel
theorem dX3_ask_57 : decode cX3_ask 57 = .ok (.iload_n 1, 1) := by decide +kernel
theorem dX3_ask_58 : decode cX3_ask 58 = .ok (.invokevirtual 134, 3) := by decide +kernel
theorem dX3_ask_61 : decode cX3_ask 61 = .ok (.aload_n 0, 1) := by decide +kernel
theorem dX3_ask_62 : decode cX3_ask 62 = .ok (.getfield 13, 3) := by decide +kernel
theorem dX3_ask_65 : decode cX3_ask 65 = .ok (.invokestatic 173, 3) := by decide +kernel
theorem dX3_ask_68 : decode cX3_ask 68 = .ok (.iload_n 3, 1) := by decide +kernel
theorem dX3_ask_69 : decode cX3_ask 69 = .ok (.if_icmp .gt 6, 3) := by decide +kernel
theorem dX3_ask_72 : decode cX3_ask 72 = .ok (.goto 14, 3) := by decide +kernel
theorem dX3_ask_75 : decode cX3_ask 75 = .ok (.iload 4, 2) := by decide +kernel
theorem dX3_ask_77 : decode cX3_ask 77 = .ok (.istore_n 2, 1) := by decide +kernel
theorem dX3_ask_78 : decode cX3_ask 78 = .ok (.aload_n 0, 1) := by decide +kernel
theorem dX3_ask_79 : decode cX3_ask 79 = .ok (.getfield 13, 3) := by decide +kernel
theorem dX3_ask_82 : decode cX3_ask 82 = .ok (.invokestatic 173, 3) := by decide +kernel
theorem dX3_ask_85 : decode cX3_ask 85 = .ok (.istore_n 3, 1) := by decide +kernel
theorem dX3_ask_86 : decode cX3_ask 86 = .ok (.iinc 4 1, 3) := by decide +kernel
theorem dX3_ask_89 : decode cX3_ask 89 = .ok (.goto (-68), 3) := by decide +kernel
theorem dX3_ask_92 : decode cX3_ask 92 = .ok (.iload_n 2, 1) := by decide +kernel
theorem dX3_ask_93 : decode cX3_ask 93 = .ok (.ireturn, 1) := by decide +kernel
theorem dX3_bestHour_0 : decode cX3_bestHour 0 = .ok (.iload_n 1, 1) := by decide +kernel
theorem dX3_bestHour_1 : decode cX3_bestHour 1 = .ok (.iconst 0, 1) := by decide +kernel
theorem dX3_bestHour_2 : decode cX3_bestHour 2 = .ok (.bipush 60, 2) := by decide +kernel
theorem dX3_bestHour_4 : decode cX3_bestHour 4 = .ok (.invokestatic 52, 3) := by decide +kernel
theorem dX3_bestHour_7 : decode cX3_bestHour 7 = .ok (.ifCond .ne 5, 3) := by decide +kernel
theorem dX3_bestHour_10 : decode cX3_bestHour 10 = .ok (.iconst (-1), 1) := by decide +kernel
theorem dX3_bestHour_11 : decode cX3_bestHour 11 = .ok (.ireturn, 1) := by decide +kernel
theorem dX3_bestHour_12 : decode cX3_bestHour 12 = .ok (.iconst 0, 1) := by decide +kernel
theorem dX3_bestHour_13 : decode cX3_bestHour 13 = .ok (.istore_n 2, 1) := by decide +kernel
theorem dX3_bestHour_14 : decode cX3_bestHour 14 = .ok (.ldc 187, 2) := by decide +kernel
theorem dX3_bestHour_16 : decode cX3_bestHour 16 = .ok (.istore_n 3, 1) := by decide +kernel
theorem dX3_bestHour_17 : decode cX3_bestHour 17 = .ok (.iconst 0, 1) := by decide +kernel
theorem dX3_bestHour_18 : decode cX3_bestHour 18 = .ok (.istore 4, 2) := by decide +kernel
theorem dX3_bestHour_20 : decode cX3_bestHour 20 = .ok (.iload 4, 2) := by decide +kernel
theorem dX3_bestHour_22 : decode cX3_bestHour 22 = .ok (.bipush 24, 2) := by decide +kernel
theorem dX3_bestHour_24 : decode cX3_bestHour 24 = .ok (.if_icmp .ge 62, 3) := by decide +kernel
theorem dX3_bestHour_27 : decode cX3_bestHour 27 = .ok (.aload_n 0, 1) := by decide +kernel
theorem dX3_bestHour_28 : decode cX3_bestHour 28 = .ok (.getfield 9, 3) := by decide +kernel
theorem dX3_bestHour_31 : decode cX3_bestHour 31 = .ok (.aload_n 0, 1) := by decide +kernel
theorem dX3_bestHour_32 : decode cX3_bestHour 32 = .ok (.getfield 13, 3) := by decide +kernel
theorem dX3_bestHour_35 : decode cX3_bestHour 35 = .ok (.invokestatic 148, 3) := by decide +kernel
theorem dX3_bestHour_38 : decode cX3_bestHour 38 = .ok (.aload_n 0, 1) := by decide +kernel
theorem dX3_bestHour_39 : decode cX3_bestHour 39 = .ok (.getfield 13, 3) := by decide +kernel
theorem dX3_bestHour_42 : decode cX3_bestHour 42 = .ok (.iconst 1, 1) := by decide +kernel
theorem dX3_bestHour_43 : decode cX3_bestHour 43 = .ok (.iload 4, 2) := by decide +kernel
theorem dX3_bestHour_45 : decode cX3_bestHour 45 = .ok (.iastore, 1) := by decide +kernel
theorem dX3_bestHour_46 : decode cX3_bestHour 46 = .ok (.aload_n 0, 1) := by decide +kernel
theorem dX3_bestHour_47 : decode cX3_bestHour 47 = .ok (.aload_n 0, 1) := by decide +kernel
theorem dX3_bestHour_48 : decode cX3_bestHour 48 = .ok (.getfield 13, 3) := by decide +kernel
theorem dX3_bestHour_51 : decode cX3_bestHour 51 = .ok (.iload_n 1, 1) := by decide +kernel
theorem dX3_bestHour_52 : decode cX3_bestHour 52 = .ok (.invokevirtual 134, 3) := by decide +kernel
theorem dX3_bestHour_55 : decode cX3_bestHour 55 = .ok (.aload_n 0, 1) := by decide +kernel
theorem dX3_bestHour_56 : decode cX3_bestHour 56 = .ok (.getfield 13, 3) := by decide +kernel
theorem dX3_bestHour_59 : decode cX3_bestHour 59 = .ok (.invokestatic 173, 3) := by decide +kernel
theorem dX3_bestHour_62 : decode cX3_bestHour 62 = .ok (.iload_n 3, 1) := by decide +kernel
theorem dX3_bestHour_63 : decode cX3_bestHour 63 = .ok (.if_icmp .gt 6, 3) := by decide +kernel
theorem dX3_bestHour_66 : decode cX3_bestHour 66 = .ok (.goto 14, 3) := by decide +kernel
theorem dX3_bestHour_69 : decode cX3_bestHour 69 = .ok (.iload 4, 2) := by decide +kernel
theorem dX3_bestHour_71 : decode cX3_bestHour 71 = .ok (.istore_n 2, 1) := by decide +kernel
theorem dX3_bestHour_72 : decode cX3_bestHour 72 = .ok (.aload_n 0, 1) := by decide +kernel
theorem dX3_bestHour_73 : decode cX3_bestHour 73 = .ok (.getfield 13, 3) := by decide +kernel
theorem dX3_bestHour_76 : decode cX3_bestHour 76 = .ok (.invokestatic 173, 3) := by decide +kernel
theorem dX3_bestHour_79 : decode cX3_bestHour 79 = .ok (.istore_n 3, 1) := by decide +kernel
theorem dX3_bestHour_80 : decode cX3_bestHour 80 = .ok (.iinc 4 1, 3) := by decide +kernel
theorem dX3_bestHour_83 : decode cX3_bestHour 83 = .ok (.goto (-63), 3) := by decide +kernel
theorem dX3_bestHour_86 : decode cX3_bestHour 86 = .ok (.iload_n 2, 1) := by decide +kernel
theorem dX3_bestHour_87 : decode cX3_bestHour 87 = .ok (.ireturn, 1) := by decide +kernel
theorem dX3_joyTipped_0 : decode cX3_joyTipped 0 = .ok (.aload_n 0, 1) := by decide +kernel
theorem dX3_joyTipped_1 : decode cX3_joyTipped 1 = .ok (.getfield 9, 3) := by decide +kernel
theorem dX3_joyTipped_4 : decode cX3_joyTipped 4 = .ok (.aload_n 0, 1) := by decide +kernel
theorem dX3_joyTipped_5 : decode cX3_joyTipped 5 = .ok (.getfield 13, 3) := by decide +kernel
theorem dX3_joyTipped_8 : decode cX3_joyTipped 8 = .ok (.invokestatic 148, 3) := by decide +kernel
theorem dX3_joyTipped_11 : decode cX3_joyTipped 11 = .ok (.aload_n 0, 1) := by decide +kernel
theorem dX3_joyTipped_12 : decode cX3_joyTipped 12 = .ok (.getfield 13, 3) := by decide +kernel
theorem dX3_joyTipped_15 : decode cX3_joyTipped 15 = .ok (.iload_n 2, 1) := by decide +kernel
theorem dX3_joyTipped_16 : decode cX3_joyTipped 16 = .ok (.iconst 2, 1) := by decide +kernel
theorem dX3_joyTipped_17 : decode cX3_joyTipped 17 = .ok (.invokestatic 64, 3) := by decide +kernel
theorem dX3_joyTipped_20 : decode cX3_joyTipped 20 = .ok (.iload_n 3, 1) := by decide +kernel
theorem dX3_joyTipped_21 : decode cX3_joyTipped 21 = .ok (.aload_n 0, 1) := by decide +kernel
theorem dX3_joyTipped_22 : decode cX3_joyTipped 22 = .ok (.getfield 13, 3) := by decide +kernel
theorem dX3_joyTipped_25 : decode cX3_joyTipped 25 = .ok (.iload_n 2, 1) := by decide +kernel
theorem dX3_joyTipped_26 : decode cX3_joyTipped 26 = .ok (.invokestatic 84, 3) := by decide +kernel
theorem dX3_joyTipped_29 : decode cX3_joyTipped 29 = .ok (.imul, 1) := by decide +kernel
theorem dX3_joyTipped_30 : decode cX3_joyTipped 30 = .ok (.iastore, 1) := by decide +kernel
theorem dX3_joyTipped_31 : decode cX3_joyTipped 31 = .ok (.aload_n 0, 1) := by decide +kernel
theorem dX3_joyTipped_32 : decode cX3_joyTipped 32 = .ok (.getfield 13, 3) := by decide +kernel
theorem dX3_joyTipped_35 : decode cX3_joyTipped 35 = .ok (.iload_n 2, 1) := by decide +kernel
theorem dX3_joyTipped_36 : decode cX3_joyTipped 36 = .ok (.iconst 1, 1) := by decide +kernel
theorem dX3_joyTipped_37 : decode cX3_joyTipped 37 = .ok (.iadd, 1) := by decide +kernel
theorem dX3_joyTipped_38 : decode cX3_joyTipped 38 = .ok (.iconst 2, 1) := by decide +kernel
theorem dX3_joyTipped_39 : decode cX3_joyTipped 39 = .ok (.invokestatic 64, 3) := by decide +kernel
theorem dX3_joyTipped_42 : decode cX3_joyTipped 42 = .ok (.iload 4, 2) := by decide +kernel
theorem dX3_joyTipped_44 : decode cX3_joyTipped 44 = .ok (.aload_n 0, 1) := by decide +kernel
theorem dX3_joyTipped_45 : decode cX3_joyTipped 45 = .ok (.getfield 13, 3) := by decide +kernel
theorem dX3_joyTipped_48 : decode cX3_joyTipped 48 = .ok (.iload_n 2, 1) := by decide +kernel
theorem dX3_joyTipped_49 : decode cX3_joyTipped 49 = .ok (.iconst 1, 1) := by decide +kernel
theorem dX3_joyTipped_50 : decode cX3_joyTipped 50 = .ok (.iadd, 1) := by decide +kernel
theorem dX3_joyTipped_51 : decode cX3_joyTipped 51 = .ok (.invokestatic 84, 3) := by decide +kernel
theorem dX3_joyTipped_54 : decode cX3_joyTipped 54 = .ok (.imul, 1) := by decide +kernel
theorem dX3_joyTipped_55 : decode cX3_joyTipped 55 = .ok (.iastore, 1) := by decide +kernel
theorem dX3_joyTipped_56 : decode cX3_joyTipped 56 = .ok (.aload_n 0, 1) := by decide +kernel
theorem dX3_joyTipped_57 : decode cX3_joyTipped 57 = .ok (.getfield 13, 3) := by decide +kernel
theorem dX3_joyTipped_60 : decode cX3_joyTipped 60 = .ok (.iload_n 1, 1) := by decide +kernel
theorem dX3_joyTipped_61 : decode cX3_joyTipped 61 = .ok (.invokestatic 81, 3) := by decide +kernel
theorem dX3_joyTipped_64 : decode cX3_joyTipped 64 = .ok (.ireturn, 1) := by decide +kernel
theorem dX3_two_0 : decode cX3_two 0 = .ok (.iload_n 1, 1) := by decide +kernel
theorem dX3_two_1 : decode cX3_two 1 = .ok (.iconst 0, 1) := by decide +kernel
theorem dX3_two_2 : decode cX3_two 2 = .ok (.aload_n 0, 1) := by decide +kernel
theorem dX3_two_3 : decode cX3_two 3 = .ok (.getfield 9, 3) := by decide +kernel
theorem dX3_two_6 : decode cX3_two 6 = .ok (.iconst 0, 1) := by decide +kernel
theorem dX3_two_7 : decode cX3_two 7 = .ok (.iaload, 1) := by decide +kernel
theorem dX3_two_8 : decode cX3_two 8 = .ok (.iconst 2, 1) := by decide +kernel
theorem dX3_two_9 : decode cX3_two 9 = .ok (.isub, 1) := by decide +kernel
theorem dX3_two_10 : decode cX3_two 10 = .ok (.invokestatic 52, 3) := by decide +kernel
theorem dX3_two_13 : decode cX3_two 13 = .ok (.ifCond .ne 5, 3) := by decide +kernel
theorem dX3_two_16 : decode cX3_two 16 = .ok (.iconst (-1), 1) := by decide +kernel
theorem dX3_two_17 : decode cX3_two 17 = .ok (.ireturn, 1) := by decide +kernel
theorem dX3_two_18 : decode cX3_two 18 = .ok (.iconst 0, 1) := by decide +kernel
theorem dX3_two_19 : decode cX3_two 19 = .ok (.istore_n 2, 1) := by decide +kernel
theorem dX3_two_20 : decode cX3_two 20 = .ok (.iload_n 2, 1) := by decide +kernel
theorem dX3_two_21 : decode cX3_two 21 = .ok (.iconst 4, 1) := by decide +kernel
theorem dX3_two_22 : decode cX3_two 22 = .ok (.if_icmp .ge 76, 3) := by decide +kernel
theorem dX3_two_25 : decode cX3_two 25 = .ok (.iload_n 2, 1) := by decide +kernel
theorem dX3_two_26 : decode cX3_two 26 = .ok (.iconst 2, 1) := by decide +kernel
theorem dX3_two_27 : decode cX3_two 27 = .ok (.idiv, 1) := by decide +kernel
theorem dX3_two_28 : decode cX3_two 28 = .ok (.istore_n 3, 1) := by decide +kernel
theorem dX3_two_29 : decode cX3_two 29 = .ok (.iload_n 2, 1) := by decide +kernel
theorem dX3_two_30 : decode cX3_two 30 = .ok (.iconst 2, 1) := by decide +kernel
theorem dX3_two_31 : decode cX3_two 31 = .ok (.irem, 1) := by decide +kernel
theorem dX3_two_32 : decode cX3_two 32 = .ok (.istore 4, 2) := by decide +kernel
theorem dX3_two_34 : decode cX3_two 34 = .ok (.aload_n 0, 1) := by decide +kernel
theorem dX3_two_35 : decode cX3_two 35 = .ok (.iload_n 1, 1) := by decide +kernel
theorem dX3_two_36 : decode cX3_two 36 = .ok (.iload_n 1, 1) := by decide +kernel
theorem dX3_two_37 : decode cX3_two 37 = .ok (.iconst 1, 1) := by decide +kernel
theorem dX3_two_38 : decode cX3_two 38 = .ok (.iload_n 3, 1) := by decide +kernel
theorem dX3_two_39 : decode cX3_two 39 = .ok (.isub, 1) := by decide +kernel
theorem dX3_two_40 : decode cX3_two 40 = .ok (.iload 4, 2) := by decide +kernel
theorem dX3_two_42 : decode cX3_two 42 = .ok (.invokevirtual 194, 3) := by decide +kernel
theorem dX3_two_45 : decode cX3_two 45 = .ok (.aload_n 0, 1) := by decide +kernel
theorem dX3_two_46 : decode cX3_two 46 = .ok (.iload_n 1, 1) := by decide +kernel
theorem dX3_two_47 : decode cX3_two 47 = .ok (.iload_n 1, 1) := by decide +kernel
theorem dX3_two_48 : decode cX3_two 48 = .ok (.iload_n 3, 1) := by decide +kernel
theorem dX3_two_49 : decode cX3_two 49 = .ok (.iload 4, 2) := by decide +kernel
theorem dX3_two_51 : decode cX3_two 51 = .ok (.invokevirtual 194, 3) := by decide +kernel
theorem dX3_two_54 : decode cX3_two 54 = .ok (.if_icmp .gt 38, 3) := by decide +kernel
theorem dX3_two_57 : decode cX3_two 57 = .ok (.aload_n 0, 1) := by decide +kernel
theorem dX3_two_58 : decode cX3_two 58 = .ok (.iload_n 1, 1) := by decide +kernel
theorem dX3_two_59 : decode cX3_two 59 = .ok (.iconst 1, 1) := by decide +kernel
theorem dX3_two_60 : decode cX3_two 60 = .ok (.iadd, 1) := by decide +kernel
theorem dX3_two_61 : decode cX3_two 61 = .ok (.iload_n 1, 1) := by decide +kernel
theorem dX3_two_62 : decode cX3_two 62 = .ok (.iload_n 3, 1) := by decide +kernel
theorem dX3_two_63 : decode cX3_two 63 = .ok (.iconst 1, 1) := by decide +kernel
theorem dX3_two_64 : decode cX3_two 64 = .ok (.iload 4, 2) := by decide +kernel
theorem dX3_two_66 : decode cX3_two 66 = .ok (.isub, 1) := by decide +kernel
theorem dX3_two_67 : decode cX3_two 67 = .ok (.invokevirtual 194, 3) := by decide +kernel
theorem dX3_two_70 : decode cX3_two 70 = .ok (.aload_n 0, 1) := by decide +kernel
theorem dX3_two_71 : decode cX3_two 71 = .ok (.iload_n 1, 1) := by decide +kernel
theorem dX3_two_72 : decode cX3_two 72 = .ok (.iconst 1, 1) := by decide +kernel
theorem dX3_two_73 : decode cX3_two 73 = .ok (.iadd, 1) := by decide +kernel
theorem dX3_two_74 : decode cX3_two 74 = .ok (.iload_n 1, 1) := by decide +kernel
theorem dX3_two_75 : decode cX3_two 75 = .ok (.iload_n 3, 1) := by decide +kernel
theorem dX3_two_76 : decode cX3_two 76 = .ok (.iload 4, 2) := by decide +kernel
theorem dX3_two_78 : decode cX3_two 78 = .ok (.invokevirtual 194, 3) := by decide +kernel
theorem dX3_two_81 : decode cX3_two 81 = .ok (.if_icmp .gt 11, 3) := by decide +kernel
theorem dX3_two_84 : decode cX3_two 84 = .ok (.bipush 10, 2) := by decide +kernel
theorem dX3_two_86 : decode cX3_two 86 = .ok (.iload_n 3, 1) := by decide +kernel
theorem dX3_two_87 : decode cX3_two 87 = .ok (.imul, 1) := by decide +kernel
theorem dX3_two_88 : decode cX3_two 88 = .ok (.iload 4, 2) := by decide +kernel
theorem dX3_two_90 : decode cX3_two 90 = .ok (.iadd, 1) := by decide +kernel
theorem dX3_two_91 : decode cX3_two 91 = .ok (.ireturn, 1) := by decide +kernel
theorem dX3_two_92 : decode cX3_two 92 = .ok (.iinc 2 1, 3) := by decide +kernel
theorem dX3_two_95 : decode cX3_two 95 = .ok (.goto (-75), 3) := by decide +kernel
theorem dX3_two_98 : decode cX3_two 98 = .ok (.bipush (-4), 2) := by decide +kernel
theorem dX3_two_100 : decode cX3_two 100 = .ok (.ireturn, 1) := by decide +kernel
theorem dX3_gcd_0 : decode cX3_gcd 0 = .ok (.lload_n 0, 1) := by decide +kernel
theorem dX3_gcd_1 : decode cX3_gcd 1 = .ok (.lstore 4, 2) := by decide +kernel
theorem dX3_gcd_3 : decode cX3_gcd 3 = .ok (.lload_n 2, 1) := by decide +kernel
theorem dX3_gcd_4 : decode cX3_gcd 4 = .ok (.lstore 6, 2) := by decide +kernel
theorem dX3_gcd_6 : decode cX3_gcd 6 = .ok (.lload 6, 2) := by decide +kernel
theorem dX3_gcd_8 : decode cX3_gcd 8 = .ok (.lconst 0, 1) := by decide +kernel
theorem dX3_gcd_9 : decode cX3_gcd 9 = .ok (.lcmp, 1) := by decide +kernel
theorem dX3_gcd_10 : decode cX3_gcd 10 = .ok (.ifCond .eq 21, 3) := by decide +kernel
theorem dX3_gcd_13 : decode cX3_gcd 13 = .ok (.lload 4, 2) := by decide +kernel
theorem dX3_gcd_15 : decode cX3_gcd 15 = .ok (.lload 6, 2) := by decide +kernel
theorem dX3_gcd_17 : decode cX3_gcd 17 = .ok (.lrem, 1) := by decide +kernel
theorem dX3_gcd_18 : decode cX3_gcd 18 = .ok (.lstore 8, 2) := by decide +kernel
theorem dX3_gcd_20 : decode cX3_gcd 20 = .ok (.lload 6, 2) := by decide +kernel
theorem dX3_gcd_22 : decode cX3_gcd 22 = .ok (.lstore 4, 2) := by decide +kernel
theorem dX3_gcd_24 : decode cX3_gcd 24 = .ok (.lload 8, 2) := by decide +kernel
theorem dX3_gcd_26 : decode cX3_gcd 26 = .ok (.lstore 6, 2) := by decide +kernel
theorem dX3_gcd_28 : decode cX3_gcd 28 = .ok (.goto (-22), 3) := by decide +kernel
theorem dX3_gcd_31 : decode cX3_gcd 31 = .ok (.lload 4, 2) := by decide +kernel
theorem dX3_gcd_33 : decode cX3_gcd 33 = .ok (.lreturn, 1) := by decide +kernel
theorem dX3_partOf_0 : decode cX3_partOf 0 = .ok (.lload_n 0, 1) := by decide +kernel
theorem dX3_partOf_1 : decode cX3_partOf 1 = .ok (.lconst 0, 1) := by decide +kernel
theorem dX3_partOf_2 : decode cX3_partOf 2 = .ok (.lcmp, 1) := by decide +kernel
theorem dX3_partOf_3 : decode cX3_partOf 3 = .ok (.ifCond .ne 7, 3) := by decide +kernel
theorem dX3_partOf_6 : decode cX3_partOf 6 = .ok (.iload 4, 2) := by decide +kernel
theorem dX3_partOf_8 : decode cX3_partOf 8 = .ok (.i2l, 1) := by decide +kernel
theorem dX3_partOf_9 : decode cX3_partOf 9 = .ok (.lreturn, 1) := by decide +kernel
theorem dX3_partOf_10 : decode cX3_partOf 10 = .ok (.iload 4, 2) := by decide +kernel
theorem dX3_partOf_12 : decode cX3_partOf 12 = .ok (.ifCond .ne 7, 3) := by decide +kernel
theorem dX3_partOf_15 : decode cX3_partOf 15 = .ok (.lload_n 0, 1) := by decide +kernel
theorem dX3_partOf_16 : decode cX3_partOf 16 = .ok (.goto 4, 3) := by decide +kernel
theorem dX3_partOf_19 : decode cX3_partOf 19 = .ok (.lload_n 2, 1) := by decide +kernel
theorem dX3_partOf_20 : decode cX3_partOf 20 = .ok (.lload_n 0, 1) := by decide +kernel
theorem dX3_partOf_21 : decode cX3_partOf 21 = .ok (.lload_n 2, 1) := by decide +kernel
theorem dX3_partOf_22 : decode cX3_partOf 22 = .ok (.invokestatic 197, 3) := by decide +kernel
theorem dX3_partOf_25 : decode cX3_partOf 25 = .ok (.ldiv, 1) := by decide +kernel
theorem dX3_partOf_26 : decode cX3_partOf 26 = .ok (.lreturn, 1) := by decide +kernel
theorem dX3_isYoung_0 : decode cX3_isYoung 0 = .ok (.aload_n 0, 1) := by decide +kernel
theorem dX3_isYoung_1 : decode cX3_isYoung 1 = .ok (.getfield 9, 3) := by decide +kernel
theorem dX3_isYoung_4 : decode cX3_isYoung 4 = .ok (.iload_n 1, 1) := by decide +kernel
theorem dX3_isYoung_5 : decode cX3_isYoung 5 = .ok (.iconst 0, 1) := by decide +kernel
theorem dX3_isYoung_6 : decode cX3_isYoung 6 = .ok (.invokestatic 64, 3) := by decide +kernel
theorem dX3_isYoung_9 : decode cX3_isYoung 9 = .ok (.iaload, 1) := by decide +kernel
theorem dX3_isYoung_10 : decode cX3_isYoung 10 = .ok (.iconst 3, 1) := by decide +kernel
theorem dX3_isYoung_11 : decode cX3_isYoung 11 = .ok (.if_icmp .eq 18, 3) := by decide +kernel
theorem dX3_isYoung_14 : decode cX3_isYoung 14 = .ok (.aload_n 0, 1) := by decide +kernel
theorem dX3_isYoung_15 : decode cX3_isYoung 15 = .ok (.getfield 9, 3) := by decide +kernel
theorem dX3_isYoung_18 : decode cX3_isYoung 18 = .ok (.iload_n 1, 1) := by decide +kernel
theorem dX3_isYoung_19 : decode cX3_isYoung 19 = .ok (.iconst 0, 1) := by decide +kernel
theorem dX3_isYoung_20 : decode cX3_isYoung 20 = .ok (.invokestatic 64, 3) := by decide +kernel
theorem dX3_isYoung_23 : decode cX3_isYoung 23 = .ok (.iaload, 1) := by decide +kernel
theorem dX3_isYoung_24 : decode cX3_isYoung 24 = .ok (.bipush 6, 2) := by decide +kernel
theorem dX3_isYoung_26 : decode cX3_isYoung 26 = .ok (.if_icmp .ne 7, 3) := by decide +kernel
theorem dX3_isYoung_29 : decode cX3_isYoung 29 = .ok (.iconst 1, 1) := by decide +kernel
theorem dX3_isYoung_30 : decode cX3_isYoung 30 = .ok (.goto 4, 3) := by decide +kernel
theorem dX3_isYoung_33 : decode cX3_isYoung 33 = .ok (.iconst 0, 1) := by decide +kernel
theorem dX3_isYoung_34 : decode cX3_isYoung 34 = .ok (.ireturn, 1) := by decide +kernel
theorem dX3_looksRound_0 : decode cX3_looksRound 0 = .ok (.iload_n 1, 1) := by decide +kernel
theorem dX3_looksRound_1 : decode cX3_looksRound 1 = .ok (.iconst 2, 1) := by decide +kernel
theorem dX3_looksRound_2 : decode cX3_looksRound 2 = .ok (.bipush 20, 2) := by decide +kernel
theorem dX3_looksRound_4 : decode cX3_looksRound 4 = .ok (.invokestatic 52, 3) := by decide +kernel
theorem dX3_looksRound_7 : decode cX3_looksRound 7 = .ok (.ifCond .eq 22, 3) := by decide +kernel
theorem dX3_looksRound_10 : decode cX3_looksRound 10 = .ok (.iload_n 2, 1) := by decide +kernel
theorem dX3_looksRound_11 : decode cX3_looksRound 11 = .ok (.iconst 0, 1) := by decide +kernel
theorem dX3_looksRound_12 : decode cX3_looksRound 12 = .ok (.bipush 80, 2) := by decide +kernel
theorem dX3_looksRound_14 : decode cX3_looksRound 14 = .ok (.invokestatic 52, 3) := by decide +kernel
theorem dX3_looksRound_17 : decode cX3_looksRound 17 = .ok (.ifCond .eq 12, 3) := by decide +kernel
theorem dX3_looksRound_20 : decode cX3_looksRound 20 = .ok (.iload_n 3, 1) := by decide +kernel
theorem dX3_looksRound_21 : decode cX3_looksRound 21 = .ok (.iconst 0, 1) := by decide +kernel
theorem dX3_looksRound_22 : decode cX3_looksRound 22 = .ok (.iconst 1, 1) := by decide +kernel
theorem dX3_looksRound_23 : decode cX3_looksRound 23 = .ok (.invokestatic 52, 3) := by decide +kernel
theorem dX3_looksRound_26 : decode cX3_looksRound 26 = .ok (.ifCond .ne 7, 3) := by decide +kernel
theorem dX3_looksRound_29 : decode cX3_looksRound 29 = .ok (.ldc2_w 201, 3) := by decide +kernel
theorem dX3_looksRound_32 : decode cX3_looksRound 32 = .ok (.lreturn, 1) := by decide +kernel
theorem dX3_looksRound_33 : decode cX3_looksRound 33 = .ok (.iconst 0, 1) := by decide +kernel
theorem dX3_looksRound_34 : decode cX3_looksRound 34 = .ok (.istore 4, 2) := by decide +kernel
theorem dX3_looksRound_36 : decode cX3_looksRound 36 = .ok (.iconst 0, 1) := by decide +kernel
theorem dX3_looksRound_37 : decode cX3_looksRound 37 = .ok (.istore 5, 2) := by decide +kernel
theorem dX3_looksRound_39 : decode cX3_looksRound 39 = .ok (.iload 5, 2) := by decide +kernel
theorem dX3_looksRound_41 : decode cX3_looksRound 41 = .ok (.iconst 1, 1) := by decide +kernel
theorem dX3_looksRound_42 : decode cX3_looksRound 42 = .ok (.iadd, 1) := by decide +kernel
theorem dX3_looksRound_43 : decode cX3_looksRound 43 = .ok (.aload_n 0, 1) := by decide +kernel
theorem dX3_looksRound_44 : decode cX3_looksRound 44 = .ok (.getfield 9, 3) := by decide +kernel
theorem dX3_looksRound_47 : decode cX3_looksRound 47 = .ok (.iconst 0, 1) := by decide +kernel
theorem dX3_looksRound_48 : decode cX3_looksRound 48 = .ok (.iaload, 1) := by decide +kernel
theorem dX3_looksRound_49 : decode cX3_looksRound 49 = .ok (.if_icmp .ge 33, 3) := by decide +kernel
theorem dX3_looksRound_52 : decode cX3_looksRound 52 = .ok (.iload 4, 2) := by decide +kernel
theorem dX3_looksRound_54 : decode cX3_looksRound 54 = .ok (.aload_n 0, 1) := by decide +kernel
theorem dX3_looksRound_55 : decode cX3_looksRound 55 = .ok (.iload 5, 2) := by decide +kernel
theorem dX3_looksRound_57 : decode cX3_looksRound 57 = .ok (.iconst 1, 1) := by decide +kernel
theorem dX3_looksRound_58 : decode cX3_looksRound 58 = .ok (.iadd, 1) := by decide +kernel
theorem dX3_looksRound_59 : decode cX3_looksRound 59 = .ok (.invokevirtual 203, 3) := by decide +kernel
theorem dX3_looksRound_62 : decode cX3_looksRound 62 = .ok (.ifCond .eq 10, 3) := by decide +kernel
theorem dX3_looksRound_65 : decode cX3_looksRound 65 = .ok (.iconst 1, 1) := by decide +kernel
theorem dX3_looksRound_66 : decode cX3_looksRound 66 = .ok (.iload 5, 2) := by decide +kernel
theorem dX3_looksRound_68 : decode cX3_looksRound 68 = .ok (.ishl, 1) := by decide +kernel
theorem dX3_looksRound_69 : decode cX3_looksRound 69 = .ok (.goto 4, 3) := by decide +kernel
theorem dX3_looksRound_72 : decode cX3_looksRound 72 = .ok (.iconst 0, 1) := by decide +kernel
theorem dX3_looksRound_73 : decode cX3_looksRound 73 = .ok (.ior, 1) := by decide +kernel
theorem dX3_looksRound_74 : decode cX3_looksRound 74 = .ok (.istore 4, 2) := by decide +kernel
theorem dX3_looksRound_76 : decode cX3_looksRound 76 = .ok (.iinc 5 1, 3) := by decide +kernel
theorem dX3_looksRound_79 : decode cX3_looksRound 79 = .ok (.goto (-40), 3) := by decide +kernel
theorem dX3_looksRound_82 : decode cX3_looksRound 82 = .ok (.lconst 0, 1) := by decide +kernel
theorem dX3_looksRound_83 : decode cX3_looksRound 83 = .ok (.lstore 5, 2) := by decide +kernel
theorem dX3_looksRound_85 : decode cX3_looksRound 85 = .ok (.lconst 1, 1) := by decide +kernel
theorem dX3_looksRound_86 : decode cX3_looksRound 86 = .ok (.lstore 7, 2) := by decide +kernel
theorem dX3_looksRound_88 : decode cX3_looksRound 88 = .ok (.iconst 0, 1) := by decide +kernel
theorem dX3_looksRound_89 : decode cX3_looksRound 89 = .ok (.istore 9, 2) := by decide +kernel
theorem dX3_looksRound_91 : decode cX3_looksRound 91 = .ok (.iload 9, 2) := by decide +kernel
theorem dX3_looksRound_93 : decode cX3_looksRound 93 = .ok (.iload 4, 2) := by decide +kernel
theorem dX3_looksRound_95 : decode cX3_looksRound 95 = .ok (.invokestatic 188, 3) := by decide +kernel
theorem dX3_looksRound_98 : decode cX3_looksRound 98 = .ok (.if_icmp .ge 16, 3) := by decide +kernel
theorem dX3_looksRound_101 : decode cX3_looksRound 101 = .ok (.lload 7, 2) := by decide +kernel
theorem dX3_looksRound_103 : decode cX3_looksRound 103 = .ok (.iload_n 1, 1) := by decide +kernel
theorem dX3_looksRound_104 : decode cX3_looksRound 104 = .ok (.i2l, 1) := by decide +kernel
theorem dX3_looksRound_105 : decode cX3_looksRound 105 = .ok (.lmul, 1) := by decide +kernel
theorem dX3_looksRound_106 : decode cX3_looksRound 106 = .ok (.lstore 7, 2) := by decide +kernel
theorem dX3_looksRound_108 : decode cX3_looksRound 108 = .ok (.iinc 9 1, 3) := by decide +kernel
theorem dX3_looksRound_111 : decode cX3_looksRound 111 = .ok (.goto (-20), 3) := by decide +kernel
theorem dX3_looksRound_114 : decode cX3_looksRound 114 = .ok (.iconst 0, 1) := by decide +kernel
theorem dX3_looksRound_115 : decode cX3_looksRound 115 = .ok (.istore 9, 2) := by decide +kernel
theorem dX3_looksRound_117 : decode cX3_looksRound 117 = .ok (.iload 9, 2) := by decide +kernel
theorem dX3_looksRound_119 : decode cX3_looksRound 119 = .ok (.iload 4, 2) := by decide +kernel
theorem dX3_looksRound_121 : decode cX3_looksRound 121 = .ok (.if_icmp .gt 100, 3) := by decide +kernel
theorem dX3_looksRound_124 : decode cX3_looksRound 124 = .ok (.iload 9, 2) := by decide +kernel
theorem dX3_looksRound_126 : decode cX3_looksRound 126 = .ok (.iload 4, 2) := by decide +kernel
theorem dX3_looksRound_128 : decode cX3_looksRound 128 = .ok (.iconst (-1), 1) := by decide +kernel
theorem dX3_looksRound_129 : decode cX3_looksRound 129 = .ok (.ixor, 1) := by decide +kernel
theorem dX3_looksRound_130 : decode cX3_looksRound 130 = .ok (.iand, 1) := by decide +kernel
theorem dX3_looksRound_131 : decode cX3_looksRound 131 = .ok (.ifCond .eq 6, 3) := by decide +kernel
theorem dX3_looksRound_134 : decode cX3_looksRound 134 = .ok (.goto 81, 3) := by decide +kernel
theorem dX3_looksRound_137 : decode cX3_looksRound 137 = .ok (.aload_n 0, 1) := by decide +kernel
theorem dX3_looksRound_138 : decode cX3_looksRound 138 = .ok (.getfield 9, 3) := by decide +kernel
theorem dX3_looksRound_141 : decode cX3_looksRound 141 = .ok (.aload_n 0, 1) := by decide +kernel
theorem dX3_looksRound_142 : decode cX3_looksRound 142 = .ok (.getfield 13, 3) := by decide +kernel
theorem dX3_looksRound_145 : decode cX3_looksRound 145 = .ok (.invokestatic 148, 3) := by decide +kernel
theorem dX3_looksRound_148 : decode cX3_looksRound 148 = .ok (.aload_n 0, 1) := by decide +kernel
theorem dX3_looksRound_149 : decode cX3_looksRound 149 = .ok (.aload_n 0, 1) := by decide +kernel
theorem dX3_looksRound_150 : decode cX3_looksRound 150 = .ok (.getfield 13, 3) := by decide +kernel
theorem dX3_looksRound_153 : decode cX3_looksRound 153 = .ok (.iload 9, 2) := by decide +kernel
theorem dX3_looksRound_155 : decode cX3_looksRound 155 = .ok (.invokevirtual 98, 3) := by decide +kernel
theorem dX3_looksRound_158 : decode cX3_looksRound 158 = .ok (.lconst 1, 1) := by decide +kernel
theorem dX3_looksRound_159 : decode cX3_looksRound 159 = .ok (.lstore 10, 2) := by decide +kernel
theorem dX3_looksRound_161 : decode cX3_looksRound 161 = .ok (.iload 9, 2) := by decide +kernel
theorem dX3_looksRound_163 : decode cX3_looksRound 163 = .ok (.invokestatic 188, 3) := by decide +kernel
theorem dX3_looksRound_166 : decode cX3_looksRound 166 = .ok (.istore 12, 2) := by decide +kernel
theorem dX3_looksRound_168 : decode cX3_looksRound 168 = .ok (.iload 12, 2) := by decide +kernel
theorem dX3_looksRound_170 : decode cX3_looksRound 170 = .ok (.iload 4, 2) := by decide +kernel
theorem dX3_looksRound_172 : decode cX3_looksRound 172 = .ok (.invokestatic 188, 3) := by decide +kernel
theorem dX3_looksRound_175 : decode cX3_looksRound 175 = .ok (.if_icmp .ge 18, 3) := by decide +kernel
theorem dX3_looksRound_178 : decode cX3_looksRound 178 = .ok (.lload 10, 2) := by decide +kernel
theorem dX3_looksRound_180 : decode cX3_looksRound 180 = .ok (.iload_n 1, 1) := by decide +kernel
theorem dX3_looksRound_181 : decode cX3_looksRound 181 = .ok (.iconst 1, 1) := by decide +kernel
theorem dX3_looksRound_182 : decode cX3_looksRound 182 = .ok (.isub, 1) := by decide +kernel
theorem dX3_looksRound_183 : decode cX3_looksRound 183 = .ok (.i2l, 1) := by decide +kernel
theorem dX3_looksRound_184 : decode cX3_looksRound 184 = .ok (.lmul, 1) := by decide +kernel
theorem dX3_looksRound_185 : decode cX3_looksRound 185 = .ok (.lstore 10, 2) := by decide +kernel
theorem dX3_looksRound_187 : decode cX3_looksRound 187 = .ok (.iinc 12 1, 3) := by decide +kernel
theorem dX3_looksRound_190 : decode cX3_looksRound 190 = .ok (.goto (-22), 3) := by decide +kernel
theorem dX3_looksRound_193 : decode cX3_looksRound 193 = .ok (.lload 5, 2) := by decide +kernel
theorem dX3_looksRound_195 : decode cX3_looksRound 195 = .ok (.aload_n 0, 1) := by decide +kernel
theorem dX3_looksRound_196 : decode cX3_looksRound 196 = .ok (.getfield 13, 3) := by decide +kernel
theorem dX3_looksRound_199 : decode cX3_looksRound 199 = .ok (.invokestatic 159, 3) := by decide +kernel
theorem dX3_looksRound_202 : decode cX3_looksRound 202 = .ok (.iload_n 2, 1) := by decide +kernel
theorem dX3_looksRound_203 : decode cX3_looksRound 203 = .ok (.if_icmp .gt 8, 3) := by decide +kernel
theorem dX3_looksRound_206 : decode cX3_looksRound 206 = .ok (.lload 10, 2) := by decide +kernel
theorem dX3_looksRound_208 : decode cX3_looksRound 208 = .ok (.goto 4, 3) := by decide +kernel
theorem dX3_looksRound_211 : decode cX3_looksRound 211 = .ok (.lconst 0, 1) := by decide +kernel
theorem dX3_looksRound_212 : decode cX3_looksRound 212 = .ok (.ladd, 1) := by decide +kernel
theorem dX3_looksRound_213 : decode cX3_looksRound 213 = .ok (.lstore 5, 2) := by decide +kernel
theorem dX3_looksRound_215 : decode cX3_looksRound 215 = .ok (.iinc 9 1, 3) := by decide +kernel
theorem dX3_looksRound_218 : decode cX3_looksRound 218 = .ok (.goto (-101), 3) := by decide +kernel
theorem dX3_looksRound_221 : decode cX3_looksRound 221 = .ok (.lload 5, 2) := by decide +kernel
theorem dX3_looksRound_223 : decode cX3_looksRound 223 = .ok (.lload 7, 2) := by decide +kernel
theorem dX3_looksRound_225 : decode cX3_looksRound 225 = .ok (.iload_n 3, 1) := by decide +kernel
theorem dX3_looksRound_226 : decode cX3_looksRound 226 = .ok (.invokestatic 206, 3) := by decide +kernel
theorem dX3_looksRound_229 : decode cX3_looksRound 229 = .ok (.lreturn, 1) := by decide +kernel
theorem dX3_leastOf_0 : decode cX3_leastOf 0 = .ok (.iload_n 0, 1) := by decide +kernel
theorem dX3_leastOf_1 : decode cX3_leastOf 1 = .ok (.ifCond .ne 8, 3) := by decide +kernel
theorem dX3_leastOf_4 : decode cX3_leastOf 4 = .ok (.bipush (-128), 2) := by decide +kernel
theorem dX3_leastOf_6 : decode cX3_leastOf 6 = .ok (.goto 16, 3) := by decide +kernel
theorem dX3_leastOf_9 : decode cX3_leastOf 9 = .ok (.iload_n 0, 1) := by decide +kernel
theorem dX3_leastOf_10 : decode cX3_leastOf 10 = .ok (.iconst 1, 1) := by decide +kernel
theorem dX3_leastOf_11 : decode cX3_leastOf 11 = .ok (.if_icmp .ne 9, 3) := by decide +kernel
theorem dX3_leastOf_14 : decode cX3_leastOf 14 = .ok (.sipush (-32768), 3) := by decide +kernel
theorem dX3_leastOf_17 : decode cX3_leastOf 17 = .ok (.goto 5, 3) := by decide +kernel
theorem dX3_leastOf_20 : decode cX3_leastOf 20 = .ok (.ldc 210, 2) := by decide +kernel
theorem dX3_leastOf_22 : decode cX3_leastOf 22 = .ok (.ireturn, 1) := by decide +kernel
theorem dX3_isTold_0 : decode cX3_isTold 0 = .ok (.iconst 0, 1) := by decide +kernel
theorem dX3_isTold_1 : decode cX3_isTold 1 = .ok (.istore_n 3, 1) := by decide +kernel
theorem dX3_isTold_2 : decode cX3_isTold 2 = .ok (.iload_n 3, 1) := by decide +kernel
theorem dX3_isTold_3 : decode cX3_isTold 3 = .ok (.aload_n 0, 1) := by decide +kernel
theorem dX3_isTold_4 : decode cX3_isTold 4 = .ok (.getfield 46, 3) := by decide +kernel
theorem dX3_isTold_7 : decode cX3_isTold 7 = .ok (.iload_n 1, 1) := by decide +kernel
theorem dX3_isTold_8 : decode cX3_isTold 8 = .ok (.iaload, 1) := by decide +kernel
theorem dX3_isTold_9 : decode cX3_isTold 9 = .ok (.if_icmp .ge 62, 3) := by decide +kernel
theorem dX3_isTold_12 : decode cX3_isTold 12 = .ok (.aload_n 0, 1) := by decide +kernel
theorem dX3_isTold_13 : decode cX3_isTold 13 = .ok (.getfield 49, 3) := by decide +kernel
theorem dX3_isTold_16 : decode cX3_isTold 16 = .ok (.bipush 100, 2) := by decide +kernel
theorem dX3_isTold_18 : decode cX3_isTold 18 = .ok (.iload_n 1, 1) := by decide +kernel
theorem dX3_isTold_19 : decode cX3_isTold 19 = .ok (.imul, 1) := by decide +kernel
theorem dX3_isTold_20 : decode cX3_isTold 20 = .ok (.iload_n 3, 1) := by decide +kernel
theorem dX3_isTold_21 : decode cX3_isTold 21 = .ok (.iadd, 1) := by decide +kernel
theorem dX3_isTold_22 : decode cX3_isTold 22 = .ok (.iaload, 1) := by decide +kernel
theorem dX3_isTold_23 : decode cX3_isTold 23 = .ok (.istore 4, 2) := by decide +kernel
theorem dX3_isTold_25 : decode cX3_isTold 25 = .ok (.iload 4, 2) := by decide +kernel
theorem dX3_isTold_27 : decode cX3_isTold 27 = .ok (.aload_n 0, 1) := by decide +kernel
theorem dX3_isTold_28 : decode cX3_isTold 28 = .ok (.getfield 43, 3) := by decide +kernel
theorem dX3_isTold_31 : decode cX3_isTold 31 = .ok (.iload_n 1, 1) := by decide +kernel
theorem dX3_isTold_32 : decode cX3_isTold 32 = .ok (.iaload, 1) := by decide +kernel
theorem dX3_isTold_33 : decode cX3_isTold 33 = .ok (.invokestatic 211, 3) := by decide +kernel
theorem dX3_isTold_36 : decode cX3_isTold 36 = .ok (.if_icmp .eq 20, 3) := by decide +kernel
theorem dX3_isTold_39 : decode cX3_isTold 39 = .ok (.iload 4, 2) := by decide +kernel
theorem dX3_isTold_41 : decode cX3_isTold 41 = .ok (.aload_n 0, 1) := by decide +kernel
theorem dX3_isTold_42 : decode cX3_isTold 42 = .ok (.getfield 13, 3) := by decide +kernel
theorem dX3_isTold_45 : decode cX3_isTold 45 = .ok (.iload_n 2, 1) := by decide +kernel
theorem dX3_isTold_46 : decode cX3_isTold 46 = .ok (.iconst 2, 1) := by decide +kernel
theorem dX3_isTold_47 : decode cX3_isTold 47 = .ok (.invokestatic 64, 3) := by decide +kernel
theorem dX3_isTold_50 : decode cX3_isTold 50 = .ok (.iaload, 1) := by decide +kernel
theorem dX3_isTold_51 : decode cX3_isTold 51 = .ok (.if_icmp .eq 5, 3) := by decide +kernel
theorem dX3_isTold_54 : decode cX3_isTold 54 = .ok (.iconst 0, 1) := by decide +kernel
theorem dX3_isTold_55 : decode cX3_isTold 55 = .ok (.ireturn, 1) := by decide +kernel
theorem dX3_isTold_56 : decode cX3_isTold 56 = .ok (.aload_n 0, 1) := by decide +kernel
theorem dX3_isTold_57 : decode cX3_isTold 57 = .ok (.aload_n 0, 1) := by decide +kernel
theorem dX3_isTold_58 : decode cX3_isTold 58 = .ok (.getfield 13, 3) := by decide +kernel
theorem dX3_isTold_61 : decode cX3_isTold 61 = .ok (.iconst 0, 1) := by decide +kernel
theorem dX3_isTold_62 : decode cX3_isTold 62 = .ok (.invokevirtual 98, 3) := by decide +kernel
theorem dX3_isTold_65 : decode cX3_isTold 65 = .ok (.iinc 3 1, 3) := by decide +kernel
theorem dX3_isTold_68 : decode cX3_isTold 68 = .ok (.goto (-66), 3) := by decide +kernel
theorem dX3_isTold_71 : decode cX3_isTold 71 = .ok (.iconst 1, 1) := by decide +kernel
theorem dX3_isTold_72 : decode cX3_isTold 72 = .ok (.ireturn, 1) := by decide +kernel
theorem dX3_whatIs_0 : decode cX3_whatIs 0 = .ok (.aload_n 0, 1) := by decide +kernel
theorem dX3_whatIs_1 : decode cX3_whatIs 1 = .ok (.iload_n 2, 1) := by decide +kernel
theorem dX3_whatIs_2 : decode cX3_whatIs 2 = .ok (.invokevirtual 127, 3) := by decide +kernel
theorem dX3_whatIs_5 : decode cX3_whatIs 5 = .ok (.ifCond .eq 12, 3) := by decide +kernel
theorem dX3_whatIs_8 : decode cX3_whatIs 8 = .ok (.iload_n 3, 1) := by decide +kernel
theorem dX3_whatIs_9 : decode cX3_whatIs 9 = .ok (.iconst 0, 1) := by decide +kernel
theorem dX3_whatIs_10 : decode cX3_whatIs 10 = .ok (.iconst 1, 1) := by decide +kernel
theorem dX3_whatIs_11 : decode cX3_whatIs 11 = .ok (.invokestatic 52, 3) := by decide +kernel
theorem dX3_whatIs_14 : decode cX3_whatIs 14 = .ok (.ifCond .ne 5, 3) := by decide +kernel
theorem dX3_whatIs_17 : decode cX3_whatIs 17 = .ok (.iconst (-1), 1) := by decide +kernel
theorem dX3_whatIs_18 : decode cX3_whatIs 18 = .ok (.ireturn, 1) := by decide +kernel
theorem dX3_whatIs_19 : decode cX3_whatIs 19 = .ok (.aload_n 0, 1) := by decide +kernel
theorem dX3_whatIs_20 : decode cX3_whatIs 20 = .ok (.iload_n 1, 1) := by decide +kernel
theorem dX3_whatIs_21 : decode cX3_whatIs 21 = .ok (.iconst (-1), 1) := by decide +kernel
theorem dX3_whatIs_22 : decode cX3_whatIs 22 = .ok (.invokevirtual 141, 3) := by decide +kernel
theorem dX3_whatIs_25 : decode cX3_whatIs 25 = .ok (.istore 4, 2) := by decide +kernel
theorem dX3_whatIs_27 : decode cX3_whatIs 27 = .ok (.iload 4, 2) := by decide +kernel
theorem dX3_whatIs_29 : decode cX3_whatIs 29 = .ok (.ifCond .eq 6, 3) := by decide +kernel
theorem dX3_whatIs_32 : decode cX3_whatIs 32 = .ok (.iload 4, 2) := by decide +kernel
theorem dX3_whatIs_34 : decode cX3_whatIs 34 = .ok (.ireturn, 1) := by decide +kernel
theorem dX3_whatIs_35 : decode cX3_whatIs 35 = .ok (.iconst 0, 1) := by decide +kernel
theorem dX3_whatIs_36 : decode cX3_whatIs 36 = .ok (.istore 5, 2) := by decide +kernel
theorem dX3_whatIs_38 : decode cX3_whatIs 38 = .ok (.iconst 0, 1) := by decide +kernel
theorem dX3_whatIs_39 : decode cX3_whatIs 39 = .ok (.istore 6, 2) := by decide +kernel
theorem dX3_whatIs_41 : decode cX3_whatIs 41 = .ok (.iload 6, 2) := by decide +kernel
theorem dX3_whatIs_43 : decode cX3_whatIs 43 = .ok (.iload_n 3, 1) := by decide +kernel
theorem dX3_whatIs_44 : decode cX3_whatIs 44 = .ok (.ifCond .ne 8, 3) := by decide +kernel
theorem dX3_whatIs_47 : decode cX3_whatIs 47 = .ok (.bipush 8, 2) := by decide +kernel
theorem dX3_whatIs_49 : decode cX3_whatIs 49 = .ok (.goto 5, 3) := by decide +kernel
theorem dX3_whatIs_52 : decode cX3_whatIs 52 = .ok (.bipush 10, 2) := by decide +kernel
theorem dX3_whatIs_54 : decode cX3_whatIs 54 = .ok (.if_icmp .ge 54, 3) := by decide +kernel
theorem dX3_whatIs_57 : decode cX3_whatIs 57 = .ok (.aload_n 0, 1) := by decide +kernel
theorem dX3_whatIs_58 : decode cX3_whatIs 58 = .ok (.getfield 9, 3) := by decide +kernel
theorem dX3_whatIs_61 : decode cX3_whatIs 61 = .ok (.aload_n 0, 1) := by decide +kernel
theorem dX3_whatIs_62 : decode cX3_whatIs 62 = .ok (.getfield 13, 3) := by decide +kernel
theorem dX3_whatIs_65 : decode cX3_whatIs 65 = .ok (.invokestatic 148, 3) := by decide +kernel
theorem dX3_whatIs_68 : decode cX3_whatIs 68 = .ok (.aload_n 0, 1) := by decide +kernel
theorem dX3_whatIs_69 : decode cX3_whatIs 69 = .ok (.getfield 13, 3) := by decide +kernel
theorem dX3_whatIs_72 : decode cX3_whatIs 72 = .ok (.iload_n 2, 1) := by decide +kernel
theorem dX3_whatIs_73 : decode cX3_whatIs 73 = .ok (.iload_n 3, 1) := by decide +kernel
theorem dX3_whatIs_74 : decode cX3_whatIs 74 = .ok (.invokestatic 64, 3) := by decide +kernel
theorem dX3_whatIs_77 : decode cX3_whatIs 77 = .ok (.iload 6, 2) := by decide +kernel
theorem dX3_whatIs_79 : decode cX3_whatIs 79 = .ok (.iastore, 1) := by decide +kernel
theorem dX3_whatIs_80 : decode cX3_whatIs 80 = .ok (.iload 5, 2) := by decide +kernel
theorem dX3_whatIs_82 : decode cX3_whatIs 82 = .ok (.aload_n 0, 1) := by decide +kernel
theorem dX3_whatIs_83 : decode cX3_whatIs 83 = .ok (.iload_n 1, 1) := by decide +kernel
theorem dX3_whatIs_84 : decode cX3_whatIs 84 = .ok (.iload_n 2, 1) := by decide +kernel
theorem dX3_whatIs_85 : decode cX3_whatIs 85 = .ok (.invokevirtual 214, 3) := by decide +kernel
theorem dX3_whatIs_88 : decode cX3_whatIs 88 = .ok (.ifCond .eq 10, 3) := by decide +kernel
theorem dX3_whatIs_91 : decode cX3_whatIs 91 = .ok (.iconst 1, 1) := by decide +kernel
theorem dX3_whatIs_92 : decode cX3_whatIs 92 = .ok (.iload 6, 2) := by decide +kernel
theorem dX3_whatIs_94 : decode cX3_whatIs 94 = .ok (.ishl, 1) := by decide +kernel
theorem dX3_whatIs_95 : decode cX3_whatIs 95 = .ok (.goto 4, 3) := by decide +kernel
theorem dX3_whatIs_98 : decode cX3_whatIs 98 = .ok (.iconst 0, 1) := by decide +kernel
theorem dX3_whatIs_99 : decode cX3_whatIs 99 = .ok (.ior, 1) := by decide +kernel
theorem dX3_whatIs_100 : decode cX3_whatIs 100 = .ok (.istore 5, 2) := by decide +kernel
theorem dX3_whatIs_102 : decode cX3_whatIs 102 = .ok (.iinc 6 1, 3) := by decide +kernel
theorem dX3_whatIs_105 : decode cX3_whatIs 105 = .ok (.goto (-64), 3) := by decide +kernel
theorem dX3_whatIs_108 : decode cX3_whatIs 108 = .ok (.iload 5, 2) := by decide +kernel
theorem dX3_whatIs_110 : decode cX3_whatIs 110 = .ok (.ireturn, 1) := by decide +kernel
theorem dX3_roomAll_0 : decode cX3_roomAll 0 = .ok (.iconst 0, 1) := by decide +kernel
theorem dX3_roomAll_1 : decode cX3_roomAll 1 = .ok (.istore_n 1, 1) := by decide +kernel
theorem dX3_roomAll_2 : decode cX3_roomAll 2 = .ok (.iconst 0, 1) := by decide +kernel
theorem dX3_roomAll_3 : decode cX3_roomAll 3 = .ok (.istore_n 2, 1) := by decide +kernel
theorem dX3_roomAll_4 : decode cX3_roomAll 4 = .ok (.iload_n 2, 1) := by decide +kernel
theorem dX3_roomAll_5 : decode cX3_roomAll 5 = .ok (.aload_n 0, 1) := by decide +kernel
theorem dX3_roomAll_6 : decode cX3_roomAll 6 = .ok (.getfield 9, 3) := by decide +kernel
theorem dX3_roomAll_9 : decode cX3_roomAll 9 = .ok (.iconst 0, 1) := by decide +kernel
theorem dX3_roomAll_10 : decode cX3_roomAll 10 = .ok (.iaload, 1) := by decide +kernel
theorem dX3_roomAll_11 : decode cX3_roomAll 11 = .ok (.if_icmp .ge 20, 3) := by decide +kernel
theorem dX3_roomAll_14 : decode cX3_roomAll 14 = .ok (.iload_n 1, 1) := by decide +kernel
theorem dX3_roomAll_15 : decode cX3_roomAll 15 = .ok (.aload_n 0, 1) := by decide +kernel
theorem dX3_roomAll_16 : decode cX3_roomAll 16 = .ok (.getfield 9, 3) := by decide +kernel
theorem dX3_roomAll_19 : decode cX3_roomAll 19 = .ok (.iload_n 2, 1) := by decide +kernel
theorem dX3_roomAll_20 : decode cX3_roomAll 20 = .ok (.invokestatic 78, 3) := by decide +kernel
theorem dX3_roomAll_23 : decode cX3_roomAll 23 = .ok (.iadd, 1) := by decide +kernel
theorem dX3_roomAll_24 : decode cX3_roomAll 24 = .ok (.istore_n 1, 1) := by decide +kernel
theorem dX3_roomAll_25 : decode cX3_roomAll 25 = .ok (.iinc 2 1, 3) := by decide +kernel
theorem dX3_roomAll_28 : decode cX3_roomAll 28 = .ok (.goto (-24), 3) := by decide +kernel
theorem dX3_roomAll_31 : decode cX3_roomAll 31 = .ok (.iload_n 1, 1) := by decide +kernel
theorem dX3_roomAll_32 : decode cX3_roomAll 32 = .ok (.ireturn, 1) := by decide +kernel
theorem dX3_mean_0 : decode cX3_mean 0 = .ok (.iload_n 1, 1) := by decide +kernel
theorem dX3_mean_1 : decode cX3_mean 1 = .ok (.iconst 0, 1) := by decide +kernel
theorem dX3_mean_2 : decode cX3_mean 2 = .ok (.iconst 1, 1) := by decide +kernel
theorem dX3_mean_3 : decode cX3_mean 3 = .ok (.invokestatic 52, 3) := by decide +kernel
theorem dX3_mean_6 : decode cX3_mean 6 = .ok (.ifCond .eq 22, 3) := by decide +kernel
theorem dX3_mean_9 : decode cX3_mean 9 = .ok (.aload_n 0, 1) := by decide +kernel
theorem dX3_mean_10 : decode cX3_mean 10 = .ok (.invokevirtual 217, 3) := by decide +kernel
theorem dX3_mean_13 : decode cX3_mean 13 = .ok (.i2l, 1) := by decide +kernel
theorem dX3_mean_14 : decode cX3_mean 14 = .ok (.aload_n 0, 1) := by decide +kernel
theorem dX3_mean_15 : decode cX3_mean 15 = .ok (.getfield 9, 3) := by decide +kernel
theorem dX3_mean_18 : decode cX3_mean 18 = .ok (.iconst 0, 1) := by decide +kernel
theorem dX3_mean_19 : decode cX3_mean 19 = .ok (.iaload, 1) := by decide +kernel
theorem dX3_mean_20 : decode cX3_mean 20 = .ok (.i2l, 1) := by decide +kernel
theorem dX3_mean_21 : decode cX3_mean 21 = .ok (.iload_n 1, 1) := by decide +kernel
theorem dX3_mean_22 : decode cX3_mean 22 = .ok (.invokestatic 206, 3) := by decide +kernel
theorem dX3_mean_25 : decode cX3_mean 25 = .ok (.goto 6, 3) := by decide +kernel
theorem dX3_mean_28 : decode cX3_mean 28 = .ok (.ldc2_w 201, 3) := by decide +kernel
theorem dX3_mean_31 : decode cX3_mean 31 = .ok (.lreturn, 1) := by decide +kernel
theorem dX3_tightest_0 : decode cX3_tightest 0 = .ok (.iload_n 1, 1) := by decide +kernel
theorem dX3_tightest_1 : decode cX3_tightest 1 = .ok (.iconst 0, 1) := by decide +kernel
theorem dX3_tightest_2 : decode cX3_tightest 2 = .ok (.iconst 1, 1) := by decide +kernel
theorem dX3_tightest_3 : decode cX3_tightest 3 = .ok (.invokestatic 52, 3) := by decide +kernel
theorem dX3_tightest_6 : decode cX3_tightest 6 = .ok (.ifCond .ne 5, 3) := by decide +kernel
theorem dX3_tightest_9 : decode cX3_tightest 9 = .ok (.iconst (-1), 1) := by decide +kernel
theorem dX3_tightest_10 : decode cX3_tightest 10 = .ok (.ireturn, 1) := by decide +kernel
theorem dX3_tightest_11 : decode cX3_tightest 11 = .ok (.bipush (-4), 2) := by decide +kernel
theorem dX3_tightest_13 : decode cX3_tightest 13 = .ok (.istore_n 2, 1) := by decide +kernel
theorem dX3_tightest_14 : decode cX3_tightest 14 = .ok (.iconst 0, 1) := by decide +kernel
theorem dX3_tightest_15 : decode cX3_tightest 15 = .ok (.istore_n 3, 1) := by decide +kernel
theorem dX3_tightest_16 : decode cX3_tightest 16 = .ok (.iload_n 3, 1) := by decide +kernel
theorem dX3_tightest_17 : decode cX3_tightest 17 = .ok (.aload_n 0, 1) := by decide +kernel
theorem dX3_tightest_18 : decode cX3_tightest 18 = .ok (.getfield 9, 3) := by decide +kernel
theorem dX3_tightest_21 : decode cX3_tightest 21 = .ok (.iconst 0, 1) := by decide +kernel
theorem dX3_tightest_22 : decode cX3_tightest 22 = .ok (.iaload, 1) := by decide +kernel
theorem dX3_tightest_23 : decode cX3_tightest 23 = .ok (.if_icmp .ge 34, 3) := by decide +kernel
theorem dX3_tightest_26 : decode cX3_tightest 26 = .ok (.iload_n 2, 1) := by decide +kernel
theorem dX3_tightest_27 : decode cX3_tightest 27 = .ok (.ifCond .lt 22, 3) := by decide +kernel
theorem dX3_tightest_30 : decode cX3_tightest 30 = .ok (.aload_n 0, 1) := by decide +kernel
theorem dX3_tightest_31 : decode cX3_tightest 31 = .ok (.getfield 9, 3) := by decide +kernel
theorem dX3_tightest_34 : decode cX3_tightest 34 = .ok (.iload_n 3, 1) := by decide +kernel
theorem dX3_tightest_35 : decode cX3_tightest 35 = .ok (.invokestatic 78, 3) := by decide +kernel
theorem dX3_tightest_38 : decode cX3_tightest 38 = .ok (.aload_n 0, 1) := by decide +kernel
theorem dX3_tightest_39 : decode cX3_tightest 39 = .ok (.getfield 9, 3) := by decide +kernel
theorem dX3_tightest_42 : decode cX3_tightest 42 = .ok (.iload_n 2, 1) := by decide +kernel
theorem dX3_tightest_43 : decode cX3_tightest 43 = .ok (.invokestatic 78, 3) := by decide +kernel
theorem dX3_tightest_46 : decode cX3_tightest 46 = .ok (.if_icmp .ge 5, 3) := by decide +kernel
theorem dX3_tightest_49 : decode cX3_tightest 49 = .ok (.iload_n 3, 1) := by decide +kernel
theorem dX3_tightest_50 : decode cX3_tightest 50 = .ok (.istore_n 2, 1) := by decide +kernel
theorem dX3_tightest_51 : decode cX3_tightest 51 = .ok (.iinc 3 1, 3) := by decide +kernel
theorem dX3_tightest_54 : decode cX3_tightest 54 = .ok (.goto (-38), 3) := by decide +kernel
theorem dX3_tightest_57 : decode cX3_tightest 57 = .ok (.iload_n 2, 1) := by decide +kernel
theorem dX3_tightest_58 : decode cX3_tightest 58 = .ok (.ifCond .lt 7, 3) := by decide +kernel
theorem dX3_tightest_61 : decode cX3_tightest 61 = .ok (.iload_n 1, 1) := by decide +kernel
theorem dX3_tightest_62 : decode cX3_tightest 62 = .ok (.ifCond .ne 7, 3) := by decide +kernel
theorem dX3_tightest_65 : decode cX3_tightest 65 = .ok (.iload_n 2, 1) := by decide +kernel
theorem dX3_tightest_66 : decode cX3_tightest 66 = .ok (.goto 11, 3) := by decide +kernel
theorem dX3_tightest_69 : decode cX3_tightest 69 = .ok (.aload_n 0, 1) := by decide +kernel
theorem dX3_tightest_70 : decode cX3_tightest 70 = .ok (.getfield 9, 3) := by decide +kernel
theorem dX3_tightest_73 : decode cX3_tightest 73 = .ok (.iload_n 2, 1) := by decide +kernel
theorem dX3_tightest_74 : decode cX3_tightest 74 = .ok (.invokestatic 78, 3) := by decide +kernel
theorem dX3_tightest_77 : decode cX3_tightest 77 = .ok (.ireturn, 1) := by decide +kernel
theorem dX3_forged_0 : decode cX3_forged 0 = .ok (.aload_n 0, 1) := by decide +kernel
theorem dX3_forged_1 : decode cX3_forged 1 = .ok (.iload_n 1, 1) := by decide +kernel
theorem dX3_forged_2 : decode cX3_forged 2 = .ok (.iconst (-1), 1) := by decide +kernel
theorem dX3_forged_3 : decode cX3_forged 3 = .ok (.invokevirtual 141, 3) := by decide +kernel
theorem dX3_forged_6 : decode cX3_forged 6 = .ok (.istore_n 2, 1) := by decide +kernel
theorem dX3_forged_7 : decode cX3_forged 7 = .ok (.iload_n 2, 1) := by decide +kernel
theorem dX3_forged_8 : decode cX3_forged 8 = .ok (.ifCond .eq 5, 3) := by decide +kernel
theorem dX3_forged_11 : decode cX3_forged 11 = .ok (.iload_n 2, 1) := by decide +kernel
theorem dX3_forged_12 : decode cX3_forged 12 = .ok (.ireturn, 1) := by decide +kernel
theorem dX3_forged_13 : decode cX3_forged 13 = .ok (.iconst 0, 1) := by decide +kernel
theorem dX3_forged_14 : decode cX3_forged 14 = .ok (.istore_n 3, 1) := by decide +kernel
theorem dX3_forged_15 : decode cX3_forged 15 = .ok (.iload_n 3, 1) := by decide +kernel
theorem dX3_forged_16 : decode cX3_forged 16 = .ok (.aload_n 0, 1) := by decide +kernel
theorem dX3_forged_17 : decode cX3_forged 17 = .ok (.getfield 46, 3) := by decide +kernel
theorem dX3_forged_20 : decode cX3_forged 20 = .ok (.iload_n 1, 1) := by decide +kernel
theorem dX3_forged_21 : decode cX3_forged 21 = .ok (.iaload, 1) := by decide +kernel
theorem dX3_forged_22 : decode cX3_forged 22 = .ok (.if_icmp .ge 45, 3) := by decide +kernel
theorem dX3_forged_25 : decode cX3_forged 25 = .ok (.aload_n 0, 1) := by decide +kernel
theorem dX3_forged_26 : decode cX3_forged 26 = .ok (.iload_n 3, 1) := by decide +kernel
theorem dX3_forged_27 : decode cX3_forged 27 = .ok (.invokevirtual 127, 3) := by decide +kernel
theorem dX3_forged_30 : decode cX3_forged 30 = .ok (.ifCond .eq 29, 3) := by decide +kernel
theorem dX3_forged_33 : decode cX3_forged 33 = .ok (.aload_n 0, 1) := by decide +kernel
theorem dX3_forged_34 : decode cX3_forged 34 = .ok (.getfield 49, 3) := by decide +kernel
theorem dX3_forged_37 : decode cX3_forged 37 = .ok (.bipush 100, 2) := by decide +kernel
theorem dX3_forged_39 : decode cX3_forged 39 = .ok (.iload_n 1, 1) := by decide +kernel
theorem dX3_forged_40 : decode cX3_forged 40 = .ok (.imul, 1) := by decide +kernel
theorem dX3_forged_41 : decode cX3_forged 41 = .ok (.iload_n 3, 1) := by decide +kernel
theorem dX3_forged_42 : decode cX3_forged 42 = .ok (.iadd, 1) := by decide +kernel
theorem dX3_forged_43 : decode cX3_forged 43 = .ok (.iaload, 1) := by decide +kernel
theorem dX3_forged_44 : decode cX3_forged 44 = .ok (.iconst 0, 1) := by decide +kernel
theorem dX3_forged_45 : decode cX3_forged 45 = .ok (.aload_n 0, 1) := by decide +kernel
theorem dX3_forged_46 : decode cX3_forged 46 = .ok (.getfield 9, 3) := by decide +kernel
theorem dX3_forged_49 : decode cX3_forged 49 = .ok (.iload_n 3, 1) := by decide +kernel
theorem dX3_forged_50 : decode cX3_forged 50 = .ok (.invokestatic 84, 3) := by decide +kernel
theorem dX3_forged_53 : decode cX3_forged 53 = .ok (.invokestatic 52, 3) := by decide +kernel
theorem dX3_forged_56 : decode cX3_forged 56 = .ok (.ifCond .ne 5, 3) := by decide +kernel
theorem dX3_forged_59 : decode cX3_forged 59 = .ok (.iload_n 3, 1) := by decide +kernel
theorem dX3_forged_60 : decode cX3_forged 60 = .ok (.ireturn, 1) := by decide +kernel
theorem dX3_forged_61 : decode cX3_forged 61 = .ok (.iinc 3 1, 3) := by decide +kernel
theorem dX3_forged_64 : decode cX3_forged 64 = .ok (.goto (-49), 3) := by decide +kernel
theorem dX3_forged_67 : decode cX3_forged 67 = .ok (.bipush (-4), 2) := by decide +kernel
theorem dX3_forged_69 : decode cX3_forged 69 = .ok (.ireturn, 1) := by decide +kernel
theorem dX3_judge_0 : decode cX3_judge 0 = .ok (.aload_n 0, 1) := by decide +kernel
theorem dX3_judge_1 : decode cX3_judge 1 = .ok (.iload_n 1, 1) := by decide +kernel
theorem dX3_judge_2 : decode cX3_judge 2 = .ok (.iconst (-1), 1) := by decide +kernel
theorem dX3_judge_3 : decode cX3_judge 3 = .ok (.invokevirtual 141, 3) := by decide +kernel
theorem dX3_judge_6 : decode cX3_judge 6 = .ok (.istore_n 2, 1) := by decide +kernel
theorem dX3_judge_7 : decode cX3_judge 7 = .ok (.iload_n 2, 1) := by decide +kernel
theorem dX3_judge_8 : decode cX3_judge 8 = .ok (.ifCond .eq 5, 3) := by decide +kernel
theorem dX3_judge_11 : decode cX3_judge 11 = .ok (.iload_n 2, 1) := by decide +kernel
theorem dX3_judge_12 : decode cX3_judge 12 = .ok (.ireturn, 1) := by decide +kernel
theorem dX3_judge_13 : decode cX3_judge 13 = .ok (.aload_n 0, 1) := by decide +kernel
theorem dX3_judge_14 : decode cX3_judge 14 = .ok (.getfield 9, 3) := by decide +kernel
theorem dX3_judge_17 : decode cX3_judge 17 = .ok (.aload_n 0, 1) := by decide +kernel
theorem dX3_judge_18 : decode cX3_judge 18 = .ok (.getfield 13, 3) := by decide +kernel
theorem dX3_judge_21 : decode cX3_judge 21 = .ok (.invokestatic 148, 3) := by decide +kernel
theorem dX3_judge_24 : decode cX3_judge 24 = .ok (.iconst 0, 1) := by decide +kernel
theorem dX3_judge_25 : decode cX3_judge 25 = .ok (.istore_n 3, 1) := by decide +kernel
theorem dX3_judge_26 : decode cX3_judge 26 = .ok (.iload_n 3, 1) := by decide +kernel
theorem dX3_judge_27 : decode cX3_judge 27 = .ok (.aload_n 0, 1) := by decide +kernel
theorem dX3_judge_28 : decode cX3_judge 28 = .ok (.getfield 46, 3) := by decide +kernel
theorem dX3_judge_31 : decode cX3_judge 31 = .ok (.iload_n 1, 1) := by decide +kernel
theorem dX3_judge_32 : decode cX3_judge 32 = .ok (.iaload, 1) := by decide +kernel
theorem dX3_judge_33 : decode cX3_judge 33 = .ok (.if_icmp .ge 59, 3) := by decide +kernel
theorem dX3_judge_36 : decode cX3_judge 36 = .ok (.aload_n 0, 1) := by decide +kernel
theorem dX3_judge_37 : decode cX3_judge 37 = .ok (.getfield 49, 3) := by decide +kernel
theorem dX3_judge_40 : decode cX3_judge 40 = .ok (.bipush 100, 2) := by decide +kernel
theorem dX3_judge_42 : decode cX3_judge 42 = .ok (.iload_n 1, 1) := by decide +kernel
theorem dX3_judge_43 : decode cX3_judge 43 = .ok (.imul, 1) := by decide +kernel
theorem dX3_judge_44 : decode cX3_judge 44 = .ok (.iload_n 3, 1) := by decide +kernel
theorem dX3_judge_45 : decode cX3_judge 45 = .ok (.iadd, 1) := by decide +kernel
theorem dX3_judge_46 : decode cX3_judge 46 = .ok (.iaload, 1) := by decide +kernel
theorem dX3_judge_47 : decode cX3_judge 47 = .ok (.istore 4, 2) := by decide +kernel
theorem dX3_judge_49 : decode cX3_judge 49 = .ok (.iload 4, 2) := by decide +kernel
theorem dX3_judge_51 : decode cX3_judge 51 = .ok (.aload_n 0, 1) := by decide +kernel
theorem dX3_judge_52 : decode cX3_judge 52 = .ok (.getfield 43, 3) := by decide +kernel
theorem dX3_judge_55 : decode cX3_judge 55 = .ok (.iload_n 1, 1) := by decide +kernel
theorem dX3_judge_56 : decode cX3_judge 56 = .ok (.iaload, 1) := by decide +kernel
theorem dX3_judge_57 : decode cX3_judge 57 = .ok (.invokestatic 211, 3) := by decide +kernel
theorem dX3_judge_60 : decode cX3_judge 60 = .ok (.if_icmp .eq 17, 3) := by decide +kernel
theorem dX3_judge_63 : decode cX3_judge 63 = .ok (.iload 4, 2) := by decide +kernel
theorem dX3_judge_65 : decode cX3_judge 65 = .ok (.aload_n 0, 1) := by decide +kernel
theorem dX3_judge_66 : decode cX3_judge 66 = .ok (.getfield 13, 3) := by decide +kernel
theorem dX3_judge_69 : decode cX3_judge 69 = .ok (.invokestatic 159, 3) := by decide +kernel
theorem dX3_judge_72 : decode cX3_judge 72 = .ok (.if_icmp .eq 5, 3) := by decide +kernel
theorem dX3_judge_75 : decode cX3_judge 75 = .ok (.iload_n 3, 1) := by decide +kernel
theorem dX3_judge_76 : decode cX3_judge 76 = .ok (.ireturn, 1) := by decide +kernel
theorem dX3_judge_77 : decode cX3_judge 77 = .ok (.aload_n 0, 1) := by decide +kernel
theorem dX3_judge_78 : decode cX3_judge 78 = .ok (.aload_n 0, 1) := by decide +kernel
theorem dX3_judge_79 : decode cX3_judge 79 = .ok (.getfield 13, 3) := by decide +kernel
theorem dX3_judge_82 : decode cX3_judge 82 = .ok (.iconst 0, 1) := by decide +kernel
theorem dX3_judge_83 : decode cX3_judge 83 = .ok (.invokevirtual 98, 3) := by decide +kernel
theorem dX3_judge_86 : decode cX3_judge 86 = .ok (.iinc 3 1, 3) := by decide +kernel
theorem dX3_judge_89 : decode cX3_judge 89 = .ok (.goto (-63), 3) := by decide +kernel
theorem dX3_judge_92 : decode cX3_judge 92 = .ok (.bipush (-4), 2) := by decide +kernel
theorem dX3_judge_94 : decode cX3_judge 94 = .ok (.ireturn, 1) := by decide +kernel
theorem dX3_drawn_0 : decode cX3_drawn 0 = .ok (.aload_n 0, 1) := by decide +kernel
theorem dX3_drawn_1 : decode cX3_drawn 1 = .ok (.aload_n 0, 1) := by decide +kernel
theorem dX3_drawn_2 : decode cX3_drawn 2 = .ok (.getfield 220, 3) := by decide +kernel
theorem dX3_drawn_5 : decode cX3_drawn 5 = .ok (.ldc 223, 2) := by decide +kernel
theorem dX3_drawn_7 : decode cX3_drawn 7 = .ok (.imul, 1) := by decide +kernel
theorem dX3_drawn_8 : decode cX3_drawn 8 = .ok (.sipush 12345, 3) := by decide +kernel
theorem dX3_drawn_11 : decode cX3_drawn 11 = .ok (.iadd, 1) := by decide +kernel
theorem dX3_drawn_12 : decode cX3_drawn 12 = .ok (.putfield 220, 3) := by decide +kernel
theorem dX3_drawn_15 : decode cX3_drawn 15 = .ok (.aload_n 0, 1) := by decide +kernel
theorem dX3_drawn_16 : decode cX3_drawn 16 = .ok (.getfield 220, 3) := by decide +kernel
theorem dX3_drawn_19 : decode cX3_drawn 19 = .ok (.ldc 224, 2) := by decide +kernel
theorem dX3_drawn_21 : decode cX3_drawn 21 = .ok (.iand, 1) := by decide +kernel
theorem dX3_drawn_22 : decode cX3_drawn 22 = .ok (.ldc 225, 2) := by decide +kernel
theorem dX3_drawn_24 : decode cX3_drawn 24 = .ok (.idiv, 1) := by decide +kernel
theorem dX3_drawn_25 : decode cX3_drawn 25 = .ok (.iload_n 1, 1) := by decide +kernel
theorem dX3_drawn_26 : decode cX3_drawn 26 = .ok (.irem, 1) := by decide +kernel
theorem dX3_drawn_27 : decode cX3_drawn 27 = .ok (.ireturn, 1) := by decide +kernel
theorem dX3_trips_0 : decode cX3_trips 0 = .ok (.iload_n 1, 1) := by decide +kernel
theorem dX3_trips_1 : decode cX3_trips 1 = .ok (.iconst 1, 1) := by decide +kernel
theorem dX3_trips_2 : decode cX3_trips 2 = .ok (.bipush 20, 2) := by decide +kernel
theorem dX3_trips_4 : decode cX3_trips 4 = .ok (.invokestatic 52, 3) := by decide +kernel
theorem dX3_trips_7 : decode cX3_trips 7 = .ok (.ifCond .eq 12, 3) := by decide +kernel
theorem dX3_trips_10 : decode cX3_trips 10 = .ok (.iload_n 3, 1) := by decide +kernel
theorem dX3_trips_11 : decode cX3_trips 11 = .ok (.iconst 0, 1) := by decide +kernel
theorem dX3_trips_12 : decode cX3_trips 12 = .ok (.iconst 1, 1) := by decide +kernel
theorem dX3_trips_13 : decode cX3_trips 13 = .ok (.invokestatic 52, 3) := by decide +kernel
theorem dX3_trips_16 : decode cX3_trips 16 = .ok (.ifCond .ne 5, 3) := by decide +kernel
theorem dX3_trips_19 : decode cX3_trips 19 = .ok (.iconst (-1), 1) := by decide +kernel
theorem dX3_trips_20 : decode cX3_trips 20 = .ok (.ireturn, 1) := by decide +kernel
theorem dX3_trips_21 : decode cX3_trips 21 = .ok (.aload_n 0, 1) := by decide +kernel
theorem dX3_trips_22 : decode cX3_trips 22 = .ok (.getfield 9, 3) := by decide +kernel
theorem dX3_trips_25 : decode cX3_trips 25 = .ok (.iconst 0, 1) := by decide +kernel
theorem dX3_trips_26 : decode cX3_trips 26 = .ok (.iaload, 1) := by decide +kernel
theorem dX3_trips_27 : decode cX3_trips 27 = .ok (.ifCond .ne 6, 3) := by decide +kernel
theorem dX3_trips_30 : decode cX3_trips 30 = .ok (.bipush (-3), 2) := by decide +kernel
theorem dX3_trips_32 : decode cX3_trips 32 = .ok (.ireturn, 1) := by decide +kernel
theorem dX3_trips_33 : decode cX3_trips 33 = .ok (.aload_n 0, 1) := by decide +kernel
theorem dX3_trips_34 : decode cX3_trips 34 = .ok (.iload_n 2, 1) := by decide +kernel
theorem dX3_trips_35 : decode cX3_trips 35 = .ok (.putfield 220, 3) := by decide +kernel
theorem dX3_trips_38 : decode cX3_trips 38 = .ok (.iconst 0, 1) := by decide +kernel
theorem dX3_trips_39 : decode cX3_trips 39 = .ok (.istore 4, 2) := by decide +kernel
theorem dX3_trips_41 : decode cX3_trips 41 = .ok (.iconst 0, 1) := by decide +kernel
theorem dX3_trips_42 : decode cX3_trips 42 = .ok (.istore 5, 2) := by decide +kernel
theorem dX3_trips_44 : decode cX3_trips 44 = .ok (.iload 5, 2) := by decide +kernel
theorem dX3_trips_46 : decode cX3_trips 46 = .ok (.iload_n 1, 1) := by decide +kernel
theorem dX3_trips_47 : decode cX3_trips 47 = .ok (.if_icmp .ge 121, 3) := by decide +kernel
theorem dX3_trips_50 : decode cX3_trips 50 = .ok (.aload_n 0, 1) := by decide +kernel
theorem dX3_trips_51 : decode cX3_trips 51 = .ok (.getfield 9, 3) := by decide +kernel
theorem dX3_trips_54 : decode cX3_trips 54 = .ok (.aload_n 0, 1) := by decide +kernel
theorem dX3_trips_55 : decode cX3_trips 55 = .ok (.getfield 13, 3) := by decide +kernel
theorem dX3_trips_58 : decode cX3_trips 58 = .ok (.invokestatic 148, 3) := by decide +kernel
theorem dX3_trips_61 : decode cX3_trips 61 = .ok (.aload_n 0, 1) := by decide +kernel
theorem dX3_trips_62 : decode cX3_trips 62 = .ok (.getfield 13, 3) := by decide +kernel
theorem dX3_trips_65 : decode cX3_trips 65 = .ok (.invokestatic 102, 3) := by decide +kernel
theorem dX3_trips_68 : decode cX3_trips 68 = .ok (.aload_n 0, 1) := by decide +kernel
theorem dX3_trips_69 : decode cX3_trips 69 = .ok (.getfield 13, 3) := by decide +kernel
theorem dX3_trips_72 : decode cX3_trips 72 = .ok (.iconst 1, 1) := by decide +kernel
theorem dX3_trips_73 : decode cX3_trips 73 = .ok (.aload_n 0, 1) := by decide +kernel
theorem dX3_trips_74 : decode cX3_trips 74 = .ok (.bipush 24, 2) := by decide +kernel
theorem dX3_trips_76 : decode cX3_trips 76 = .ok (.invokevirtual 226, 3) := by decide +kernel
theorem dX3_trips_79 : decode cX3_trips 79 = .ok (.iastore, 1) := by decide +kernel
theorem dX3_trips_80 : decode cX3_trips 80 = .ok (.iconst 0, 1) := by decide +kernel
theorem dX3_trips_81 : decode cX3_trips 81 = .ok (.istore 6, 2) := by decide +kernel
theorem dX3_trips_83 : decode cX3_trips 83 = .ok (.iload 6, 2) := by decide +kernel
theorem dX3_trips_85 : decode cX3_trips 85 = .ok (.aload_n 0, 1) := by decide +kernel
theorem dX3_trips_86 : decode cX3_trips 86 = .ok (.getfield 13, 3) := by decide +kernel
theorem dX3_trips_89 : decode cX3_trips 89 = .ok (.iconst 0, 1) := by decide +kernel
theorem dX3_trips_90 : decode cX3_trips 90 = .ok (.iaload, 1) := by decide +kernel
theorem dX3_trips_91 : decode cX3_trips 91 = .ok (.if_icmp .ge 33, 3) := by decide +kernel
theorem dX3_trips_94 : decode cX3_trips 94 = .ok (.aload_n 0, 1) := by decide +kernel
theorem dX3_trips_95 : decode cX3_trips 95 = .ok (.getfield 13, 3) := by decide +kernel
theorem dX3_trips_98 : decode cX3_trips 98 = .ok (.iload 6, 2) := by decide +kernel
theorem dX3_trips_100 : decode cX3_trips 100 = .ok (.iconst 3, 1) := by decide +kernel
theorem dX3_trips_101 : decode cX3_trips 101 = .ok (.invokestatic 64, 3) := by decide +kernel
theorem dX3_trips_104 : decode cX3_trips 104 = .ok (.aload_n 0, 1) := by decide +kernel
theorem dX3_trips_105 : decode cX3_trips 105 = .ok (.iconst 5, 1) := by decide +kernel
theorem dX3_trips_106 : decode cX3_trips 106 = .ok (.invokevirtual 226, 3) := by decide +kernel
theorem dX3_trips_109 : decode cX3_trips 109 = .ok (.ifCond .ne 7, 3) := by decide +kernel
theorem dX3_trips_112 : decode cX3_trips 112 = .ok (.iconst 1, 1) := by decide +kernel
theorem dX3_trips_113 : decode cX3_trips 113 = .ok (.goto 4, 3) := by decide +kernel
theorem dX3_trips_116 : decode cX3_trips 116 = .ok (.iconst 0, 1) := by decide +kernel
theorem dX3_trips_117 : decode cX3_trips 117 = .ok (.iastore, 1) := by decide +kernel
theorem dX3_trips_118 : decode cX3_trips 118 = .ok (.iinc 6 1, 3) := by decide +kernel
theorem dX3_trips_121 : decode cX3_trips 121 = .ok (.goto (-38), 3) := by decide +kernel
theorem dX3_trips_124 : decode cX3_trips 124 = .ok (.aload_n 0, 1) := by decide +kernel
theorem dX3_trips_125 : decode cX3_trips 125 = .ok (.aload_n 0, 1) := by decide +kernel
theorem dX3_trips_126 : decode cX3_trips 126 = .ok (.getfield 13, 3) := by decide +kernel
theorem dX3_trips_129 : decode cX3_trips 129 = .ok (.iconst 5, 1) := by decide +kernel
theorem dX3_trips_130 : decode cX3_trips 130 = .ok (.invokevirtual 134, 3) := by decide +kernel
theorem dX3_trips_133 : decode cX3_trips 133 = .ok (.iload 4, 2) := by decide +kernel
theorem dX3_trips_135 : decode cX3_trips 135 = .ok (.iload_n 3, 1) := by decide +kernel
theorem dX3_trips_136 : decode cX3_trips 136 = .ok (.ifCond .ne 13, 3) := by decide +kernel
theorem dX3_trips_139 : decode cX3_trips 139 = .ok (.aload_n 0, 1) := by decide +kernel
theorem dX3_trips_140 : decode cX3_trips 140 = .ok (.getfield 13, 3) := by decide +kernel
theorem dX3_trips_143 : decode cX3_trips 143 = .ok (.invokestatic 159, 3) := by decide +kernel
theorem dX3_trips_146 : decode cX3_trips 146 = .ok (.goto 13, 3) := by decide +kernel
theorem dX3_trips_149 : decode cX3_trips 149 = .ok (.aload_n 0, 1) := by decide +kernel
theorem dX3_trips_150 : decode cX3_trips 150 = .ok (.getfield 13, 3) := by decide +kernel
theorem dX3_trips_153 : decode cX3_trips 153 = .ok (.invokestatic 191, 3) := by decide +kernel
theorem dX3_trips_156 : decode cX3_trips 156 = .ok (.invokestatic 188, 3) := by decide +kernel
theorem dX3_trips_159 : decode cX3_trips 159 = .ok (.iadd, 1) := by decide +kernel
theorem dX3_trips_160 : decode cX3_trips 160 = .ok (.istore 4, 2) := by decide +kernel
theorem dX3_trips_162 : decode cX3_trips 162 = .ok (.iinc 5 1, 3) := by decide +kernel
theorem dX3_trips_165 : decode cX3_trips 165 = .ok (.goto (-121), 3) := by decide +kernel
theorem dX3_trips_168 : decode cX3_trips 168 = .ok (.iload 4, 2) := by decide +kernel
theorem dX3_trips_170 : decode cX3_trips 170 = .ok (.ireturn, 1) := by decide +kernel
theorem dX3_image_0 : decode cX3_image 0 = .ok (.aload_n 0, 1) := by decide +kernel
theorem dX3_image_1 : decode cX3_image 1 = .ok (.getfield 9, 3) := by decide +kernel
theorem dX3_image_4 : decode cX3_image 4 = .ok (.aload_n 0, 1) := by decide +kernel
theorem dX3_image_5 : decode cX3_image 5 = .ok (.getfield 16, 3) := by decide +kernel
theorem dX3_image_8 : decode cX3_image 8 = .ok (.invokestatic 148, 3) := by decide +kernel
theorem dX3_image_11 : decode cX3_image 11 = .ok (.aload_n 0, 1) := by decide +kernel
theorem dX3_image_12 : decode cX3_image 12 = .ok (.iconst 1, 1) := by decide +kernel
theorem dX3_image_13 : decode cX3_image 13 = .ok (.putfield 229, 3) := by decide +kernel
theorem dX3_image_16 : decode cX3_image 16 = .ok (.aload_n 0, 1) := by decide +kernel
theorem dX3_image_17 : decode cX3_image 17 = .ok (.getfield 9, 3) := by decide +kernel
theorem dX3_image_20 : decode cX3_image 20 = .ok (.iconst 2, 1) := by decide +kernel
theorem dX3_image_21 : decode cX3_image 21 = .ok (.iaload, 1) := by decide +kernel
theorem dX3_image_22 : decode cX3_image 22 = .ok (.ireturn, 1) := by decide +kernel
theorem dX3_restore_0 : decode cX3_restore 0 = .ok (.aload_n 0, 1) := by decide +kernel
theorem dX3_restore_1 : decode cX3_restore 1 = .ok (.getfield 229, 3) := by decide +kernel
theorem dX3_restore_4 : decode cX3_restore 4 = .ok (.ifCond .ne 6, 3) := by decide +kernel
theorem dX3_restore_7 : decode cX3_restore 7 = .ok (.bipush (-3), 2) := by decide +kernel
theorem dX3_restore_9 : decode cX3_restore 9 = .ok (.ireturn, 1) := by decide +kernel
theorem dX3_restore_10 : decode cX3_restore 10 = .ok (.aload_n 0, 1) := by decide +kernel
theorem dX3_restore_11 : decode cX3_restore 11 = .ok (.getfield 16, 3) := by decide +kernel
theorem dX3_restore_14 : decode cX3_restore 14 = .ok (.aload_n 0, 1) := by decide +kernel
theorem dX3_restore_15 : decode cX3_restore 15 = .ok (.getfield 9, 3) := by decide +kernel
theorem dX3_restore_18 : decode cX3_restore 18 = .ok (.invokestatic 148, 3) := by decide +kernel
theorem dX3_restore_21 : decode cX3_restore 21 = .ok (.aload_n 0, 1) := by decide +kernel
theorem dX3_restore_22 : decode cX3_restore 22 = .ok (.getfield 9, 3) := by decide +kernel
theorem dX3_restore_25 : decode cX3_restore 25 = .ok (.iconst 2, 1) := by decide +kernel
theorem dX3_restore_26 : decode cX3_restore 26 = .ok (.iaload, 1) := by decide +kernel
theorem dX3_restore_27 : decode cX3_restore 27 = .ok (.ireturn, 1) := by decide +kernel
theorem dX3_count_0 : decode cX3_count 0 = .ok (.iload_n 1, 1) := by decide +kernel
theorem dX3_count_1 : decode cX3_count 1 = .ok (.iconst 0, 1) := by decide +kernel
theorem dX3_count_2 : decode cX3_count 2 = .ok (.iconst 2, 1) := by decide +kernel
theorem dX3_count_3 : decode cX3_count 3 = .ok (.invokestatic 52, 3) := by decide +kernel
theorem dX3_count_6 : decode cX3_count 6 = .ok (.ifCond .eq 10, 3) := by decide +kernel
theorem dX3_count_9 : decode cX3_count 9 = .ok (.aload_n 0, 1) := by decide +kernel
theorem dX3_count_10 : decode cX3_count 10 = .ok (.getfield 9, 3) := by decide +kernel
theorem dX3_count_13 : decode cX3_count 13 = .ok (.iload_n 1, 1) := by decide +kernel
theorem dX3_count_14 : decode cX3_count 14 = .ok (.iaload, 1) := by decide +kernel
theorem dX3_count_15 : decode cX3_count 15 = .ok (.ireturn, 1) := by decide +kernel
theorem dX3_count_16 : decode cX3_count 16 = .ok (.iconst 0, 1) := by decide +kernel
theorem dX3_count_17 : decode cX3_count 17 = .ok (.istore_n 2, 1) := by decide +kernel
theorem dX3_count_18 : decode cX3_count 18 = .ok (.iload_n 1, 1) := by decide +kernel
theorem dX3_count_19 : decode cX3_count 19 = .ok (.tableswitch 85 3 6 #[29, 37, 72, 77], 29) := by decide +kernel
theorem dX3_count_48 : decode cX3_count 48 = .ok (.aload_n 0, 1) := by decide +kernel
theorem dX3_count_49 : decode cX3_count 49 = .ok (.getfield 9, 3) := by decide +kernel
theorem dX3_count_52 : decode cX3_count 52 = .ok (.invokestatic 159, 3) := by decide +kernel
theorem dX3_count_55 : decode cX3_count 55 = .ok (.ireturn, 1) := by decide +kernel
theorem dX3_count_56 : decode cX3_count 56 = .ok (.iconst 0, 1) := by decide +kernel
theorem dX3_count_57 : decode cX3_count 57 = .ok (.istore_n 3, 1) := by decide +kernel
theorem dX3_count_58 : decode cX3_count 58 = .ok (.iload_n 3, 1) := by decide +kernel
theorem dX3_count_59 : decode cX3_count 59 = .ok (.aload_n 0, 1) := by decide +kernel
theorem dX3_count_60 : decode cX3_count 60 = .ok (.getfield 9, 3) := by decide +kernel
theorem dX3_count_63 : decode cX3_count 63 = .ok (.iconst 0, 1) := by decide +kernel
theorem dX3_count_64 : decode cX3_count 64 = .ok (.iaload, 1) := by decide +kernel
theorem dX3_count_65 : decode cX3_count 65 = .ok (.if_icmp .ge 24, 3) := by decide +kernel
theorem dX3_count_68 : decode cX3_count 68 = .ok (.iload_n 2, 1) := by decide +kernel
theorem dX3_count_69 : decode cX3_count 69 = .ok (.aload_n 0, 1) := by decide +kernel
theorem dX3_count_70 : decode cX3_count 70 = .ok (.getfield 9, 3) := by decide +kernel
theorem dX3_count_73 : decode cX3_count 73 = .ok (.iload_n 3, 1) := by decide +kernel
theorem dX3_count_74 : decode cX3_count 74 = .ok (.iconst 3, 1) := by decide +kernel
theorem dX3_count_75 : decode cX3_count 75 = .ok (.invokestatic 64, 3) := by decide +kernel
theorem dX3_count_78 : decode cX3_count 78 = .ok (.iaload, 1) := by decide +kernel
theorem dX3_count_79 : decode cX3_count 79 = .ok (.iload_n 3, 1) := by decide +kernel
theorem dX3_count_80 : decode cX3_count 80 = .ok (.ishl, 1) := by decide +kernel
theorem dX3_count_81 : decode cX3_count 81 = .ok (.ior, 1) := by decide +kernel
theorem dX3_count_82 : decode cX3_count 82 = .ok (.istore_n 2, 1) := by decide +kernel
theorem dX3_count_83 : decode cX3_count 83 = .ok (.iinc 3 1, 3) := by decide +kernel
theorem dX3_count_86 : decode cX3_count 86 = .ok (.goto (-28), 3) := by decide +kernel
theorem dX3_count_89 : decode cX3_count 89 = .ok (.iload_n 2, 1) := by decide +kernel
theorem dX3_count_90 : decode cX3_count 90 = .ok (.ireturn, 1) := by decide +kernel
theorem dX3_count_91 : decode cX3_count 91 = .ok (.aload_n 0, 1) := by decide +kernel
theorem dX3_count_92 : decode cX3_count 92 = .ok (.invokevirtual 217, 3) := by decide +kernel
theorem dX3_count_95 : decode cX3_count 95 = .ok (.ireturn, 1) := by decide +kernel
theorem dX3_count_96 : decode cX3_count 96 = .ok (.aload_n 0, 1) := by decide +kernel
theorem dX3_count_97 : decode cX3_count 97 = .ok (.getfield 9, 3) := by decide +kernel
theorem dX3_count_100 : decode cX3_count 100 = .ok (.invokestatic 191, 3) := by decide +kernel
theorem dX3_count_103 : decode cX3_count 103 = .ok (.ireturn, 1) := by decide +kernel
theorem dX3_count_104 : decode cX3_count 104 = .ok (.iconst (-1), 1) := by decide +kernel
theorem dX3_count_105 : decode cX3_count 105 = .ok (.ireturn, 1) := by decide +kernel
theorem dX3_thrown_0 : decode cX3_thrown 0 = .ok (.aload_n 0, 1) := by decide +kernel
theorem dX3_thrown_1 : decode cX3_thrown 1 = .ok (.getfield 233, 3) := by decide +kernel
theorem dX3_thrown_4 : decode cX3_thrown 4 = .ok (.ireturn, 1) := by decide +kernel
theorem dX3_isShelf_0 : decode cX3_isShelf 0 = .ok (.iload_n 0, 1) := by decide +kernel
theorem dX3_isShelf_1 : decode cX3_isShelf 1 = .ok (.iconst 0, 1) := by decide +kernel
theorem dX3_isShelf_2 : decode cX3_isShelf 2 = .ok (.bipush 7, 2) := by decide +kernel
theorem dX3_isShelf_4 : decode cX3_isShelf 4 = .ok (.invokestatic 52, 3) := by decide +kernel
theorem dX3_isShelf_7 : decode cX3_isShelf 7 = .ok (.ireturn, 1) := by decide +kernel
theorem dX3_wrongRow_0 : decode cX3_wrongRow 0 = .ok (.iload_n 1, 1) := by decide +kernel
theorem dX3_wrongRow_1 : decode cX3_wrongRow 1 = .ok (.invokestatic 236, 3) := by decide +kernel
theorem dX3_wrongRow_4 : decode cX3_wrongRow 4 = .ok (.ifCond .ne 7, 3) := by decide +kernel
theorem dX3_wrongRow_7 : decode cX3_wrongRow 7 = .ok (.iconst (-1), 1) := by decide +kernel
theorem dX3_wrongRow_8 : decode cX3_wrongRow 8 = .ok (.goto 47, 3) := by decide +kernel
theorem dX3_wrongRow_11 : decode cX3_wrongRow 11 = .ok (.aload_n 0, 1) := by decide +kernel
theorem dX3_wrongRow_12 : decode cX3_wrongRow 12 = .ok (.getfield 34, 3) := by decide +kernel
theorem dX3_wrongRow_15 : decode cX3_wrongRow 15 = .ok (.iload_n 1, 1) := by decide +kernel
theorem dX3_wrongRow_16 : decode cX3_wrongRow 16 = .ok (.iaload, 1) := by decide +kernel
theorem dX3_wrongRow_17 : decode cX3_wrongRow 17 = .ok (.ifCond .ne 8, 3) := by decide +kernel
theorem dX3_wrongRow_20 : decode cX3_wrongRow 20 = .ok (.bipush (-11), 2) := by decide +kernel
theorem dX3_wrongRow_22 : decode cX3_wrongRow 22 = .ok (.goto 33, 3) := by decide +kernel
theorem dX3_wrongRow_25 : decode cX3_wrongRow 25 = .ok (.aload_n 0, 1) := by decide +kernel
theorem dX3_wrongRow_26 : decode cX3_wrongRow 26 = .ok (.getfield 34, 3) := by decide +kernel
theorem dX3_wrongRow_29 : decode cX3_wrongRow 29 = .ok (.iload_n 1, 1) := by decide +kernel
theorem dX3_wrongRow_30 : decode cX3_wrongRow 30 = .ok (.iaload, 1) := by decide +kernel
theorem dX3_wrongRow_31 : decode cX3_wrongRow 31 = .ok (.iconst 2, 1) := by decide +kernel
theorem dX3_wrongRow_32 : decode cX3_wrongRow 32 = .ok (.if_icmp .ne 17, 3) := by decide +kernel
theorem dX3_wrongRow_35 : decode cX3_wrongRow 35 = .ok (.iload_n 2, 1) := by decide +kernel
theorem dX3_wrongRow_36 : decode cX3_wrongRow 36 = .ok (.ifCond .lt 18, 3) := by decide +kernel
theorem dX3_wrongRow_39 : decode cX3_wrongRow 39 = .ok (.aload_n 0, 1) := by decide +kernel
theorem dX3_wrongRow_40 : decode cX3_wrongRow 40 = .ok (.getfield 43, 3) := by decide +kernel
theorem dX3_wrongRow_43 : decode cX3_wrongRow 43 = .ok (.iload_n 1, 1) := by decide +kernel
theorem dX3_wrongRow_44 : decode cX3_wrongRow 44 = .ok (.iaload, 1) := by decide +kernel
theorem dX3_wrongRow_45 : decode cX3_wrongRow 45 = .ok (.iload_n 2, 1) := by decide +kernel
theorem dX3_wrongRow_46 : decode cX3_wrongRow 46 = .ok (.if_icmp .eq 8, 3) := by decide +kernel
theorem dX3_wrongRow_49 : decode cX3_wrongRow 49 = .ok (.bipush (-12), 2) := by decide +kernel
theorem dX3_wrongRow_51 : decode cX3_wrongRow 51 = .ok (.goto 4, 3) := by decide +kernel
theorem dX3_wrongRow_54 : decode cX3_wrongRow 54 = .ok (.iconst 0, 1) := by decide +kernel
theorem dX3_wrongRow_55 : decode cX3_wrongRow 55 = .ok (.ireturn, 1) := by decide +kernel
theorem dX3_wrongKept_0 : decode cX3_wrongKept 0 = .ok (.iload_n 1, 1) := by decide +kernel
theorem dX3_wrongKept_1 : decode cX3_wrongKept 1 = .ok (.invokestatic 236, 3) := by decide +kernel
theorem dX3_wrongKept_4 : decode cX3_wrongKept 4 = .ok (.ifCond .ne 7, 3) := by decide +kernel
theorem dX3_wrongKept_7 : decode cX3_wrongKept 7 = .ok (.iconst (-1), 1) := by decide +kernel
theorem dX3_wrongKept_8 : decode cX3_wrongKept 8 = .ok (.goto 33, 3) := by decide +kernel
theorem dX3_wrongKept_11 : decode cX3_wrongKept 11 = .ok (.aload_n 0, 1) := by decide +kernel
theorem dX3_wrongKept_12 : decode cX3_wrongKept 12 = .ok (.getfield 34, 3) := by decide +kernel
theorem dX3_wrongKept_15 : decode cX3_wrongKept 15 = .ok (.iload_n 1, 1) := by decide +kernel
theorem dX3_wrongKept_16 : decode cX3_wrongKept 16 = .ok (.iaload, 1) := by decide +kernel
theorem dX3_wrongKept_17 : decode cX3_wrongKept 17 = .ok (.ifCond .ne 8, 3) := by decide +kernel
theorem dX3_wrongKept_20 : decode cX3_wrongKept 20 = .ok (.bipush (-11), 2) := by decide +kernel
theorem dX3_wrongKept_22 : decode cX3_wrongKept 22 = .ok (.goto 19, 3) := by decide +kernel
theorem dX3_wrongKept_25 : decode cX3_wrongKept 25 = .ok (.aload_n 0, 1) := by decide +kernel
theorem dX3_wrongKept_26 : decode cX3_wrongKept 26 = .ok (.getfield 34, 3) := by decide +kernel
theorem dX3_wrongKept_29 : decode cX3_wrongKept 29 = .ok (.iload_n 1, 1) := by decide +kernel
theorem dX3_wrongKept_30 : decode cX3_wrongKept 30 = .ok (.iaload, 1) := by decide +kernel
theorem dX3_wrongKept_31 : decode cX3_wrongKept 31 = .ok (.iconst 2, 1) := by decide +kernel
theorem dX3_wrongKept_32 : decode cX3_wrongKept 32 = .ok (.if_icmp .ne 8, 3) := by decide +kernel
theorem dX3_wrongKept_35 : decode cX3_wrongKept 35 = .ok (.bipush (-12), 2) := by decide +kernel
theorem dX3_wrongKept_37 : decode cX3_wrongKept 37 = .ok (.goto 4, 3) := by decide +kernel
theorem dX3_wrongKept_40 : decode cX3_wrongKept 40 = .ok (.iconst 0, 1) := by decide +kernel
theorem dX3_wrongKept_41 : decode cX3_wrongKept 41 = .ok (.ireturn, 1) := by decide +kernel
theorem dX3_keep_0 : decode cX3_keep 0 = .ok (.iload_n 1, 1) := by decide +kernel
theorem dX3_keep_1 : decode cX3_keep 1 = .ok (.invokestatic 236, 3) := by decide +kernel
theorem dX3_keep_4 : decode cX3_keep 4 = .ok (.ifCond .eq 38, 3) := by decide +kernel
theorem dX3_keep_7 : decode cX3_keep 7 = .ok (.iload_n 2, 1) := by decide +kernel
theorem dX3_keep_8 : decode cX3_keep 8 = .ok (.iconst 0, 1) := by decide +kernel
theorem dX3_keep_9 : decode cX3_keep 9 = .ok (.iconst 1, 1) := by decide +kernel
theorem dX3_keep_10 : decode cX3_keep 10 = .ok (.invokestatic 52, 3) := by decide +kernel
theorem dX3_keep_13 : decode cX3_keep 13 = .ok (.ifCond .eq 29, 3) := by decide +kernel
theorem dX3_keep_16 : decode cX3_keep 16 = .ok (.iload_n 2, 1) := by decide +kernel
theorem dX3_keep_17 : decode cX3_keep 17 = .ok (.iconst 1, 1) := by decide +kernel
theorem dX3_keep_18 : decode cX3_keep 18 = .ok (.if_icmp .ne 26, 3) := by decide +kernel
theorem dX3_keep_21 : decode cX3_keep 21 = .ok (.iload_n 3, 1) := by decide +kernel
theorem dX3_keep_22 : decode cX3_keep 22 = .ok (.iconst 0, 1) := by decide +kernel
theorem dX3_keep_23 : decode cX3_keep 23 = .ok (.bipush 7, 2) := by decide +kernel
theorem dX3_keep_25 : decode cX3_keep 25 = .ok (.invokestatic 52, 3) := by decide +kernel
theorem dX3_keep_28 : decode cX3_keep 28 = .ok (.ifCond .eq 14, 3) := by decide +kernel
theorem dX3_keep_31 : decode cX3_keep 31 = .ok (.iload 4, 2) := by decide +kernel
theorem dX3_keep_33 : decode cX3_keep 33 = .ok (.iconst 0, 1) := by decide +kernel
theorem dX3_keep_34 : decode cX3_keep 34 = .ok (.bipush 9, 2) := by decide +kernel
theorem dX3_keep_36 : decode cX3_keep 36 = .ok (.invokestatic 52, 3) := by decide +kernel
theorem dX3_keep_39 : decode cX3_keep 39 = .ok (.ifCond .ne 5, 3) := by decide +kernel
theorem dX3_keep_42 : decode cX3_keep 42 = .ok (.iconst (-1), 1) := by decide +kernel
theorem dX3_keep_43 : decode cX3_keep 43 = .ok (.ireturn, 1) := by decide +kernel
theorem dX3_keep_44 : decode cX3_keep 44 = .ok (.aload_n 0, 1) := by decide +kernel
theorem dX3_keep_45 : decode cX3_keep 45 = .ok (.getfield 34, 3) := by decide +kernel
theorem dX3_keep_48 : decode cX3_keep 48 = .ok (.iload_n 1, 1) := by decide +kernel
theorem dX3_keep_49 : decode cX3_keep 49 = .ok (.iload_n 2, 1) := by decide +kernel
theorem dX3_keep_50 : decode cX3_keep 50 = .ok (.iastore, 1) := by decide +kernel
theorem dX3_keep_51 : decode cX3_keep 51 = .ok (.aload_n 0, 1) := by decide +kernel
theorem dX3_keep_52 : decode cX3_keep 52 = .ok (.getfield 37, 3) := by decide +kernel
theorem dX3_keep_55 : decode cX3_keep 55 = .ok (.iload_n 1, 1) := by decide +kernel
theorem dX3_keep_56 : decode cX3_keep 56 = .ok (.iload_n 3, 1) := by decide +kernel
theorem dX3_keep_57 : decode cX3_keep 57 = .ok (.iastore, 1) := by decide +kernel
theorem dX3_keep_58 : decode cX3_keep 58 = .ok (.aload_n 0, 1) := by decide +kernel
theorem dX3_keep_59 : decode cX3_keep 59 = .ok (.getfield 40, 3) := by decide +kernel
theorem dX3_keep_62 : decode cX3_keep 62 = .ok (.iload_n 1, 1) := by decide +kernel
theorem dX3_keep_63 : decode cX3_keep 63 = .ok (.iload 4, 2) := by decide +kernel
theorem dX3_keep_65 : decode cX3_keep 65 = .ok (.iastore, 1) := by decide +kernel
theorem dX3_keep_66 : decode cX3_keep 66 = .ok (.iconst 0, 1) := by decide +kernel
theorem dX3_keep_67 : decode cX3_keep 67 = .ok (.ireturn, 1) := by decide +kernel
theorem dX3_row_0 : decode cX3_row 0 = .ok (.iload_n 1, 1) := by decide +kernel
theorem dX3_row_1 : decode cX3_row 1 = .ok (.invokestatic 236, 3) := by decide +kernel
theorem dX3_row_4 : decode cX3_row 4 = .ok (.ifCond .eq 18, 3) := by decide +kernel
theorem dX3_row_7 : decode cX3_row 7 = .ok (.iload_n 2, 1) := by decide +kernel
theorem dX3_row_8 : decode cX3_row 8 = .ok (.iconst 0, 1) := by decide +kernel
theorem dX3_row_9 : decode cX3_row 9 = .ok (.iconst 2, 1) := by decide +kernel
theorem dX3_row_10 : decode cX3_row 10 = .ok (.invokestatic 52, 3) := by decide +kernel
theorem dX3_row_13 : decode cX3_row 13 = .ok (.ifCond .eq 9, 3) := by decide +kernel
theorem dX3_row_16 : decode cX3_row 16 = .ok (.iload_n 3, 1) := by decide +kernel
theorem dX3_row_17 : decode cX3_row 17 = .ok (.bipush 100, 2) := by decide +kernel
theorem dX3_row_19 : decode cX3_row 19 = .ok (.if_icmp .le 5, 3) := by decide +kernel
theorem dX3_row_22 : decode cX3_row 22 = .ok (.iconst (-1), 1) := by decide +kernel
theorem dX3_row_23 : decode cX3_row 23 = .ok (.ireturn, 1) := by decide +kernel
theorem dX3_row_24 : decode cX3_row 24 = .ok (.iload_n 3, 1) := by decide +kernel
theorem dX3_row_25 : decode cX3_row 25 = .ok (.ifCond .ge 6, 3) := by decide +kernel
theorem dX3_row_28 : decode cX3_row 28 = .ok (.bipush (-14), 2) := by decide +kernel
theorem dX3_row_30 : decode cX3_row 30 = .ok (.ireturn, 1) := by decide +kernel
theorem dX3_row_31 : decode cX3_row 31 = .ok (.aload_n 0, 1) := by decide +kernel
theorem dX3_row_32 : decode cX3_row 32 = .ok (.getfield 34, 3) := by decide +kernel
theorem dX3_row_35 : decode cX3_row 35 = .ok (.iload_n 1, 1) := by decide +kernel
theorem dX3_row_36 : decode cX3_row 36 = .ok (.iconst 2, 1) := by decide +kernel
theorem dX3_row_37 : decode cX3_row 37 = .ok (.iastore, 1) := by decide +kernel
theorem dX3_row_38 : decode cX3_row 38 = .ok (.aload_n 0, 1) := by decide +kernel
theorem dX3_row_39 : decode cX3_row 39 = .ok (.getfield 43, 3) := by decide +kernel
theorem dX3_row_42 : decode cX3_row 42 = .ok (.iload_n 1, 1) := by decide +kernel
theorem dX3_row_43 : decode cX3_row 43 = .ok (.iload_n 2, 1) := by decide +kernel
theorem dX3_row_44 : decode cX3_row 44 = .ok (.iastore, 1) := by decide +kernel
theorem dX3_row_45 : decode cX3_row 45 = .ok (.aload_n 0, 1) := by decide +kernel
theorem dX3_row_46 : decode cX3_row 46 = .ok (.getfield 46, 3) := by decide +kernel
theorem dX3_row_49 : decode cX3_row 49 = .ok (.iload_n 1, 1) := by decide +kernel
theorem dX3_row_50 : decode cX3_row 50 = .ok (.iload_n 3, 1) := by decide +kernel
theorem dX3_row_51 : decode cX3_row 51 = .ok (.iastore, 1) := by decide +kernel
theorem dX3_row_52 : decode cX3_row 52 = .ok (.iconst 0, 1) := by decide +kernel
theorem dX3_row_53 : decode cX3_row 53 = .ok (.istore 4, 2) := by decide +kernel
theorem dX3_row_55 : decode cX3_row 55 = .ok (.iload 4, 2) := by decide +kernel
theorem dX3_row_57 : decode cX3_row 57 = .ok (.bipush 100, 2) := by decide +kernel
theorem dX3_row_59 : decode cX3_row 59 = .ok (.if_icmp .ge 22, 3) := by decide +kernel
theorem dX3_row_62 : decode cX3_row 62 = .ok (.aload_n 0, 1) := by decide +kernel
theorem dX3_row_63 : decode cX3_row 63 = .ok (.getfield 49, 3) := by decide +kernel
theorem dX3_row_66 : decode cX3_row 66 = .ok (.bipush 100, 2) := by decide +kernel
theorem dX3_row_68 : decode cX3_row 68 = .ok (.iload_n 1, 1) := by decide +kernel
theorem dX3_row_69 : decode cX3_row 69 = .ok (.imul, 1) := by decide +kernel
theorem dX3_row_70 : decode cX3_row 70 = .ok (.iload 4, 2) := by decide +kernel
theorem dX3_row_72 : decode cX3_row 72 = .ok (.iadd, 1) := by decide +kernel
theorem dX3_row_73 : decode cX3_row 73 = .ok (.iconst 0, 1) := by decide +kernel
theorem dX3_row_74 : decode cX3_row 74 = .ok (.iastore, 1) := by decide +kernel
theorem dX3_row_75 : decode cX3_row 75 = .ok (.iinc 4 1, 3) := by decide +kernel
theorem dX3_row_78 : decode cX3_row 78 = .ok (.goto (-23), 3) := by decide +kernel
theorem dX3_row_81 : decode cX3_row 81 = .ok (.iconst 0, 1) := by decide +kernel
theorem dX3_row_82 : decode cX3_row 82 = .ok (.ireturn, 1) := by decide +kernel
theorem dX3_put_0 : decode cX3_put 0 = .ok (.aload_n 0, 1) := by decide +kernel
theorem dX3_put_1 : decode cX3_put 1 = .ok (.iload_n 1, 1) := by decide +kernel
theorem dX3_put_2 : decode cX3_put 2 = .ok (.iconst (-1), 1) := by decide +kernel
theorem dX3_put_3 : decode cX3_put 3 = .ok (.invokevirtual 141, 3) := by decide +kernel
theorem dX3_put_6 : decode cX3_put 6 = .ok (.istore 4, 2) := by decide +kernel
theorem dX3_put_8 : decode cX3_put 8 = .ok (.iload 4, 2) := by decide +kernel
theorem dX3_put_10 : decode cX3_put 10 = .ok (.ifCond .eq 6, 3) := by decide +kernel
theorem dX3_put_13 : decode cX3_put 13 = .ok (.iload 4, 2) := by decide +kernel
theorem dX3_put_15 : decode cX3_put 15 = .ok (.ireturn, 1) := by decide +kernel
theorem dX3_put_16 : decode cX3_put 16 = .ok (.iload_n 2, 1) := by decide +kernel
theorem dX3_put_17 : decode cX3_put 17 = .ok (.iconst 0, 1) := by decide +kernel
theorem dX3_put_18 : decode cX3_put 18 = .ok (.aload_n 0, 1) := by decide +kernel
theorem dX3_put_19 : decode cX3_put 19 = .ok (.getfield 46, 3) := by decide +kernel
theorem dX3_put_22 : decode cX3_put 22 = .ok (.iload_n 1, 1) := by decide +kernel
theorem dX3_put_23 : decode cX3_put 23 = .ok (.iaload, 1) := by decide +kernel
theorem dX3_put_24 : decode cX3_put 24 = .ok (.iconst 1, 1) := by decide +kernel
theorem dX3_put_25 : decode cX3_put 25 = .ok (.isub, 1) := by decide +kernel
theorem dX3_put_26 : decode cX3_put 26 = .ok (.invokestatic 52, 3) := by decide +kernel
theorem dX3_put_29 : decode cX3_put 29 = .ok (.ifCond .ne 6, 3) := by decide +kernel
theorem dX3_put_32 : decode cX3_put 32 = .ok (.bipush (-13), 2) := by decide +kernel
theorem dX3_put_34 : decode cX3_put 34 = .ok (.ireturn, 1) := by decide +kernel
theorem dX3_put_35 : decode cX3_put 35 = .ok (.aload_n 0, 1) := by decide +kernel
theorem dX3_put_36 : decode cX3_put 36 = .ok (.getfield 49, 3) := by decide +kernel
theorem dX3_put_39 : decode cX3_put 39 = .ok (.bipush 100, 2) := by decide +kernel
theorem dX3_put_41 : decode cX3_put 41 = .ok (.iload_n 1, 1) := by decide +kernel
theorem dX3_put_42 : decode cX3_put 42 = .ok (.imul, 1) := by decide +kernel
theorem dX3_put_43 : decode cX3_put 43 = .ok (.iload_n 2, 1) := by decide +kernel
theorem dX3_put_44 : decode cX3_put 44 = .ok (.iadd, 1) := by decide +kernel
theorem dX3_put_45 : decode cX3_put 45 = .ok (.aload_n 0, 1) := by decide +kernel
theorem dX3_put_46 : decode cX3_put 46 = .ok (.getfield 43, 3) := by decide +kernel
theorem dX3_put_49 : decode cX3_put 49 = .ok (.iload_n 1, 1) := by decide +kernel
theorem dX3_put_50 : decode cX3_put 50 = .ok (.iaload, 1) := by decide +kernel
theorem dX3_put_51 : decode cX3_put 51 = .ok (.ifCond .ne 8, 3) := by decide +kernel
theorem dX3_put_54 : decode cX3_put 54 = .ok (.iload_n 3, 1) := by decide +kernel
theorem dX3_put_55 : decode cX3_put 55 = .ok (.i2b, 1) := by decide +kernel
theorem dX3_put_56 : decode cX3_put 56 = .ok (.goto 19, 3) := by decide +kernel
theorem dX3_put_59 : decode cX3_put 59 = .ok (.aload_n 0, 1) := by decide +kernel
theorem dX3_put_60 : decode cX3_put 60 = .ok (.getfield 43, 3) := by decide +kernel
theorem dX3_put_63 : decode cX3_put 63 = .ok (.iload_n 1, 1) := by decide +kernel
theorem dX3_put_64 : decode cX3_put 64 = .ok (.iaload, 1) := by decide +kernel
theorem dX3_put_65 : decode cX3_put 65 = .ok (.iconst 1, 1) := by decide +kernel
theorem dX3_put_66 : decode cX3_put 66 = .ok (.if_icmp .ne 8, 3) := by decide +kernel
theorem dX3_put_69 : decode cX3_put 69 = .ok (.iload_n 3, 1) := by decide +kernel
theorem dX3_put_70 : decode cX3_put 70 = .ok (.i2s, 1) := by decide +kernel
theorem dX3_put_71 : decode cX3_put 71 = .ok (.goto 4, 3) := by decide +kernel
theorem dX3_put_74 : decode cX3_put 74 = .ok (.iload_n 3, 1) := by decide +kernel
theorem dX3_put_75 : decode cX3_put 75 = .ok (.iastore, 1) := by decide +kernel
theorem dX3_put_76 : decode cX3_put 76 = .ok (.iconst 0, 1) := by decide +kernel
theorem dX3_put_77 : decode cX3_put 77 = .ok (.ireturn, 1) := by decide +kernel
theorem dX3_element_0 : decode cX3_element 0 = .ok (.aload_n 0, 1) := by decide +kernel
theorem dX3_element_1 : decode cX3_element 1 = .ok (.iload_n 1, 1) := by decide +kernel
theorem dX3_element_2 : decode cX3_element 2 = .ok (.invokestatic 236, 3) := by decide +kernel
theorem dX3_element_5 : decode cX3_element 5 = .ok (.ifCond .ne 7, 3) := by decide +kernel
theorem dX3_element_8 : decode cX3_element 8 = .ok (.iconst 1, 1) := by decide +kernel
theorem dX3_element_9 : decode cX3_element 9 = .ok (.goto 34, 3) := by decide +kernel
theorem dX3_element_12 : decode cX3_element 12 = .ok (.aload_n 0, 1) := by decide +kernel
theorem dX3_element_13 : decode cX3_element 13 = .ok (.getfield 34, 3) := by decide +kernel
theorem dX3_element_16 : decode cX3_element 16 = .ok (.iload_n 1, 1) := by decide +kernel
theorem dX3_element_17 : decode cX3_element 17 = .ok (.iaload, 1) := by decide +kernel
theorem dX3_element_18 : decode cX3_element 18 = .ok (.iconst 2, 1) := by decide +kernel
theorem dX3_element_19 : decode cX3_element 19 = .ok (.if_icmp .ne 19, 3) := by decide +kernel
theorem dX3_element_22 : decode cX3_element 22 = .ok (.iload_n 2, 1) := by decide +kernel
theorem dX3_element_23 : decode cX3_element 23 = .ok (.iconst 0, 1) := by decide +kernel
theorem dX3_element_24 : decode cX3_element 24 = .ok (.aload_n 0, 1) := by decide +kernel
theorem dX3_element_25 : decode cX3_element 25 = .ok (.getfield 46, 3) := by decide +kernel
theorem dX3_element_28 : decode cX3_element 28 = .ok (.iload_n 1, 1) := by decide +kernel
theorem dX3_element_29 : decode cX3_element 29 = .ok (.iaload, 1) := by decide +kernel
theorem dX3_element_30 : decode cX3_element 30 = .ok (.iconst 1, 1) := by decide +kernel
theorem dX3_element_31 : decode cX3_element 31 = .ok (.isub, 1) := by decide +kernel
theorem dX3_element_32 : decode cX3_element 32 = .ok (.invokestatic 52, 3) := by decide +kernel
theorem dX3_element_35 : decode cX3_element 35 = .ok (.ifCond .ne 7, 3) := by decide +kernel
theorem dX3_element_38 : decode cX3_element 38 = .ok (.iconst 2, 1) := by decide +kernel
theorem dX3_element_39 : decode cX3_element 39 = .ok (.goto 4, 3) := by decide +kernel
theorem dX3_element_42 : decode cX3_element 42 = .ok (.iconst 0, 1) := by decide +kernel
theorem dX3_element_43 : decode cX3_element 43 = .ok (.putfield 233, 3) := by decide +kernel
theorem dX3_element_46 : decode cX3_element 46 = .ok (.aload_n 0, 1) := by decide +kernel
theorem dX3_element_47 : decode cX3_element 47 = .ok (.getfield 233, 3) := by decide +kernel
theorem dX3_element_50 : decode cX3_element 50 = .ok (.ifCond .ne 18, 3) := by decide +kernel
theorem dX3_element_53 : decode cX3_element 53 = .ok (.aload_n 0, 1) := by decide +kernel
theorem dX3_element_54 : decode cX3_element 54 = .ok (.getfield 49, 3) := by decide +kernel
theorem dX3_element_57 : decode cX3_element 57 = .ok (.bipush 100, 2) := by decide +kernel
theorem dX3_element_59 : decode cX3_element 59 = .ok (.iload_n 1, 1) := by decide +kernel
theorem dX3_element_60 : decode cX3_element 60 = .ok (.imul, 1) := by decide +kernel
theorem dX3_element_61 : decode cX3_element 61 = .ok (.iload_n 2, 1) := by decide +kernel
theorem dX3_element_62 : decode cX3_element 62 = .ok (.iadd, 1) := by decide +kernel
theorem dX3_element_63 : decode cX3_element 63 = .ok (.iaload, 1) := by decide +kernel
theorem dX3_element_64 : decode cX3_element 64 = .ok (.i2l, 1) := by decide +kernel
theorem dX3_element_65 : decode cX3_element 65 = .ok (.goto 4, 3) := by decide +kernel
theorem dX3_element_68 : decode cX3_element 68 = .ok (.lconst 0, 1) := by decide +kernel
theorem dX3_element_69 : decode cX3_element 69 = .ok (.lreturn, 1) := by decide +kernel
theorem dX3_copy_0 : decode cX3_copy 0 = .ok (.iload_n 1, 1) := by decide +kernel
theorem dX3_copy_1 : decode cX3_copy 1 = .ok (.invokestatic 236, 3) := by decide +kernel
theorem dX3_copy_4 : decode cX3_copy 4 = .ok (.ifCond .eq 10, 3) := by decide +kernel
theorem dX3_copy_7 : decode cX3_copy 7 = .ok (.iload_n 3, 1) := by decide +kernel
theorem dX3_copy_8 : decode cX3_copy 8 = .ok (.invokestatic 236, 3) := by decide +kernel
theorem dX3_copy_11 : decode cX3_copy 11 = .ok (.ifCond .ne 5, 3) := by decide +kernel
theorem dX3_copy_14 : decode cX3_copy 14 = .ok (.iconst (-1), 1) := by decide +kernel
theorem dX3_copy_15 : decode cX3_copy 15 = .ok (.ireturn, 1) := by decide +kernel
theorem dX3_copy_16 : decode cX3_copy 16 = .ok (.aload_n 0, 1) := by decide +kernel
theorem dX3_copy_17 : decode cX3_copy 17 = .ok (.getfield 34, 3) := by decide +kernel
theorem dX3_copy_20 : decode cX3_copy 20 = .ok (.iload_n 1, 1) := by decide +kernel
theorem dX3_copy_21 : decode cX3_copy 21 = .ok (.iaload, 1) := by decide +kernel
theorem dX3_copy_22 : decode cX3_copy 22 = .ok (.ifCond .eq 12, 3) := by decide +kernel
theorem dX3_copy_25 : decode cX3_copy 25 = .ok (.aload_n 0, 1) := by decide +kernel
theorem dX3_copy_26 : decode cX3_copy 26 = .ok (.getfield 34, 3) := by decide +kernel
theorem dX3_copy_29 : decode cX3_copy 29 = .ok (.iload_n 3, 1) := by decide +kernel
theorem dX3_copy_30 : decode cX3_copy 30 = .ok (.iaload, 1) := by decide +kernel
theorem dX3_copy_31 : decode cX3_copy 31 = .ok (.ifCond .ne 6, 3) := by decide +kernel
theorem dX3_copy_34 : decode cX3_copy 34 = .ok (.bipush (-11), 2) := by decide +kernel
theorem dX3_copy_36 : decode cX3_copy 36 = .ok (.ireturn, 1) := by decide +kernel
theorem dX3_copy_37 : decode cX3_copy 37 = .ok (.aload_n 0, 1) := by decide +kernel
theorem dX3_copy_38 : decode cX3_copy 38 = .ok (.getfield 34, 3) := by decide +kernel
theorem dX3_copy_41 : decode cX3_copy 41 = .ok (.iload_n 1, 1) := by decide +kernel
theorem dX3_copy_42 : decode cX3_copy 42 = .ok (.iaload, 1) := by decide +kernel
theorem dX3_copy_43 : decode cX3_copy 43 = .ok (.iconst 2, 1) := by decide +kernel
theorem dX3_copy_44 : decode cX3_copy 44 = .ok (.if_icmp .ne 28, 3) := by decide +kernel
theorem dX3_copy_47 : decode cX3_copy 47 = .ok (.aload_n 0, 1) := by decide +kernel
theorem dX3_copy_48 : decode cX3_copy 48 = .ok (.getfield 34, 3) := by decide +kernel
theorem dX3_copy_51 : decode cX3_copy 51 = .ok (.iload_n 3, 1) := by decide +kernel
theorem dX3_copy_52 : decode cX3_copy 52 = .ok (.iaload, 1) := by decide +kernel
theorem dX3_copy_53 : decode cX3_copy 53 = .ok (.iconst 2, 1) := by decide +kernel
theorem dX3_copy_54 : decode cX3_copy 54 = .ok (.if_icmp .ne 18, 3) := by decide +kernel
theorem dX3_copy_57 : decode cX3_copy 57 = .ok (.aload_n 0, 1) := by decide +kernel
theorem dX3_copy_58 : decode cX3_copy 58 = .ok (.getfield 43, 3) := by decide +kernel
theorem dX3_copy_61 : decode cX3_copy 61 = .ok (.iload_n 1, 1) := by decide +kernel
theorem dX3_copy_62 : decode cX3_copy 62 = .ok (.iaload, 1) := by decide +kernel
theorem dX3_copy_63 : decode cX3_copy 63 = .ok (.aload_n 0, 1) := by decide +kernel
theorem dX3_copy_64 : decode cX3_copy 64 = .ok (.getfield 43, 3) := by decide +kernel
theorem dX3_copy_67 : decode cX3_copy 67 = .ok (.iload_n 3, 1) := by decide +kernel
theorem dX3_copy_68 : decode cX3_copy 68 = .ok (.iaload, 1) := by decide +kernel
theorem dX3_copy_69 : decode cX3_copy 69 = .ok (.if_icmp .eq 6, 3) := by decide +kernel
theorem dX3_copy_72 : decode cX3_copy 72 = .ok (.bipush (-12), 2) := by decide +kernel
theorem dX3_copy_74 : decode cX3_copy 74 = .ok (.ireturn, 1) := by decide +kernel
theorem dX3_copy_75 : decode cX3_copy 75 = .ok (.iload 5, 2) := by decide +kernel
theorem dX3_copy_77 : decode cX3_copy 77 = .ok (.ifCond .lt 39, 3) := by decide +kernel
theorem dX3_copy_80 : decode cX3_copy 80 = .ok (.iload_n 2, 1) := by decide +kernel
theorem dX3_copy_81 : decode cX3_copy 81 = .ok (.ifCond .lt 35, 3) := by decide +kernel
theorem dX3_copy_84 : decode cX3_copy 84 = .ok (.iload 4, 2) := by decide +kernel
theorem dX3_copy_86 : decode cX3_copy 86 = .ok (.ifCond .lt 30, 3) := by decide +kernel
theorem dX3_copy_89 : decode cX3_copy 89 = .ok (.iload 5, 2) := by decide +kernel
theorem dX3_copy_91 : decode cX3_copy 91 = .ok (.aload_n 0, 1) := by decide +kernel
theorem dX3_copy_92 : decode cX3_copy 92 = .ok (.getfield 46, 3) := by decide +kernel
theorem dX3_copy_95 : decode cX3_copy 95 = .ok (.iload_n 1, 1) := by decide +kernel
theorem dX3_copy_96 : decode cX3_copy 96 = .ok (.iaload, 1) := by decide +kernel
theorem dX3_copy_97 : decode cX3_copy 97 = .ok (.iload_n 2, 1) := by decide +kernel
theorem dX3_copy_98 : decode cX3_copy 98 = .ok (.isub, 1) := by decide +kernel
theorem dX3_copy_99 : decode cX3_copy 99 = .ok (.if_icmp .gt 17, 3) := by decide +kernel
theorem dX3_copy_102 : decode cX3_copy 102 = .ok (.iload 5, 2) := by decide +kernel
theorem dX3_copy_104 : decode cX3_copy 104 = .ok (.aload_n 0, 1) := by decide +kernel
theorem dX3_copy_105 : decode cX3_copy 105 = .ok (.getfield 46, 3) := by decide +kernel
theorem dX3_copy_108 : decode cX3_copy 108 = .ok (.iload_n 3, 1) := by decide +kernel
theorem dX3_copy_109 : decode cX3_copy 109 = .ok (.iaload, 1) := by decide +kernel
theorem dX3_copy_110 : decode cX3_copy 110 = .ok (.iload 4, 2) := by decide +kernel
theorem dX3_copy_112 : decode cX3_copy 112 = .ok (.isub, 1) := by decide +kernel
theorem dX3_copy_113 : decode cX3_copy 113 = .ok (.if_icmp .le 6, 3) := by decide +kernel
theorem dX3_copy_116 : decode cX3_copy 116 = .ok (.bipush (-13), 2) := by decide +kernel
theorem dX3_copy_118 : decode cX3_copy 118 = .ok (.ireturn, 1) := by decide +kernel
theorem dX3_copy_119 : decode cX3_copy 119 = .ok (.iconst 0, 1) := by decide +kernel
theorem dX3_copy_120 : decode cX3_copy 120 = .ok (.istore 6, 2) := by decide +kernel
theorem dX3_copy_122 : decode cX3_copy 122 = .ok (.iload 6, 2) := by decide +kernel
theorem dX3_copy_124 : decode cX3_copy 124 = .ok (.iload 5, 2) := by decide +kernel
theorem dX3_copy_126 : decode cX3_copy 126 = .ok (.if_icmp .ge 58, 3) := by decide +kernel
theorem dX3_copy_129 : decode cX3_copy 129 = .ok (.iload_n 2, 1) := by decide +kernel
theorem dX3_copy_130 : decode cX3_copy 130 = .ok (.iload 4, 2) := by decide +kernel
theorem dX3_copy_132 : decode cX3_copy 132 = .ok (.if_icmp .le 8, 3) := by decide +kernel
theorem dX3_copy_135 : decode cX3_copy 135 = .ok (.iload 6, 2) := by decide +kernel
theorem dX3_copy_137 : decode cX3_copy 137 = .ok (.goto 10, 3) := by decide +kernel
theorem dX3_copy_140 : decode cX3_copy 140 = .ok (.iload 5, 2) := by decide +kernel
theorem dX3_copy_142 : decode cX3_copy 142 = .ok (.iconst 1, 1) := by decide +kernel
theorem dX3_copy_143 : decode cX3_copy 143 = .ok (.isub, 1) := by decide +kernel
theorem dX3_copy_144 : decode cX3_copy 144 = .ok (.iload 6, 2) := by decide +kernel
theorem dX3_copy_146 : decode cX3_copy 146 = .ok (.isub, 1) := by decide +kernel
theorem dX3_copy_147 : decode cX3_copy 147 = .ok (.istore 7, 2) := by decide +kernel
theorem dX3_copy_149 : decode cX3_copy 149 = .ok (.aload_n 0, 1) := by decide +kernel
theorem dX3_copy_150 : decode cX3_copy 150 = .ok (.getfield 49, 3) := by decide +kernel
theorem dX3_copy_153 : decode cX3_copy 153 = .ok (.bipush 100, 2) := by decide +kernel
theorem dX3_copy_155 : decode cX3_copy 155 = .ok (.iload_n 3, 1) := by decide +kernel
theorem dX3_copy_156 : decode cX3_copy 156 = .ok (.imul, 1) := by decide +kernel
theorem dX3_copy_157 : decode cX3_copy 157 = .ok (.iload 4, 2) := by decide +kernel
theorem dX3_copy_159 : decode cX3_copy 159 = .ok (.iadd, 1) := by decide +kernel
theorem dX3_copy_160 : decode cX3_copy 160 = .ok (.iload 7, 2) := by decide +kernel
theorem dX3_copy_162 : decode cX3_copy 162 = .ok (.iadd, 1) := by decide +kernel
theorem dX3_copy_163 : decode cX3_copy 163 = .ok (.aload_n 0, 1) := by decide +kernel
theorem dX3_copy_164 : decode cX3_copy 164 = .ok (.getfield 49, 3) := by decide +kernel
theorem dX3_copy_167 : decode cX3_copy 167 = .ok (.bipush 100, 2) := by decide +kernel
theorem dX3_copy_169 : decode cX3_copy 169 = .ok (.iload_n 1, 1) := by decide +kernel
theorem dX3_copy_170 : decode cX3_copy 170 = .ok (.imul, 1) := by decide +kernel
theorem dX3_copy_171 : decode cX3_copy 171 = .ok (.iload_n 2, 1) := by decide +kernel
theorem dX3_copy_172 : decode cX3_copy 172 = .ok (.iadd, 1) := by decide +kernel
theorem dX3_copy_173 : decode cX3_copy 173 = .ok (.iload 7, 2) := by decide +kernel
theorem dX3_copy_175 : decode cX3_copy 175 = .ok (.iadd, 1) := by decide +kernel
theorem dX3_copy_176 : decode cX3_copy 176 = .ok (.iaload, 1) := by decide +kernel
theorem dX3_copy_177 : decode cX3_copy 177 = .ok (.iastore, 1) := by decide +kernel
theorem dX3_copy_178 : decode cX3_copy 178 = .ok (.iinc 6 1, 3) := by decide +kernel
theorem dX3_copy_181 : decode cX3_copy 181 = .ok (.goto (-59), 3) := by decide +kernel
theorem dX3_copy_184 : decode cX3_copy 184 = .ok (.iload 5, 2) := by decide +kernel
theorem dX3_copy_186 : decode cX3_copy 186 = .ok (.ireturn, 1) := by decide +kernel
theorem dX3_costBy_0 : decode cX3_costBy 0 = .ok (.iload_n 0, 1) := by decide +kernel
theorem dX3_costBy_1 : decode cX3_costBy 1 = .ok (.tableswitch 61 1 7 #[43, 47, 49, 49, 51, 54, 58], 43) := by decide +kernel
theorem dX3_costBy_44 : decode cX3_costBy 44 = .ok (.iconst 3, 1) := by decide +kernel
theorem dX3_costBy_45 : decode cX3_costBy 45 = .ok (.iload_n 1, 1) := by decide +kernel
theorem dX3_costBy_46 : decode cX3_costBy 46 = .ok (.iadd, 1) := by decide +kernel
theorem dX3_costBy_47 : decode cX3_costBy 47 = .ok (.ireturn, 1) := by decide +kernel
theorem dX3_costBy_48 : decode cX3_costBy 48 = .ok (.iconst 5, 1) := by decide +kernel
theorem dX3_costBy_49 : decode cX3_costBy 49 = .ok (.ireturn, 1) := by decide +kernel
theorem dX3_costBy_50 : decode cX3_costBy 50 = .ok (.iconst 1, 1) := by decide +kernel
theorem dX3_costBy_51 : decode cX3_costBy 51 = .ok (.ireturn, 1) := by decide +kernel
theorem dX3_costBy_52 : decode cX3_costBy 52 = .ok (.bipush 7, 2) := by decide +kernel
theorem dX3_costBy_54 : decode cX3_costBy 54 = .ok (.ireturn, 1) := by decide +kernel
theorem dX3_costBy_55 : decode cX3_costBy 55 = .ok (.iconst 1, 1) := by decide +kernel
theorem dX3_costBy_56 : decode cX3_costBy 56 = .ok (.iload_n 1, 1) := by decide +kernel
theorem dX3_costBy_57 : decode cX3_costBy 57 = .ok (.iadd, 1) := by decide +kernel
theorem dX3_costBy_58 : decode cX3_costBy 58 = .ok (.ireturn, 1) := by decide +kernel
theorem dX3_costBy_59 : decode cX3_costBy 59 = .ok (.bipush 10, 2) := by decide +kernel
theorem dX3_costBy_61 : decode cX3_costBy 61 = .ok (.ireturn, 1) := by decide +kernel
theorem dX3_costBy_62 : decode cX3_costBy 62 = .ok (.iconst 3, 1) := by decide +kernel
theorem dX3_costBy_63 : decode cX3_costBy 63 = .ok (.ireturn, 1) := by decide +kernel
theorem dX3_cost_0 : decode cX3_cost 0 = .ok (.aload_n 0, 1) := by decide +kernel
theorem dX3_cost_1 : decode cX3_cost 1 = .ok (.iload_n 1, 1) := by decide +kernel
theorem dX3_cost_2 : decode cX3_cost 2 = .ok (.invokevirtual 155, 3) := by decide +kernel
theorem dX3_cost_5 : decode cX3_cost 5 = .ok (.istore_n 2, 1) := by decide +kernel
theorem dX3_cost_6 : decode cX3_cost 6 = .ok (.iload_n 2, 1) := by decide +kernel
theorem dX3_cost_7 : decode cX3_cost 7 = .ok (.ifCond .eq 7, 3) := by decide +kernel
theorem dX3_cost_10 : decode cX3_cost 10 = .ok (.iload_n 2, 1) := by decide +kernel
theorem dX3_cost_11 : decode cX3_cost 11 = .ok (.goto 18, 3) := by decide +kernel
theorem dX3_cost_14 : decode cX3_cost 14 = .ok (.aload_n 0, 1) := by decide +kernel
theorem dX3_cost_15 : decode cX3_cost 15 = .ok (.getfield 37, 3) := by decide +kernel
theorem dX3_cost_18 : decode cX3_cost 18 = .ok (.iload_n 1, 1) := by decide +kernel
theorem dX3_cost_19 : decode cX3_cost 19 = .ok (.iaload, 1) := by decide +kernel
theorem dX3_cost_20 : decode cX3_cost 20 = .ok (.aload_n 0, 1) := by decide +kernel
theorem dX3_cost_21 : decode cX3_cost 21 = .ok (.getfield 40, 3) := by decide +kernel
theorem dX3_cost_24 : decode cX3_cost 24 = .ok (.iload_n 1, 1) := by decide +kernel
theorem dX3_cost_25 : decode cX3_cost 25 = .ok (.iaload, 1) := by decide +kernel
theorem dX3_cost_26 : decode cX3_cost 26 = .ok (.invokestatic 239, 3) := by decide +kernel
theorem dX3_cost_29 : decode cX3_cost 29 = .ok (.ireturn, 1) := by decide +kernel
theorem dX3_toss_0 : decode cX3_toss 0 = .ok (.aload_n 0, 1) := by decide +kernel
theorem dX3_toss_1 : decode cX3_toss 1 = .ok (.iload_n 1, 1) := by decide +kernel
theorem dX3_toss_2 : decode cX3_toss 2 = .ok (.invokevirtual 155, 3) := by decide +kernel
theorem dX3_toss_5 : decode cX3_toss 5 = .ok (.istore_n 2, 1) := by decide +kernel
theorem dX3_toss_6 : decode cX3_toss 6 = .ok (.iload_n 2, 1) := by decide +kernel
theorem dX3_toss_7 : decode cX3_toss 7 = .ok (.ifCond .eq 5, 3) := by decide +kernel
theorem dX3_toss_10 : decode cX3_toss 10 = .ok (.iload_n 2, 1) := by decide +kernel
theorem dX3_toss_11 : decode cX3_toss 11 = .ok (.ireturn, 1) := by decide +kernel
theorem dX3_toss_12 : decode cX3_toss 12 = .ok (.aload_n 0, 1) := by decide +kernel
theorem dX3_toss_13 : decode cX3_toss 13 = .ok (.getfield 37, 3) := by decide +kernel
theorem dX3_toss_16 : decode cX3_toss 16 = .ok (.iload_n 1, 1) := by decide +kernel
theorem dX3_toss_17 : decode cX3_toss 17 = .ok (.iaload, 1) := by decide +kernel
theorem dX3_toss_18 : decode cX3_toss 18 = .ok (.istore_n 3, 1) := by decide +kernel
theorem dX3_toss_19 : decode cX3_toss 19 = .ok (.aload_n 0, 1) := by decide +kernel
theorem dX3_toss_20 : decode cX3_toss 20 = .ok (.getfield 40, 3) := by decide +kernel
theorem dX3_toss_23 : decode cX3_toss 23 = .ok (.iload_n 1, 1) := by decide +kernel
theorem dX3_toss_24 : decode cX3_toss 24 = .ok (.iaload, 1) := by decide +kernel
theorem dX3_toss_25 : decode cX3_toss 25 = .ok (.istore 4, 2) := by decide +kernel
theorem dX3_toss_27 : decode cX3_toss 27 = .ok (.iload_n 3, 1) := by decide +kernel
theorem dX3_toss_28 : decode cX3_toss 28 = .ok (.iconst 3, 1) := by decide +kernel
theorem dX3_toss_29 : decode cX3_toss 29 = .ok (.if_icmp .eq 14, 3) := by decide +kernel
theorem dX3_toss_32 : decode cX3_toss 32 = .ok (.iload_n 3, 1) := by decide +kernel
theorem dX3_toss_33 : decode cX3_toss 33 = .ok (.bipush 6, 2) := by decide +kernel
theorem dX3_toss_35 : decode cX3_toss 35 = .ok (.if_icmp .eq 8, 3) := by decide +kernel
theorem dX3_toss_38 : decode cX3_toss 38 = .ok (.iload 4, 2) := by decide +kernel
theorem dX3_toss_40 : decode cX3_toss 40 = .ok (.ifCond .ne 6, 3) := by decide +kernel
theorem dX3_toss_43 : decode cX3_toss 43 = .ok (.bipush (-15), 2) := by decide +kernel
theorem dX3_toss_45 : decode cX3_toss 45 = .ok (.ireturn, 1) := by decide +kernel
theorem dX3_toss_46 : decode cX3_toss 46 = .ok (.iload_n 3, 1) := by decide +kernel
theorem dX3_toss_47 : decode cX3_toss 47 = .ok (.bipush 7, 2) := by decide +kernel
theorem dX3_toss_49 : decode cX3_toss 49 = .ok (.if_icmp .ne 16, 3) := by decide +kernel
theorem dX3_toss_52 : decode cX3_toss 52 = .ok (.sipush 200, 3) := by decide +kernel
theorem dX3_toss_55 : decode cX3_toss 55 = .ok (.iload_n 3, 1) := by decide +kernel
theorem dX3_toss_56 : decode cX3_toss 56 = .ok (.iload 4, 2) := by decide +kernel
theorem dX3_toss_58 : decode cX3_toss 58 = .ok (.invokestatic 239, 3) := by decide +kernel
theorem dX3_toss_61 : decode cX3_toss 61 = .ok (.iadd, 1) := by decide +kernel
theorem dX3_toss_62 : decode cX3_toss 62 = .ok (.goto 18, 3) := by decide +kernel
theorem dX3_toss_65 : decode cX3_toss 65 = .ok (.iload_n 3, 1) := by decide +kernel
theorem dX3_toss_66 : decode cX3_toss 66 = .ok (.iconst 2, 1) := by decide +kernel
theorem dX3_toss_67 : decode cX3_toss 67 = .ok (.if_icmp .ne 11, 3) := by decide +kernel
theorem dX3_toss_70 : decode cX3_toss 70 = .ok (.bipush 100, 2) := by decide +kernel
theorem dX3_toss_72 : decode cX3_toss 72 = .ok (.iload 4, 2) := by decide +kernel
theorem dX3_toss_74 : decode cX3_toss 74 = .ok (.iadd, 1) := by decide +kernel
theorem dX3_toss_75 : decode cX3_toss 75 = .ok (.goto 5, 3) := by decide +kernel
theorem dX3_toss_78 : decode cX3_toss 78 = .ok (.iload 4, 2) := by decide +kernel
theorem dX3_toss_80 : decode cX3_toss 80 = .ok (.ireturn, 1) := by decide +kernel
theorem dJ6_bitCount_0f7a4_0 : decode cJ6_bitCount_0f7a4 0 = .ok (.iload_n 0, 1) := by decide +kernel
theorem dJ6_bitCount_0f7a4_1 : decode cJ6_bitCount_0f7a4 1 = .ok (.iload_n 0, 1) := by decide +kernel
theorem dJ6_bitCount_0f7a4_2 : decode cJ6_bitCount_0f7a4 2 = .ok (.iconst 1, 1) := by decide +kernel
theorem dJ6_bitCount_0f7a4_3 : decode cJ6_bitCount_0f7a4 3 = .ok (.iushr, 1) := by decide +kernel
theorem dJ6_bitCount_0f7a4_4 : decode cJ6_bitCount_0f7a4 4 = .ok (.ldc_w 265, 3) := by decide +kernel
theorem dJ6_bitCount_0f7a4_7 : decode cJ6_bitCount_0f7a4 7 = .ok (.iand, 1) := by decide +kernel
theorem dJ6_bitCount_0f7a4_8 : decode cJ6_bitCount_0f7a4 8 = .ok (.isub, 1) := by decide +kernel
theorem dJ6_bitCount_0f7a4_9 : decode cJ6_bitCount_0f7a4 9 = .ok (.istore_n 0, 1) := by decide +kernel
theorem dJ6_bitCount_0f7a4_10 : decode cJ6_bitCount_0f7a4 10 = .ok (.iload_n 0, 1) := by decide +kernel
theorem dJ6_bitCount_0f7a4_11 : decode cJ6_bitCount_0f7a4 11 = .ok (.ldc_w 266, 3) := by decide +kernel
theorem dJ6_bitCount_0f7a4_14 : decode cJ6_bitCount_0f7a4 14 = .ok (.iand, 1) := by decide +kernel
theorem dJ6_bitCount_0f7a4_15 : decode cJ6_bitCount_0f7a4 15 = .ok (.iload_n 0, 1) := by decide +kernel
theorem dJ6_bitCount_0f7a4_16 : decode cJ6_bitCount_0f7a4 16 = .ok (.iconst 2, 1) := by decide +kernel
theorem dJ6_bitCount_0f7a4_17 : decode cJ6_bitCount_0f7a4 17 = .ok (.iushr, 1) := by decide +kernel
theorem dJ6_bitCount_0f7a4_18 : decode cJ6_bitCount_0f7a4 18 = .ok (.ldc_w 266, 3) := by decide +kernel
theorem dJ6_bitCount_0f7a4_21 : decode cJ6_bitCount_0f7a4 21 = .ok (.iand, 1) := by decide +kernel
theorem dJ6_bitCount_0f7a4_22 : decode cJ6_bitCount_0f7a4 22 = .ok (.iadd, 1) := by decide +kernel
theorem dJ6_bitCount_0f7a4_23 : decode cJ6_bitCount_0f7a4 23 = .ok (.istore_n 0, 1) := by decide +kernel
theorem dJ6_bitCount_0f7a4_24 : decode cJ6_bitCount_0f7a4 24 = .ok (.iload_n 0, 1) := by decide +kernel
theorem dJ6_bitCount_0f7a4_25 : decode cJ6_bitCount_0f7a4 25 = .ok (.iload_n 0, 1) := by decide +kernel
theorem dJ6_bitCount_0f7a4_26 : decode cJ6_bitCount_0f7a4 26 = .ok (.iconst 4, 1) := by decide +kernel
theorem dJ6_bitCount_0f7a4_27 : decode cJ6_bitCount_0f7a4 27 = .ok (.iushr, 1) := by decide +kernel
theorem dJ6_bitCount_0f7a4_28 : decode cJ6_bitCount_0f7a4 28 = .ok (.iadd, 1) := by decide +kernel
theorem dJ6_bitCount_0f7a4_29 : decode cJ6_bitCount_0f7a4 29 = .ok (.ldc_w 267, 3) := by decide +kernel
theorem dJ6_bitCount_0f7a4_32 : decode cJ6_bitCount_0f7a4 32 = .ok (.iand, 1) := by decide +kernel
theorem dJ6_bitCount_0f7a4_33 : decode cJ6_bitCount_0f7a4 33 = .ok (.istore_n 0, 1) := by decide +kernel
theorem dJ6_bitCount_0f7a4_34 : decode cJ6_bitCount_0f7a4 34 = .ok (.iload_n 0, 1) := by decide +kernel
theorem dJ6_bitCount_0f7a4_35 : decode cJ6_bitCount_0f7a4 35 = .ok (.iload_n 0, 1) := by decide +kernel
theorem dJ6_bitCount_0f7a4_36 : decode cJ6_bitCount_0f7a4 36 = .ok (.bipush 8, 2) := by decide +kernel
theorem dJ6_bitCount_0f7a4_38 : decode cJ6_bitCount_0f7a4 38 = .ok (.iushr, 1) := by decide +kernel
theorem dJ6_bitCount_0f7a4_39 : decode cJ6_bitCount_0f7a4 39 = .ok (.iadd, 1) := by decide +kernel
theorem dJ6_bitCount_0f7a4_40 : decode cJ6_bitCount_0f7a4 40 = .ok (.istore_n 0, 1) := by decide +kernel
theorem dJ6_bitCount_0f7a4_41 : decode cJ6_bitCount_0f7a4 41 = .ok (.iload_n 0, 1) := by decide +kernel
theorem dJ6_bitCount_0f7a4_42 : decode cJ6_bitCount_0f7a4 42 = .ok (.iload_n 0, 1) := by decide +kernel
theorem dJ6_bitCount_0f7a4_43 : decode cJ6_bitCount_0f7a4 43 = .ok (.bipush 16, 2) := by decide +kernel
theorem dJ6_bitCount_0f7a4_45 : decode cJ6_bitCount_0f7a4 45 = .ok (.iushr, 1) := by decide +kernel
theorem dJ6_bitCount_0f7a4_46 : decode cJ6_bitCount_0f7a4 46 = .ok (.iadd, 1) := by decide +kernel
theorem dJ6_bitCount_0f7a4_47 : decode cJ6_bitCount_0f7a4 47 = .ok (.istore_n 0, 1) := by decide +kernel
theorem dJ6_bitCount_0f7a4_48 : decode cJ6_bitCount_0f7a4 48 = .ok (.iload_n 0, 1) := by decide +kernel
theorem dJ6_bitCount_0f7a4_49 : decode cJ6_bitCount_0f7a4 49 = .ok (.bipush 63, 2) := by decide +kernel
theorem dJ6_bitCount_0f7a4_51 : decode cJ6_bitCount_0f7a4 51 = .ok (.iand, 1) := by decide +kernel
theorem dJ6_bitCount_0f7a4_52 : decode cJ6_bitCount_0f7a4 52 = .ok (.ireturn, 1) := by decide +kernel
theorem dJ9_max_7cf53_0 : decode cJ9_max_7cf53 0 = .ok (.iload_n 0, 1) := by decide +kernel
theorem dJ9_max_7cf53_1 : decode cJ9_max_7cf53 1 = .ok (.iload_n 1, 1) := by decide +kernel
theorem dJ9_max_7cf53_2 : decode cJ9_max_7cf53 2 = .ok (.if_icmp .lt 7, 3) := by decide +kernel
theorem dJ9_max_7cf53_5 : decode cJ9_max_7cf53 5 = .ok (.iload_n 0, 1) := by decide +kernel
theorem dJ9_max_7cf53_6 : decode cJ9_max_7cf53 6 = .ok (.goto 4, 3) := by decide +kernel
theorem dJ9_max_7cf53_9 : decode cJ9_max_7cf53 9 = .ok (.iload_n 1, 1) := by decide +kernel
theorem dJ9_max_7cf53_10 : decode cJ9_max_7cf53 10 = .ok (.ireturn, 1) := by decide +kernel
theorem dJ9_min_7cf53_0 : decode cJ9_min_7cf53 0 = .ok (.iload_n 0, 1) := by decide +kernel
theorem dJ9_min_7cf53_1 : decode cJ9_min_7cf53 1 = .ok (.iload_n 1, 1) := by decide +kernel
theorem dJ9_min_7cf53_2 : decode cJ9_min_7cf53 2 = .ok (.if_icmp .gt 7, 3) := by decide +kernel
theorem dJ9_min_7cf53_5 : decode cJ9_min_7cf53 5 = .ok (.iload_n 0, 1) := by decide +kernel
theorem dJ9_min_7cf53_6 : decode cJ9_min_7cf53 6 = .ok (.goto 4, 3) := by decide +kernel
theorem dJ9_min_7cf53_9 : decode cJ9_min_7cf53 9 = .ok (.iload_n 1, 1) := by decide +kernel
theorem dJ9_min_7cf53_10 : decode cJ9_min_7cf53 10 = .ok (.ireturn, 1) := by decide +kernel
theorem dJ7_fill_d0a16_0 : decode cJ7_fill_d0a16 0 = .ok (.iconst 0, 1) := by decide +kernel
theorem dJ7_fill_d0a16_1 : decode cJ7_fill_d0a16 1 = .ok (.istore_n 3, 1) := by decide +kernel
theorem dJ7_fill_d0a16_2 : decode cJ7_fill_d0a16 2 = .ok (.aload_n 0, 1) := by decide +kernel
theorem dJ7_fill_d0a16_3 : decode cJ7_fill_d0a16 3 = .ok (.arraylength, 1) := by decide +kernel
theorem dJ7_fill_d0a16_4 : decode cJ7_fill_d0a16 4 = .ok (.istore 4, 2) := by decide +kernel
theorem dJ7_fill_d0a16_6 : decode cJ7_fill_d0a16 6 = .ok (.iload_n 3, 1) := by decide +kernel
theorem dJ7_fill_d0a16_7 : decode cJ7_fill_d0a16 7 = .ok (.iload 4, 2) := by decide +kernel
theorem dJ7_fill_d0a16_9 : decode cJ7_fill_d0a16 9 = .ok (.if_icmp .ge 13, 3) := by decide +kernel
theorem dJ7_fill_d0a16_12 : decode cJ7_fill_d0a16 12 = .ok (.aload_n 0, 1) := by decide +kernel
theorem dJ7_fill_d0a16_13 : decode cJ7_fill_d0a16 13 = .ok (.iload_n 3, 1) := by decide +kernel
theorem dJ7_fill_d0a16_14 : decode cJ7_fill_d0a16 14 = .ok (.lload_n 1, 1) := by decide +kernel
theorem dJ7_fill_d0a16_15 : decode cJ7_fill_d0a16 15 = .ok (.lastore, 1) := by decide +kernel
theorem dJ7_fill_d0a16_16 : decode cJ7_fill_d0a16 16 = .ok (.iinc 3 1, 3) := by decide +kernel
theorem dJ7_fill_d0a16_19 : decode cJ7_fill_d0a16 19 = .ok (.goto (-13), 3) := by decide +kernel
theorem dJ7_fill_d0a16_22 : decode cJ7_fill_d0a16 22 = .ok (.return_, 1) := by decide +kernel
theorem dJ7_fill_53178_0 : decode cJ7_fill_53178 0 = .ok (.iconst 0, 1) := by decide +kernel
theorem dJ7_fill_53178_1 : decode cJ7_fill_53178 1 = .ok (.istore_n 2, 1) := by decide +kernel
theorem dJ7_fill_53178_2 : decode cJ7_fill_53178 2 = .ok (.aload_n 0, 1) := by decide +kernel
theorem dJ7_fill_53178_3 : decode cJ7_fill_53178 3 = .ok (.arraylength, 1) := by decide +kernel
theorem dJ7_fill_53178_4 : decode cJ7_fill_53178 4 = .ok (.istore_n 3, 1) := by decide +kernel
theorem dJ7_fill_53178_5 : decode cJ7_fill_53178 5 = .ok (.iload_n 2, 1) := by decide +kernel
theorem dJ7_fill_53178_6 : decode cJ7_fill_53178 6 = .ok (.iload_n 3, 1) := by decide +kernel
theorem dJ7_fill_53178_7 : decode cJ7_fill_53178 7 = .ok (.if_icmp .ge 13, 3) := by decide +kernel
theorem dJ7_fill_53178_10 : decode cJ7_fill_53178 10 = .ok (.aload_n 0, 1) := by decide +kernel
theorem dJ7_fill_53178_11 : decode cJ7_fill_53178 11 = .ok (.iload_n 2, 1) := by decide +kernel
theorem dJ7_fill_53178_12 : decode cJ7_fill_53178 12 = .ok (.iload_n 1, 1) := by decide +kernel
theorem dJ7_fill_53178_13 : decode cJ7_fill_53178 13 = .ok (.iastore, 1) := by decide +kernel
theorem dJ7_fill_53178_14 : decode cJ7_fill_53178 14 = .ok (.iinc 2 1, 3) := by decide +kernel
theorem dJ7_fill_53178_17 : decode cJ7_fill_53178 17 = .ok (.goto (-12), 3) := by decide +kernel
theorem dJ7_fill_53178_20 : decode cJ7_fill_53178 20 = .ok (.return_, 1) := by decide +kernel
theorem dL_element_0 : decode cL_element 0 = .ok (.aload_n 3, 1) := by decide +kernel
theorem dL_element_1 : decode cL_element 1 = .ok (.iconst 0, 1) := by decide +kernel
theorem dL_element_2 : decode cL_element 2 = .ok (.aload_n 0, 1) := by decide +kernel
theorem dL_element_3 : decode cL_element 3 = .ok (.iload_n 1, 1) := by decide +kernel
theorem dL_element_4 : decode cL_element 4 = .ok (.iload_n 2, 1) := by decide +kernel
theorem dL_element_5 : decode cL_element 5 = .ok (.invokevirtual 7, 3) := by decide +kernel
theorem dL_element_8 : decode cL_element 8 = .ok (.lastore, 1) := by decide +kernel
theorem dL_element_9 : decode cL_element 9 = .ok (.goto 11, 3) := by decide +kernel
theorem dL_element_12 : decode cL_element 12 = .ok (.astore 4, 2) := by decide +kernel
theorem dL_element_14 : decode cL_element 14 = .ok (.iconst 1, 1) := by decide +kernel
theorem dL_element_15 : decode cL_element 15 = .ok (.ireturn, 1) := by decide +kernel
theorem dL_element_16 : decode cL_element 16 = .ok (.astore 4, 2) := by decide +kernel
theorem dL_element_18 : decode cL_element 18 = .ok (.iconst 2, 1) := by decide +kernel
theorem dL_element_19 : decode cL_element 19 = .ok (.ireturn, 1) := by decide +kernel
theorem dL_element_20 : decode cL_element 20 = .ok (.iconst 0, 1) := by decide +kernel
theorem dL_element_21 : decode cL_element 21 = .ok (.ireturn, 1) := by decide +kernel
theorem dL_law_0 : decode cL_law 0 = .ok (.new 8, 3) := by decide +kernel
theorem dL_law_3 : decode cL_law 3 = .ok (.dup, 1) := by decide +kernel
theorem dL_law_4 : decode cL_law 4 = .ok (.invokespecial 17, 3) := by decide +kernel
theorem dL_law_7 : decode cL_law 7 = .ok (.astore_n 1, 1) := by decide +kernel
theorem dL_law_8 : decode cL_law 8 = .ok (.new 18, 3) := by decide +kernel
theorem dL_law_11 : decode cL_law 11 = .ok (.dup, 1) := by decide +kernel
theorem dL_law_12 : decode cL_law 12 = .ok (.invokespecial 20, 3) := by decide +kernel
theorem dL_law_15 : decode cL_law 15 = .ok (.astore_n 2, 1) := by decide +kernel
theorem dL_law_16 : decode cL_law 16 = .ok (.iconst 1, 1) := by decide +kernel
theorem dL_law_17 : decode cL_law 17 = .ok (.newarray .long, 2) := by decide +kernel
theorem dL_law_19 : decode cL_law 19 = .ok (.astore_n 3, 1) := by decide +kernel
theorem dL_law_20 : decode cL_law 20 = .ok (.iconst 0, 1) := by decide +kernel
theorem dL_law_21 : decode cL_law 21 = .ok (.istore 4, 2) := by decide +kernel
theorem dL_law_23 : decode cL_law 23 = .ok (.iload 4, 2) := by decide +kernel
theorem dL_law_25 : decode cL_law 25 = .ok (.aload_n 0, 1) := by decide +kernel
theorem dL_law_26 : decode cL_law 26 = .ok (.arraylength, 1) := by decide +kernel
theorem dL_law_27 : decode cL_law 27 = .ok (.bipush 6, 2) := by decide +kernel
theorem dL_law_29 : decode cL_law 29 = .ok (.isub, 1) := by decide +kernel
theorem dL_law_30 : decode cL_law 30 = .ok (.if_icmp .gt 1529, 3) := by decide +kernel
theorem dL_law_33 : decode cL_law 33 = .ok (.aload_n 0, 1) := by decide +kernel
theorem dL_law_34 : decode cL_law 34 = .ok (.iload 4, 2) := by decide +kernel
theorem dL_law_36 : decode cL_law 36 = .ok (.iaload, 1) := by decide +kernel
theorem dL_law_37 : decode cL_law 37 = .ok (.bipush 63, 2) := by decide +kernel
theorem dL_law_39 : decode cL_law 39 = .ok (.iand, 1) := by decide +kernel
theorem dL_law_40 : decode cL_law 40 = .ok (.tableswitch 1513 0 40 #[180, 205, 242, 267, 304, 329, 354, 391, 416, 465, 478, 515, 552, 577, 602, 627, 652, 677, 702, 739, 764, 789, 814, 839, 864, 914, 963, 989, 1014, 1039, 1064, 1113, 1126, 1139, 1164, 1225, 1274, 1323, 1390, 1463, 1488], 180) := by decide +kernel
theorem dL_law_220 : decode cL_law 220 = .ok (.aload_n 1, 1) := by decide +kernel
theorem dL_law_221 : decode cL_law 221 = .ok (.aload_n 0, 1) := by decide +kernel
theorem dL_law_222 : decode cL_law 222 = .ok (.iload 4, 2) := by decide +kernel
theorem dL_law_224 : decode cL_law 224 = .ok (.iconst 1, 1) := by decide +kernel
theorem dL_law_225 : decode cL_law 225 = .ok (.iadd, 1) := by decide +kernel
theorem dL_law_226 : decode cL_law 226 = .ok (.iaload, 1) := by decide +kernel
theorem dL_law_227 : decode cL_law 227 = .ok (.invokevirtual 21, 3) := by decide +kernel
theorem dL_law_230 : decode cL_law 230 = .ok (.aload_n 2, 1) := by decide +kernel
theorem dL_law_231 : decode cL_law 231 = .ok (.aload_n 0, 1) := by decide +kernel
theorem dL_law_232 : decode cL_law 232 = .ok (.iload 4, 2) := by decide +kernel
theorem dL_law_234 : decode cL_law 234 = .ok (.iconst 1, 1) := by decide +kernel
theorem dL_law_235 : decode cL_law 235 = .ok (.iadd, 1) := by decide +kernel
theorem dL_law_236 : decode cL_law 236 = .ok (.iaload, 1) := by decide +kernel
theorem dL_law_237 : decode cL_law 237 = .ok (.invokevirtual 25, 3) := by decide +kernel
theorem dL_law_240 : decode cL_law 240 = .ok (.if_icmp .eq 1313, 3) := by decide +kernel
theorem dL_law_243 : decode cL_law 243 = .ok (.iconst 0, 1) := by decide +kernel
theorem dL_law_244 : decode cL_law 244 = .ok (.ireturn, 1) := by decide +kernel
theorem dL_law_245 : decode cL_law 245 = .ok (.aload_n 1, 1) := by decide +kernel
theorem dL_law_246 : decode cL_law 246 = .ok (.aload_n 0, 1) := by decide +kernel
theorem dL_law_247 : decode cL_law 247 = .ok (.iload 4, 2) := by decide +kernel
theorem dL_law_249 : decode cL_law 249 = .ok (.iconst 1, 1) := by decide +kernel
theorem dL_law_250 : decode cL_law 250 = .ok (.iadd, 1) := by decide +kernel
theorem dL_law_251 : decode cL_law 251 = .ok (.iaload, 1) := by decide +kernel
theorem dL_law_252 : decode cL_law 252 = .ok (.aload_n 0, 1) := by decide +kernel
theorem dL_law_253 : decode cL_law 253 = .ok (.iload 4, 2) := by decide +kernel
theorem dL_law_255 : decode cL_law 255 = .ok (.iconst 2, 1) := by decide +kernel
theorem dL_law_256 : decode cL_law 256 = .ok (.iadd, 1) := by decide +kernel
theorem dL_law_257 : decode cL_law 257 = .ok (.iaload, 1) := by decide +kernel
theorem dL_law_258 : decode cL_law 258 = .ok (.invokevirtual 26, 3) := by decide +kernel
theorem dL_law_261 : decode cL_law 261 = .ok (.aload_n 2, 1) := by decide +kernel
theorem dL_law_262 : decode cL_law 262 = .ok (.aload_n 0, 1) := by decide +kernel
theorem dL_law_263 : decode cL_law 263 = .ok (.iload 4, 2) := by decide +kernel
theorem dL_law_265 : decode cL_law 265 = .ok (.iconst 1, 1) := by decide +kernel
theorem dL_law_266 : decode cL_law 266 = .ok (.iadd, 1) := by decide +kernel
theorem dL_law_267 : decode cL_law 267 = .ok (.iaload, 1) := by decide +kernel
theorem dL_law_268 : decode cL_law 268 = .ok (.aload_n 0, 1) := by decide +kernel
theorem dL_law_269 : decode cL_law 269 = .ok (.iload 4, 2) := by decide +kernel
theorem dL_law_271 : decode cL_law 271 = .ok (.iconst 2, 1) := by decide +kernel
theorem dL_law_272 : decode cL_law 272 = .ok (.iadd, 1) := by decide +kernel
theorem dL_law_273 : decode cL_law 273 = .ok (.iaload, 1) := by decide +kernel
theorem dL_law_274 : decode cL_law 274 = .ok (.invokevirtual 30, 3) := by decide +kernel
theorem dL_law_277 : decode cL_law 277 = .ok (.if_icmp .eq 1276, 3) := by decide +kernel
theorem dL_law_280 : decode cL_law 280 = .ok (.iconst 0, 1) := by decide +kernel
theorem dL_law_281 : decode cL_law 281 = .ok (.ireturn, 1) := by decide +kernel
theorem dL_law_282 : decode cL_law 282 = .ok (.aload_n 1, 1) := by decide +kernel
theorem dL_law_283 : decode cL_law 283 = .ok (.aload_n 0, 1) := by decide +kernel
theorem dL_law_284 : decode cL_law 284 = .ok (.iload 4, 2) := by decide +kernel
theorem dL_law_286 : decode cL_law 286 = .ok (.iconst 1, 1) := by decide +kernel
theorem dL_law_287 : decode cL_law 287 = .ok (.iadd, 1) := by decide +kernel
theorem dL_law_288 : decode cL_law 288 = .ok (.iaload, 1) := by decide +kernel
theorem dL_law_289 : decode cL_law 289 = .ok (.invokevirtual 31, 3) := by decide +kernel
theorem dL_law_292 : decode cL_law 292 = .ok (.aload_n 2, 1) := by decide +kernel
theorem dL_law_293 : decode cL_law 293 = .ok (.aload_n 0, 1) := by decide +kernel
theorem dL_law_294 : decode cL_law 294 = .ok (.iload 4, 2) := by decide +kernel
theorem dL_law_296 : decode cL_law 296 = .ok (.iconst 1, 1) := by decide +kernel
theorem dL_law_297 : decode cL_law 297 = .ok (.iadd, 1) := by decide +kernel
theorem dL_law_298 : decode cL_law 298 = .ok (.iaload, 1) := by decide +kernel
theorem dL_law_299 : decode cL_law 299 = .ok (.invokevirtual 34, 3) := by decide +kernel
theorem dL_law_302 : decode cL_law 302 = .ok (.if_icmp .eq 1251, 3) := by decide +kernel
theorem dL_law_305 : decode cL_law 305 = .ok (.iconst 0, 1) := by decide +kernel
theorem dL_law_306 : decode cL_law 306 = .ok (.ireturn, 1) := by decide +kernel
theorem dL_law_307 : decode cL_law 307 = .ok (.aload_n 1, 1) := by decide +kernel
theorem dL_law_308 : decode cL_law 308 = .ok (.aload_n 0, 1) := by decide +kernel
theorem dL_law_309 : decode cL_law 309 = .ok (.iload 4, 2) := by decide +kernel
theorem dL_law_311 : decode cL_law 311 = .ok (.iconst 1, 1) := by decide +kernel
theorem dL_law_312 : decode cL_law 312 = .ok (.iadd, 1) := by decide +kernel
theorem dL_law_313 : decode cL_law 313 = .ok (.iaload, 1) := by decide +kernel
theorem dL_law_314 : decode cL_law 314 = .ok (.aload_n 0, 1) := by decide +kernel
theorem dL_law_315 : decode cL_law 315 = .ok (.iload 4, 2) := by decide +kernel
theorem dL_law_317 : decode cL_law 317 = .ok (.iconst 2, 1) := by decide +kernel
theorem dL_law_318 : decode cL_law 318 = .ok (.iadd, 1) := by decide +kernel
theorem dL_law_319 : decode cL_law 319 = .ok (.iaload, 1) := by decide +kernel
theorem dL_law_320 : decode cL_law 320 = .ok (.invokevirtual 35, 3) := by decide +kernel
theorem dL_law_323 : decode cL_law 323 = .ok (.aload_n 2, 1) := by decide +kernel
theorem dL_law_324 : decode cL_law 324 = .ok (.aload_n 0, 1) := by decide +kernel
theorem dL_law_325 : decode cL_law 325 = .ok (.iload 4, 2) := by decide +kernel
theorem dL_law_327 : decode cL_law 327 = .ok (.iconst 1, 1) := by decide +kernel
theorem dL_law_328 : decode cL_law 328 = .ok (.iadd, 1) := by decide +kernel
theorem dL_law_329 : decode cL_law 329 = .ok (.iaload, 1) := by decide +kernel
theorem dL_law_330 : decode cL_law 330 = .ok (.aload_n 0, 1) := by decide +kernel
theorem dL_law_331 : decode cL_law 331 = .ok (.iload 4, 2) := by decide +kernel
theorem dL_law_333 : decode cL_law 333 = .ok (.iconst 2, 1) := by decide +kernel
theorem dL_law_334 : decode cL_law 334 = .ok (.iadd, 1) := by decide +kernel
theorem dL_law_335 : decode cL_law 335 = .ok (.iaload, 1) := by decide +kernel
theorem dL_law_336 : decode cL_law 336 = .ok (.invokevirtual 38, 3) := by decide +kernel
theorem dL_law_339 : decode cL_law 339 = .ok (.if_icmp .eq 1214, 3) := by decide +kernel
theorem dL_law_342 : decode cL_law 342 = .ok (.iconst 0, 1) := by decide +kernel
theorem dL_law_343 : decode cL_law 343 = .ok (.ireturn, 1) := by decide +kernel
theorem dL_law_344 : decode cL_law 344 = .ok (.aload_n 1, 1) := by decide +kernel
theorem dL_law_345 : decode cL_law 345 = .ok (.aload_n 0, 1) := by decide +kernel
theorem dL_law_346 : decode cL_law 346 = .ok (.iload 4, 2) := by decide +kernel
theorem dL_law_348 : decode cL_law 348 = .ok (.iconst 1, 1) := by decide +kernel
theorem dL_law_349 : decode cL_law 349 = .ok (.iadd, 1) := by decide +kernel
theorem dL_law_350 : decode cL_law 350 = .ok (.iaload, 1) := by decide +kernel
theorem dL_law_351 : decode cL_law 351 = .ok (.invokevirtual 39, 3) := by decide +kernel
theorem dL_law_354 : decode cL_law 354 = .ok (.aload_n 2, 1) := by decide +kernel
theorem dL_law_355 : decode cL_law 355 = .ok (.aload_n 0, 1) := by decide +kernel
theorem dL_law_356 : decode cL_law 356 = .ok (.iload 4, 2) := by decide +kernel
theorem dL_law_358 : decode cL_law 358 = .ok (.iconst 1, 1) := by decide +kernel
theorem dL_law_359 : decode cL_law 359 = .ok (.iadd, 1) := by decide +kernel
theorem dL_law_360 : decode cL_law 360 = .ok (.iaload, 1) := by decide +kernel
theorem dL_law_361 : decode cL_law 361 = .ok (.invokevirtual 42, 3) := by decide +kernel
theorem dL_law_364 : decode cL_law 364 = .ok (.if_icmp .eq 1189, 3) := by decide +kernel
theorem dL_law_367 : decode cL_law 367 = .ok (.iconst 0, 1) := by decide +kernel
theorem dL_law_368 : decode cL_law 368 = .ok (.ireturn, 1) := by decide +kernel
theorem dL_law_369 : decode cL_law 369 = .ok (.aload_n 1, 1) := by decide +kernel
theorem dL_law_370 : decode cL_law 370 = .ok (.aload_n 0, 1) := by decide +kernel
theorem dL_law_371 : decode cL_law 371 = .ok (.iload 4, 2) := by decide +kernel
theorem dL_law_373 : decode cL_law 373 = .ok (.iconst 1, 1) := by decide +kernel
theorem dL_law_374 : decode cL_law 374 = .ok (.iadd, 1) := by decide +kernel
theorem dL_law_375 : decode cL_law 375 = .ok (.iaload, 1) := by decide +kernel
theorem dL_law_376 : decode cL_law 376 = .ok (.invokevirtual 43, 3) := by decide +kernel
theorem dL_law_379 : decode cL_law 379 = .ok (.aload_n 2, 1) := by decide +kernel
theorem dL_law_380 : decode cL_law 380 = .ok (.aload_n 0, 1) := by decide +kernel
theorem dL_law_381 : decode cL_law 381 = .ok (.iload 4, 2) := by decide +kernel
theorem dL_law_383 : decode cL_law 383 = .ok (.iconst 1, 1) := by decide +kernel
theorem dL_law_384 : decode cL_law 384 = .ok (.iadd, 1) := by decide +kernel
theorem dL_law_385 : decode cL_law 385 = .ok (.iaload, 1) := by decide +kernel
theorem dL_law_386 : decode cL_law 386 = .ok (.invokevirtual 46, 3) := by decide +kernel
theorem dL_law_389 : decode cL_law 389 = .ok (.if_icmp .eq 1164, 3) := by decide +kernel
theorem dL_law_392 : decode cL_law 392 = .ok (.iconst 0, 1) := by decide +kernel
theorem dL_law_393 : decode cL_law 393 = .ok (.ireturn, 1) := by decide +kernel
theorem dL_law_394 : decode cL_law 394 = .ok (.aload_n 1, 1) := by decide +kernel
theorem dL_law_395 : decode cL_law 395 = .ok (.aload_n 0, 1) := by decide +kernel
theorem dL_law_396 : decode cL_law 396 = .ok (.iload 4, 2) := by decide +kernel
theorem dL_law_398 : decode cL_law 398 = .ok (.iconst 1, 1) := by decide +kernel
theorem dL_law_399 : decode cL_law 399 = .ok (.iadd, 1) := by decide +kernel
theorem dL_law_400 : decode cL_law 400 = .ok (.iaload, 1) := by decide +kernel
theorem dL_law_401 : decode cL_law 401 = .ok (.aload_n 0, 1) := by decide +kernel
theorem dL_law_402 : decode cL_law 402 = .ok (.iload 4, 2) := by decide +kernel
theorem dL_law_404 : decode cL_law 404 = .ok (.iconst 2, 1) := by decide +kernel
theorem dL_law_405 : decode cL_law 405 = .ok (.iadd, 1) := by decide +kernel
theorem dL_law_406 : decode cL_law 406 = .ok (.iaload, 1) := by decide +kernel
theorem dL_law_407 : decode cL_law 407 = .ok (.invokevirtual 47, 3) := by decide +kernel
theorem dL_law_410 : decode cL_law 410 = .ok (.aload_n 2, 1) := by decide +kernel
theorem dL_law_411 : decode cL_law 411 = .ok (.aload_n 0, 1) := by decide +kernel
theorem dL_law_412 : decode cL_law 412 = .ok (.iload 4, 2) := by decide +kernel
theorem dL_law_414 : decode cL_law 414 = .ok (.iconst 1, 1) := by decide +kernel
theorem dL_law_415 : decode cL_law 415 = .ok (.iadd, 1) := by decide +kernel
theorem dL_law_416 : decode cL_law 416 = .ok (.iaload, 1) := by decide +kernel
theorem dL_law_417 : decode cL_law 417 = .ok (.aload_n 0, 1) := by decide +kernel
theorem dL_law_418 : decode cL_law 418 = .ok (.iload 4, 2) := by decide +kernel
theorem dL_law_420 : decode cL_law 420 = .ok (.iconst 2, 1) := by decide +kernel
theorem dL_law_421 : decode cL_law 421 = .ok (.iadd, 1) := by decide +kernel
theorem dL_law_422 : decode cL_law 422 = .ok (.iaload, 1) := by decide +kernel
theorem dL_law_423 : decode cL_law 423 = .ok (.invokevirtual 50, 3) := by decide +kernel
theorem dL_law_426 : decode cL_law 426 = .ok (.if_icmp .eq 1127, 3) := by decide +kernel
theorem dL_law_429 : decode cL_law 429 = .ok (.iconst 0, 1) := by decide +kernel
theorem dL_law_430 : decode cL_law 430 = .ok (.ireturn, 1) := by decide +kernel
theorem dL_law_431 : decode cL_law 431 = .ok (.aload_n 1, 1) := by decide +kernel
theorem dL_law_432 : decode cL_law 432 = .ok (.aload_n 0, 1) := by decide +kernel
theorem dL_law_433 : decode cL_law 433 = .ok (.iload 4, 2) := by decide +kernel
theorem dL_law_435 : decode cL_law 435 = .ok (.iconst 1, 1) := by decide +kernel
theorem dL_law_436 : decode cL_law 436 = .ok (.iadd, 1) := by decide +kernel
theorem dL_law_437 : decode cL_law 437 = .ok (.iaload, 1) := by decide +kernel
theorem dL_law_438 : decode cL_law 438 = .ok (.invokevirtual 51, 3) := by decide +kernel
theorem dL_law_441 : decode cL_law 441 = .ok (.aload_n 2, 1) := by decide +kernel
theorem dL_law_442 : decode cL_law 442 = .ok (.aload_n 0, 1) := by decide +kernel
theorem dL_law_443 : decode cL_law 443 = .ok (.iload 4, 2) := by decide +kernel
theorem dL_law_445 : decode cL_law 445 = .ok (.iconst 1, 1) := by decide +kernel
theorem dL_law_446 : decode cL_law 446 = .ok (.iadd, 1) := by decide +kernel
theorem dL_law_447 : decode cL_law 447 = .ok (.iaload, 1) := by decide +kernel
theorem dL_law_448 : decode cL_law 448 = .ok (.invokevirtual 54, 3) := by decide +kernel
theorem dL_law_451 : decode cL_law 451 = .ok (.if_icmp .eq 1102, 3) := by decide +kernel
theorem dL_law_454 : decode cL_law 454 = .ok (.iconst 0, 1) := by decide +kernel
theorem dL_law_455 : decode cL_law 455 = .ok (.ireturn, 1) := by decide +kernel
theorem dL_law_456 : decode cL_law 456 = .ok (.aload_n 1, 1) := by decide +kernel
theorem dL_law_457 : decode cL_law 457 = .ok (.aload_n 0, 1) := by decide +kernel
theorem dL_law_458 : decode cL_law 458 = .ok (.iload 4, 2) := by decide +kernel
theorem dL_law_460 : decode cL_law 460 = .ok (.iconst 1, 1) := by decide +kernel
theorem dL_law_461 : decode cL_law 461 = .ok (.iadd, 1) := by decide +kernel
theorem dL_law_462 : decode cL_law 462 = .ok (.iaload, 1) := by decide +kernel
theorem dL_law_463 : decode cL_law 463 = .ok (.aload_n 0, 1) := by decide +kernel
theorem dL_law_464 : decode cL_law 464 = .ok (.iload 4, 2) := by decide +kernel
theorem dL_law_466 : decode cL_law 466 = .ok (.iconst 2, 1) := by decide +kernel
theorem dL_law_467 : decode cL_law 467 = .ok (.iadd, 1) := by decide +kernel
theorem dL_law_468 : decode cL_law 468 = .ok (.iaload, 1) := by decide +kernel
theorem dL_law_469 : decode cL_law 469 = .ok (.aload_n 0, 1) := by decide +kernel
theorem dL_law_470 : decode cL_law 470 = .ok (.iload 4, 2) := by decide +kernel
theorem dL_law_472 : decode cL_law 472 = .ok (.iconst 3, 1) := by decide +kernel
theorem dL_law_473 : decode cL_law 473 = .ok (.iadd, 1) := by decide +kernel
theorem dL_law_474 : decode cL_law 474 = .ok (.iaload, 1) := by decide +kernel
theorem dL_law_475 : decode cL_law 475 = .ok (.invokevirtual 55, 3) := by decide +kernel
theorem dL_law_478 : decode cL_law 478 = .ok (.aload_n 2, 1) := by decide +kernel
theorem dL_law_479 : decode cL_law 479 = .ok (.aload_n 0, 1) := by decide +kernel
theorem dL_law_480 : decode cL_law 480 = .ok (.iload 4, 2) := by decide +kernel
theorem dL_law_482 : decode cL_law 482 = .ok (.iconst 1, 1) := by decide +kernel
theorem dL_law_483 : decode cL_law 483 = .ok (.iadd, 1) := by decide +kernel
theorem dL_law_484 : decode cL_law 484 = .ok (.iaload, 1) := by decide +kernel
theorem dL_law_485 : decode cL_law 485 = .ok (.aload_n 0, 1) := by decide +kernel
theorem dL_law_486 : decode cL_law 486 = .ok (.iload 4, 2) := by decide +kernel
theorem dL_law_488 : decode cL_law 488 = .ok (.iconst 2, 1) := by decide +kernel
theorem dL_law_489 : decode cL_law 489 = .ok (.iadd, 1) := by decide +kernel
theorem dL_law_490 : decode cL_law 490 = .ok (.iaload, 1) := by decide +kernel
theorem dL_law_491 : decode cL_law 491 = .ok (.aload_n 0, 1) := by decide +kernel
theorem dL_law_492 : decode cL_law 492 = .ok (.iload 4, 2) := by decide +kernel
theorem dL_law_494 : decode cL_law 494 = .ok (.iconst 3, 1) := by decide +kernel
theorem dL_law_495 : decode cL_law 495 = .ok (.iadd, 1) := by decide +kernel
theorem dL_law_496 : decode cL_law 496 = .ok (.iaload, 1) := by decide +kernel
theorem dL_law_497 : decode cL_law 497 = .ok (.invokevirtual 59, 3) := by decide +kernel
theorem dL_law_500 : decode cL_law 500 = .ok (.if_icmp .eq 1053, 3) := by decide +kernel
theorem dL_law_503 : decode cL_law 503 = .ok (.iconst 0, 1) := by decide +kernel
theorem dL_law_504 : decode cL_law 504 = .ok (.ireturn, 1) := by decide +kernel
theorem dL_law_505 : decode cL_law 505 = .ok (.aload_n 1, 1) := by decide +kernel
theorem dL_law_506 : decode cL_law 506 = .ok (.invokevirtual 60, 3) := by decide +kernel
theorem dL_law_509 : decode cL_law 509 = .ok (.aload_n 2, 1) := by decide +kernel
theorem dL_law_510 : decode cL_law 510 = .ok (.invokevirtual 64, 3) := by decide +kernel
theorem dL_law_513 : decode cL_law 513 = .ok (.if_icmp .eq 1040, 3) := by decide +kernel
theorem dL_law_516 : decode cL_law 516 = .ok (.iconst 0, 1) := by decide +kernel
theorem dL_law_517 : decode cL_law 517 = .ok (.ireturn, 1) := by decide +kernel
theorem dL_law_518 : decode cL_law 518 = .ok (.aload_n 1, 1) := by decide +kernel
theorem dL_law_519 : decode cL_law 519 = .ok (.aload_n 0, 1) := by decide +kernel
theorem dL_law_520 : decode cL_law 520 = .ok (.iload 4, 2) := by decide +kernel
theorem dL_law_522 : decode cL_law 522 = .ok (.iconst 1, 1) := by decide +kernel
theorem dL_law_523 : decode cL_law 523 = .ok (.iadd, 1) := by decide +kernel
theorem dL_law_524 : decode cL_law 524 = .ok (.iaload, 1) := by decide +kernel
theorem dL_law_525 : decode cL_law 525 = .ok (.aload_n 0, 1) := by decide +kernel
theorem dL_law_526 : decode cL_law 526 = .ok (.iload 4, 2) := by decide +kernel
theorem dL_law_528 : decode cL_law 528 = .ok (.iconst 2, 1) := by decide +kernel
theorem dL_law_529 : decode cL_law 529 = .ok (.iadd, 1) := by decide +kernel
theorem dL_law_530 : decode cL_law 530 = .ok (.iaload, 1) := by decide +kernel
theorem dL_law_531 : decode cL_law 531 = .ok (.invokevirtual 65, 3) := by decide +kernel
theorem dL_law_534 : decode cL_law 534 = .ok (.aload_n 2, 1) := by decide +kernel
theorem dL_law_535 : decode cL_law 535 = .ok (.aload_n 0, 1) := by decide +kernel
theorem dL_law_536 : decode cL_law 536 = .ok (.iload 4, 2) := by decide +kernel
theorem dL_law_538 : decode cL_law 538 = .ok (.iconst 1, 1) := by decide +kernel
theorem dL_law_539 : decode cL_law 539 = .ok (.iadd, 1) := by decide +kernel
theorem dL_law_540 : decode cL_law 540 = .ok (.iaload, 1) := by decide +kernel
theorem dL_law_541 : decode cL_law 541 = .ok (.aload_n 0, 1) := by decide +kernel
theorem dL_law_542 : decode cL_law 542 = .ok (.iload 4, 2) := by decide +kernel
theorem dL_law_544 : decode cL_law 544 = .ok (.iconst 2, 1) := by decide +kernel
theorem dL_law_545 : decode cL_law 545 = .ok (.iadd, 1) := by decide +kernel
theorem dL_law_546 : decode cL_law 546 = .ok (.iaload, 1) := by decide +kernel
theorem dL_law_547 : decode cL_law 547 = .ok (.invokevirtual 68, 3) := by decide +kernel
theorem dL_law_550 : decode cL_law 550 = .ok (.if_icmp .eq 1003, 3) := by decide +kernel
theorem dL_law_553 : decode cL_law 553 = .ok (.iconst 0, 1) := by decide +kernel
theorem dL_law_554 : decode cL_law 554 = .ok (.ireturn, 1) := by decide +kernel
theorem dL_law_555 : decode cL_law 555 = .ok (.aload_n 1, 1) := by decide +kernel
theorem dL_law_556 : decode cL_law 556 = .ok (.aload_n 0, 1) := by decide +kernel
theorem dL_law_557 : decode cL_law 557 = .ok (.iload 4, 2) := by decide +kernel
theorem dL_law_559 : decode cL_law 559 = .ok (.iconst 1, 1) := by decide +kernel
theorem dL_law_560 : decode cL_law 560 = .ok (.iadd, 1) := by decide +kernel
theorem dL_law_561 : decode cL_law 561 = .ok (.iaload, 1) := by decide +kernel
theorem dL_law_562 : decode cL_law 562 = .ok (.aload_n 0, 1) := by decide +kernel
theorem dL_law_563 : decode cL_law 563 = .ok (.iload 4, 2) := by decide +kernel
theorem dL_law_565 : decode cL_law 565 = .ok (.iconst 2, 1) := by decide +kernel
theorem dL_law_566 : decode cL_law 566 = .ok (.iadd, 1) := by decide +kernel
theorem dL_law_567 : decode cL_law 567 = .ok (.iaload, 1) := by decide +kernel
theorem dL_law_568 : decode cL_law 568 = .ok (.invokevirtual 69, 3) := by decide +kernel
theorem dL_law_571 : decode cL_law 571 = .ok (.aload_n 2, 1) := by decide +kernel
theorem dL_law_572 : decode cL_law 572 = .ok (.aload_n 0, 1) := by decide +kernel
theorem dL_law_573 : decode cL_law 573 = .ok (.iload 4, 2) := by decide +kernel
theorem dL_law_575 : decode cL_law 575 = .ok (.iconst 1, 1) := by decide +kernel
theorem dL_law_576 : decode cL_law 576 = .ok (.iadd, 1) := by decide +kernel
theorem dL_law_577 : decode cL_law 577 = .ok (.iaload, 1) := by decide +kernel
theorem dL_law_578 : decode cL_law 578 = .ok (.aload_n 0, 1) := by decide +kernel
theorem dL_law_579 : decode cL_law 579 = .ok (.iload 4, 2) := by decide +kernel
theorem dL_law_581 : decode cL_law 581 = .ok (.iconst 2, 1) := by decide +kernel
theorem dL_law_582 : decode cL_law 582 = .ok (.iadd, 1) := by decide +kernel
theorem dL_law_583 : decode cL_law 583 = .ok (.iaload, 1) := by decide +kernel
theorem dL_law_584 : decode cL_law 584 = .ok (.invokevirtual 72, 3) := by decide +kernel
theorem dL_law_587 : decode cL_law 587 = .ok (.if_icmp .eq 966, 3) := by decide +kernel
theorem dL_law_590 : decode cL_law 590 = .ok (.iconst 0, 1) := by decide +kernel
theorem dL_law_591 : decode cL_law 591 = .ok (.ireturn, 1) := by decide +kernel
theorem dL_law_592 : decode cL_law 592 = .ok (.aload_n 1, 1) := by decide +kernel
theorem dL_law_593 : decode cL_law 593 = .ok (.aload_n 0, 1) := by decide +kernel
theorem dL_law_594 : decode cL_law 594 = .ok (.iload 4, 2) := by decide +kernel
theorem dL_law_596 : decode cL_law 596 = .ok (.iconst 1, 1) := by decide +kernel
theorem dL_law_597 : decode cL_law 597 = .ok (.iadd, 1) := by decide +kernel
theorem dL_law_598 : decode cL_law 598 = .ok (.iaload, 1) := by decide +kernel
theorem dL_law_599 : decode cL_law 599 = .ok (.invokevirtual 73, 3) := by decide +kernel
theorem dL_law_602 : decode cL_law 602 = .ok (.aload_n 2, 1) := by decide +kernel
theorem dL_law_603 : decode cL_law 603 = .ok (.aload_n 0, 1) := by decide +kernel
theorem dL_law_604 : decode cL_law 604 = .ok (.iload 4, 2) := by decide +kernel
theorem dL_law_606 : decode cL_law 606 = .ok (.iconst 1, 1) := by decide +kernel
theorem dL_law_607 : decode cL_law 607 = .ok (.iadd, 1) := by decide +kernel
theorem dL_law_608 : decode cL_law 608 = .ok (.iaload, 1) := by decide +kernel
theorem dL_law_609 : decode cL_law 609 = .ok (.invokevirtual 76, 3) := by decide +kernel
theorem dL_law_612 : decode cL_law 612 = .ok (.if_icmp .eq 941, 3) := by decide +kernel
theorem dL_law_615 : decode cL_law 615 = .ok (.iconst 0, 1) := by decide +kernel
theorem dL_law_616 : decode cL_law 616 = .ok (.ireturn, 1) := by decide +kernel
theorem dL_law_617 : decode cL_law 617 = .ok (.aload_n 1, 1) := by decide +kernel
theorem dL_law_618 : decode cL_law 618 = .ok (.aload_n 0, 1) := by decide +kernel
theorem dL_law_619 : decode cL_law 619 = .ok (.iload 4, 2) := by decide +kernel
theorem dL_law_621 : decode cL_law 621 = .ok (.iconst 1, 1) := by decide +kernel
theorem dL_law_622 : decode cL_law 622 = .ok (.iadd, 1) := by decide +kernel
theorem dL_law_623 : decode cL_law 623 = .ok (.iaload, 1) := by decide +kernel
theorem dL_law_624 : decode cL_law 624 = .ok (.invokevirtual 77, 3) := by decide +kernel
theorem dL_law_627 : decode cL_law 627 = .ok (.aload_n 2, 1) := by decide +kernel
theorem dL_law_628 : decode cL_law 628 = .ok (.aload_n 0, 1) := by decide +kernel
theorem dL_law_629 : decode cL_law 629 = .ok (.iload 4, 2) := by decide +kernel
theorem dL_law_631 : decode cL_law 631 = .ok (.iconst 1, 1) := by decide +kernel
theorem dL_law_632 : decode cL_law 632 = .ok (.iadd, 1) := by decide +kernel
theorem dL_law_633 : decode cL_law 633 = .ok (.iaload, 1) := by decide +kernel
theorem dL_law_634 : decode cL_law 634 = .ok (.invokevirtual 80, 3) := by decide +kernel
theorem dL_law_637 : decode cL_law 637 = .ok (.if_icmp .eq 916, 3) := by decide +kernel
theorem dL_law_640 : decode cL_law 640 = .ok (.iconst 0, 1) := by decide +kernel
theorem dL_law_641 : decode cL_law 641 = .ok (.ireturn, 1) := by decide +kernel
theorem dL_law_642 : decode cL_law 642 = .ok (.aload_n 1, 1) := by decide +kernel
theorem dL_law_643 : decode cL_law 643 = .ok (.aload_n 0, 1) := by decide +kernel
theorem dL_law_644 : decode cL_law 644 = .ok (.iload 4, 2) := by decide +kernel
theorem dL_law_646 : decode cL_law 646 = .ok (.iconst 1, 1) := by decide +kernel
theorem dL_law_647 : decode cL_law 647 = .ok (.iadd, 1) := by decide +kernel
theorem dL_law_648 : decode cL_law 648 = .ok (.iaload, 1) := by decide +kernel
theorem dL_law_649 : decode cL_law 649 = .ok (.invokevirtual 81, 3) := by decide +kernel
theorem dL_law_652 : decode cL_law 652 = .ok (.aload_n 2, 1) := by decide +kernel
theorem dL_law_653 : decode cL_law 653 = .ok (.aload_n 0, 1) := by decide +kernel
theorem dL_law_654 : decode cL_law 654 = .ok (.iload 4, 2) := by decide +kernel
theorem dL_law_656 : decode cL_law 656 = .ok (.iconst 1, 1) := by decide +kernel
theorem dL_law_657 : decode cL_law 657 = .ok (.iadd, 1) := by decide +kernel
theorem dL_law_658 : decode cL_law 658 = .ok (.iaload, 1) := by decide +kernel
theorem dL_law_659 : decode cL_law 659 = .ok (.invokevirtual 84, 3) := by decide +kernel
theorem dL_law_662 : decode cL_law 662 = .ok (.if_icmp .eq 891, 3) := by decide +kernel
theorem dL_law_665 : decode cL_law 665 = .ok (.iconst 0, 1) := by decide +kernel
theorem dL_law_666 : decode cL_law 666 = .ok (.ireturn, 1) := by decide +kernel
theorem dL_law_667 : decode cL_law 667 = .ok (.aload_n 1, 1) := by decide +kernel
theorem dL_law_668 : decode cL_law 668 = .ok (.aload_n 0, 1) := by decide +kernel
theorem dL_law_669 : decode cL_law 669 = .ok (.iload 4, 2) := by decide +kernel
theorem dL_law_671 : decode cL_law 671 = .ok (.iconst 1, 1) := by decide +kernel
theorem dL_law_672 : decode cL_law 672 = .ok (.iadd, 1) := by decide +kernel
theorem dL_law_673 : decode cL_law 673 = .ok (.iaload, 1) := by decide +kernel
theorem dL_law_674 : decode cL_law 674 = .ok (.invokevirtual 85, 3) := by decide +kernel
theorem dL_law_677 : decode cL_law 677 = .ok (.aload_n 2, 1) := by decide +kernel
theorem dL_law_678 : decode cL_law 678 = .ok (.aload_n 0, 1) := by decide +kernel
theorem dL_law_679 : decode cL_law 679 = .ok (.iload 4, 2) := by decide +kernel
theorem dL_law_681 : decode cL_law 681 = .ok (.iconst 1, 1) := by decide +kernel
theorem dL_law_682 : decode cL_law 682 = .ok (.iadd, 1) := by decide +kernel
theorem dL_law_683 : decode cL_law 683 = .ok (.iaload, 1) := by decide +kernel
theorem dL_law_684 : decode cL_law 684 = .ok (.invokevirtual 88, 3) := by decide +kernel
theorem dL_law_687 : decode cL_law 687 = .ok (.if_icmp .eq 866, 3) := by decide +kernel
theorem dL_law_690 : decode cL_law 690 = .ok (.iconst 0, 1) := by decide +kernel
theorem dL_law_691 : decode cL_law 691 = .ok (.ireturn, 1) := by decide +kernel
theorem dL_law_692 : decode cL_law 692 = .ok (.aload_n 1, 1) := by decide +kernel
theorem dL_law_693 : decode cL_law 693 = .ok (.aload_n 0, 1) := by decide +kernel
theorem dL_law_694 : decode cL_law 694 = .ok (.iload 4, 2) := by decide +kernel
theorem dL_law_696 : decode cL_law 696 = .ok (.iconst 1, 1) := by decide +kernel
theorem dL_law_697 : decode cL_law 697 = .ok (.iadd, 1) := by decide +kernel
theorem dL_law_698 : decode cL_law 698 = .ok (.iaload, 1) := by decide +kernel
theorem dL_law_699 : decode cL_law 699 = .ok (.invokevirtual 89, 3) := by decide +kernel
theorem dL_law_702 : decode cL_law 702 = .ok (.aload_n 2, 1) := by decide +kernel
theorem dL_law_703 : decode cL_law 703 = .ok (.aload_n 0, 1) := by decide +kernel
theorem dL_law_704 : decode cL_law 704 = .ok (.iload 4, 2) := by decide +kernel
theorem dL_law_706 : decode cL_law 706 = .ok (.iconst 1, 1) := by decide +kernel
theorem dL_law_707 : decode cL_law 707 = .ok (.iadd, 1) := by decide +kernel
theorem dL_law_708 : decode cL_law 708 = .ok (.iaload, 1) := by decide +kernel
theorem dL_law_709 : decode cL_law 709 = .ok (.invokevirtual 92, 3) := by decide +kernel
theorem dL_law_712 : decode cL_law 712 = .ok (.if_icmp .eq 841, 3) := by decide +kernel
theorem dL_law_715 : decode cL_law 715 = .ok (.iconst 0, 1) := by decide +kernel
theorem dL_law_716 : decode cL_law 716 = .ok (.ireturn, 1) := by decide +kernel
theorem dL_law_717 : decode cL_law 717 = .ok (.aload_n 1, 1) := by decide +kernel
theorem dL_law_718 : decode cL_law 718 = .ok (.aload_n 0, 1) := by decide +kernel
theorem dL_law_719 : decode cL_law 719 = .ok (.iload 4, 2) := by decide +kernel
theorem dL_law_721 : decode cL_law 721 = .ok (.iconst 1, 1) := by decide +kernel
theorem dL_law_722 : decode cL_law 722 = .ok (.iadd, 1) := by decide +kernel
theorem dL_law_723 : decode cL_law 723 = .ok (.iaload, 1) := by decide +kernel
theorem dL_law_724 : decode cL_law 724 = .ok (.invokevirtual 93, 3) := by decide +kernel
theorem dL_law_727 : decode cL_law 727 = .ok (.aload_n 2, 1) := by decide +kernel
theorem dL_law_728 : decode cL_law 728 = .ok (.aload_n 0, 1) := by decide +kernel
theorem dL_law_729 : decode cL_law 729 = .ok (.iload 4, 2) := by decide +kernel
theorem dL_law_731 : decode cL_law 731 = .ok (.iconst 1, 1) := by decide +kernel
theorem dL_law_732 : decode cL_law 732 = .ok (.iadd, 1) := by decide +kernel
theorem dL_law_733 : decode cL_law 733 = .ok (.iaload, 1) := by decide +kernel
theorem dL_law_734 : decode cL_law 734 = .ok (.invokevirtual 96, 3) := by decide +kernel
theorem dL_law_737 : decode cL_law 737 = .ok (.if_icmp .eq 816, 3) := by decide +kernel
theorem dL_law_740 : decode cL_law 740 = .ok (.iconst 0, 1) := by decide +kernel
theorem dL_law_741 : decode cL_law 741 = .ok (.ireturn, 1) := by decide +kernel
theorem dL_law_742 : decode cL_law 742 = .ok (.aload_n 1, 1) := by decide +kernel
theorem dL_law_743 : decode cL_law 743 = .ok (.aload_n 0, 1) := by decide +kernel
theorem dL_law_744 : decode cL_law 744 = .ok (.iload 4, 2) := by decide +kernel
theorem dL_law_746 : decode cL_law 746 = .ok (.iconst 1, 1) := by decide +kernel
theorem dL_law_747 : decode cL_law 747 = .ok (.iadd, 1) := by decide +kernel
theorem dL_law_748 : decode cL_law 748 = .ok (.iaload, 1) := by decide +kernel
theorem dL_law_749 : decode cL_law 749 = .ok (.aload_n 0, 1) := by decide +kernel
theorem dL_law_750 : decode cL_law 750 = .ok (.iload 4, 2) := by decide +kernel
theorem dL_law_752 : decode cL_law 752 = .ok (.iconst 2, 1) := by decide +kernel
theorem dL_law_753 : decode cL_law 753 = .ok (.iadd, 1) := by decide +kernel
theorem dL_law_754 : decode cL_law 754 = .ok (.iaload, 1) := by decide +kernel
theorem dL_law_755 : decode cL_law 755 = .ok (.invokevirtual 97, 3) := by decide +kernel
theorem dL_law_758 : decode cL_law 758 = .ok (.aload_n 2, 1) := by decide +kernel
theorem dL_law_759 : decode cL_law 759 = .ok (.aload_n 0, 1) := by decide +kernel
theorem dL_law_760 : decode cL_law 760 = .ok (.iload 4, 2) := by decide +kernel
theorem dL_law_762 : decode cL_law 762 = .ok (.iconst 1, 1) := by decide +kernel
theorem dL_law_763 : decode cL_law 763 = .ok (.iadd, 1) := by decide +kernel
theorem dL_law_764 : decode cL_law 764 = .ok (.iaload, 1) := by decide +kernel
theorem dL_law_765 : decode cL_law 765 = .ok (.aload_n 0, 1) := by decide +kernel
theorem dL_law_766 : decode cL_law 766 = .ok (.iload 4, 2) := by decide +kernel
theorem dL_law_768 : decode cL_law 768 = .ok (.iconst 2, 1) := by decide +kernel
theorem dL_law_769 : decode cL_law 769 = .ok (.iadd, 1) := by decide +kernel
theorem dL_law_770 : decode cL_law 770 = .ok (.iaload, 1) := by decide +kernel
theorem dL_law_771 : decode cL_law 771 = .ok (.invokevirtual 100, 3) := by decide +kernel
theorem dL_law_774 : decode cL_law 774 = .ok (.if_icmp .eq 779, 3) := by decide +kernel
theorem dL_law_777 : decode cL_law 777 = .ok (.iconst 0, 1) := by decide +kernel
theorem dL_law_778 : decode cL_law 778 = .ok (.ireturn, 1) := by decide +kernel
theorem dL_law_779 : decode cL_law 779 = .ok (.aload_n 1, 1) := by decide +kernel
theorem dL_law_780 : decode cL_law 780 = .ok (.aload_n 0, 1) := by decide +kernel
theorem dL_law_781 : decode cL_law 781 = .ok (.iload 4, 2) := by decide +kernel
theorem dL_law_783 : decode cL_law 783 = .ok (.iconst 1, 1) := by decide +kernel
theorem dL_law_784 : decode cL_law 784 = .ok (.iadd, 1) := by decide +kernel
theorem dL_law_785 : decode cL_law 785 = .ok (.iaload, 1) := by decide +kernel
theorem dL_law_786 : decode cL_law 786 = .ok (.invokevirtual 101, 3) := by decide +kernel
theorem dL_law_789 : decode cL_law 789 = .ok (.aload_n 2, 1) := by decide +kernel
theorem dL_law_790 : decode cL_law 790 = .ok (.aload_n 0, 1) := by decide +kernel
theorem dL_law_791 : decode cL_law 791 = .ok (.iload 4, 2) := by decide +kernel
theorem dL_law_793 : decode cL_law 793 = .ok (.iconst 1, 1) := by decide +kernel
theorem dL_law_794 : decode cL_law 794 = .ok (.iadd, 1) := by decide +kernel
theorem dL_law_795 : decode cL_law 795 = .ok (.iaload, 1) := by decide +kernel
theorem dL_law_796 : decode cL_law 796 = .ok (.invokevirtual 104, 3) := by decide +kernel
theorem dL_law_799 : decode cL_law 799 = .ok (.if_icmp .eq 754, 3) := by decide +kernel
theorem dL_law_802 : decode cL_law 802 = .ok (.iconst 0, 1) := by decide +kernel
theorem dL_law_803 : decode cL_law 803 = .ok (.ireturn, 1) := by decide +kernel
theorem dL_law_804 : decode cL_law 804 = .ok (.aload_n 1, 1) := by decide +kernel
theorem dL_law_805 : decode cL_law 805 = .ok (.aload_n 0, 1) := by decide +kernel
theorem dL_law_806 : decode cL_law 806 = .ok (.iload 4, 2) := by decide +kernel
theorem dL_law_808 : decode cL_law 808 = .ok (.iconst 1, 1) := by decide +kernel
theorem dL_law_809 : decode cL_law 809 = .ok (.iadd, 1) := by decide +kernel
theorem dL_law_810 : decode cL_law 810 = .ok (.iaload, 1) := by decide +kernel
theorem dL_law_811 : decode cL_law 811 = .ok (.invokevirtual 105, 3) := by decide +kernel
theorem dL_law_814 : decode cL_law 814 = .ok (.aload_n 2, 1) := by decide +kernel
theorem dL_law_815 : decode cL_law 815 = .ok (.aload_n 0, 1) := by decide +kernel
theorem dL_law_816 : decode cL_law 816 = .ok (.iload 4, 2) := by decide +kernel
theorem dL_law_818 : decode cL_law 818 = .ok (.iconst 1, 1) := by decide +kernel
theorem dL_law_819 : decode cL_law 819 = .ok (.iadd, 1) := by decide +kernel
theorem dL_law_820 : decode cL_law 820 = .ok (.iaload, 1) := by decide +kernel
theorem dL_law_821 : decode cL_law 821 = .ok (.invokevirtual 108, 3) := by decide +kernel
theorem dL_law_824 : decode cL_law 824 = .ok (.if_icmp .eq 729, 3) := by decide +kernel
theorem dL_law_827 : decode cL_law 827 = .ok (.iconst 0, 1) := by decide +kernel
theorem dL_law_828 : decode cL_law 828 = .ok (.ireturn, 1) := by decide +kernel
theorem dL_law_829 : decode cL_law 829 = .ok (.aload_n 1, 1) := by decide +kernel
theorem dL_law_830 : decode cL_law 830 = .ok (.aload_n 0, 1) := by decide +kernel
theorem dL_law_831 : decode cL_law 831 = .ok (.iload 4, 2) := by decide +kernel
theorem dL_law_833 : decode cL_law 833 = .ok (.iconst 1, 1) := by decide +kernel
theorem dL_law_834 : decode cL_law 834 = .ok (.iadd, 1) := by decide +kernel
theorem dL_law_835 : decode cL_law 835 = .ok (.iaload, 1) := by decide +kernel
theorem dL_law_836 : decode cL_law 836 = .ok (.invokevirtual 109, 3) := by decide +kernel
theorem dL_law_839 : decode cL_law 839 = .ok (.aload_n 2, 1) := by decide +kernel
theorem dL_law_840 : decode cL_law 840 = .ok (.aload_n 0, 1) := by decide +kernel
theorem dL_law_841 : decode cL_law 841 = .ok (.iload 4, 2) := by decide +kernel
theorem dL_law_843 : decode cL_law 843 = .ok (.iconst 1, 1) := by decide +kernel
theorem dL_law_844 : decode cL_law 844 = .ok (.iadd, 1) := by decide +kernel
theorem dL_law_845 : decode cL_law 845 = .ok (.iaload, 1) := by decide +kernel
theorem dL_law_846 : decode cL_law 846 = .ok (.invokevirtual 112, 3) := by decide +kernel
theorem dL_law_849 : decode cL_law 849 = .ok (.if_icmp .eq 704, 3) := by decide +kernel
theorem dL_law_852 : decode cL_law 852 = .ok (.iconst 0, 1) := by decide +kernel
theorem dL_law_853 : decode cL_law 853 = .ok (.ireturn, 1) := by decide +kernel
theorem dL_law_854 : decode cL_law 854 = .ok (.aload_n 1, 1) := by decide +kernel
theorem dL_law_855 : decode cL_law 855 = .ok (.aload_n 0, 1) := by decide +kernel
theorem dL_law_856 : decode cL_law 856 = .ok (.iload 4, 2) := by decide +kernel
theorem dL_law_858 : decode cL_law 858 = .ok (.iconst 1, 1) := by decide +kernel
theorem dL_law_859 : decode cL_law 859 = .ok (.iadd, 1) := by decide +kernel
theorem dL_law_860 : decode cL_law 860 = .ok (.iaload, 1) := by decide +kernel
theorem dL_law_861 : decode cL_law 861 = .ok (.invokevirtual 113, 3) := by decide +kernel
theorem dL_law_864 : decode cL_law 864 = .ok (.aload_n 2, 1) := by decide +kernel
theorem dL_law_865 : decode cL_law 865 = .ok (.aload_n 0, 1) := by decide +kernel
theorem dL_law_866 : decode cL_law 866 = .ok (.iload 4, 2) := by decide +kernel
theorem dL_law_868 : decode cL_law 868 = .ok (.iconst 1, 1) := by decide +kernel
theorem dL_law_869 : decode cL_law 869 = .ok (.iadd, 1) := by decide +kernel
theorem dL_law_870 : decode cL_law 870 = .ok (.iaload, 1) := by decide +kernel
theorem dL_law_871 : decode cL_law 871 = .ok (.invokevirtual 116, 3) := by decide +kernel
theorem dL_law_874 : decode cL_law 874 = .ok (.if_icmp .eq 679, 3) := by decide +kernel
theorem dL_law_877 : decode cL_law 877 = .ok (.iconst 0, 1) := by decide +kernel
theorem dL_law_878 : decode cL_law 878 = .ok (.ireturn, 1) := by decide +kernel
theorem dL_law_879 : decode cL_law 879 = .ok (.aload_n 1, 1) := by decide +kernel
theorem dL_law_880 : decode cL_law 880 = .ok (.aload_n 0, 1) := by decide +kernel
theorem dL_law_881 : decode cL_law 881 = .ok (.iload 4, 2) := by decide +kernel
theorem dL_law_883 : decode cL_law 883 = .ok (.iconst 1, 1) := by decide +kernel
theorem dL_law_884 : decode cL_law 884 = .ok (.iadd, 1) := by decide +kernel
theorem dL_law_885 : decode cL_law 885 = .ok (.iaload, 1) := by decide +kernel
theorem dL_law_886 : decode cL_law 886 = .ok (.invokevirtual 117, 3) := by decide +kernel
theorem dL_law_889 : decode cL_law 889 = .ok (.aload_n 2, 1) := by decide +kernel
theorem dL_law_890 : decode cL_law 890 = .ok (.aload_n 0, 1) := by decide +kernel
theorem dL_law_891 : decode cL_law 891 = .ok (.iload 4, 2) := by decide +kernel
theorem dL_law_893 : decode cL_law 893 = .ok (.iconst 1, 1) := by decide +kernel
theorem dL_law_894 : decode cL_law 894 = .ok (.iadd, 1) := by decide +kernel
theorem dL_law_895 : decode cL_law 895 = .ok (.iaload, 1) := by decide +kernel
theorem dL_law_896 : decode cL_law 896 = .ok (.invokevirtual 120, 3) := by decide +kernel
theorem dL_law_899 : decode cL_law 899 = .ok (.if_icmp .eq 654, 3) := by decide +kernel
theorem dL_law_902 : decode cL_law 902 = .ok (.iconst 0, 1) := by decide +kernel
theorem dL_law_903 : decode cL_law 903 = .ok (.ireturn, 1) := by decide +kernel
theorem dL_law_904 : decode cL_law 904 = .ok (.aload_n 1, 1) := by decide +kernel
theorem dL_law_905 : decode cL_law 905 = .ok (.aload_n 0, 1) := by decide +kernel
theorem dL_law_906 : decode cL_law 906 = .ok (.iload 4, 2) := by decide +kernel
theorem dL_law_908 : decode cL_law 908 = .ok (.iconst 1, 1) := by decide +kernel
theorem dL_law_909 : decode cL_law 909 = .ok (.iadd, 1) := by decide +kernel
theorem dL_law_910 : decode cL_law 910 = .ok (.iaload, 1) := by decide +kernel
theorem dL_law_911 : decode cL_law 911 = .ok (.aload_n 0, 1) := by decide +kernel
theorem dL_law_912 : decode cL_law 912 = .ok (.iload 4, 2) := by decide +kernel
theorem dL_law_914 : decode cL_law 914 = .ok (.iconst 2, 1) := by decide +kernel
theorem dL_law_915 : decode cL_law 915 = .ok (.iadd, 1) := by decide +kernel
theorem dL_law_916 : decode cL_law 916 = .ok (.iaload, 1) := by decide +kernel
theorem dL_law_917 : decode cL_law 917 = .ok (.aload_n 0, 1) := by decide +kernel
theorem dL_law_918 : decode cL_law 918 = .ok (.iload 4, 2) := by decide +kernel
theorem dL_law_920 : decode cL_law 920 = .ok (.iconst 3, 1) := by decide +kernel
theorem dL_law_921 : decode cL_law 921 = .ok (.iadd, 1) := by decide +kernel
theorem dL_law_922 : decode cL_law 922 = .ok (.iaload, 1) := by decide +kernel
theorem dL_law_923 : decode cL_law 923 = .ok (.invokevirtual 121, 3) := by decide +kernel
theorem dL_law_926 : decode cL_law 926 = .ok (.aload_n 2, 1) := by decide +kernel
theorem dL_law_927 : decode cL_law 927 = .ok (.aload_n 0, 1) := by decide +kernel
theorem dL_law_928 : decode cL_law 928 = .ok (.iload 4, 2) := by decide +kernel
theorem dL_law_930 : decode cL_law 930 = .ok (.iconst 1, 1) := by decide +kernel
theorem dL_law_931 : decode cL_law 931 = .ok (.iadd, 1) := by decide +kernel
theorem dL_law_932 : decode cL_law 932 = .ok (.iaload, 1) := by decide +kernel
theorem dL_law_933 : decode cL_law 933 = .ok (.aload_n 0, 1) := by decide +kernel
theorem dL_law_934 : decode cL_law 934 = .ok (.iload 4, 2) := by decide +kernel
theorem dL_law_936 : decode cL_law 936 = .ok (.iconst 2, 1) := by decide +kernel
theorem dL_law_937 : decode cL_law 937 = .ok (.iadd, 1) := by decide +kernel
theorem dL_law_938 : decode cL_law 938 = .ok (.iaload, 1) := by decide +kernel
theorem dL_law_939 : decode cL_law 939 = .ok (.aload_n 0, 1) := by decide +kernel
theorem dL_law_940 : decode cL_law 940 = .ok (.iload 4, 2) := by decide +kernel
theorem dL_law_942 : decode cL_law 942 = .ok (.iconst 3, 1) := by decide +kernel
theorem dL_law_943 : decode cL_law 943 = .ok (.iadd, 1) := by decide +kernel
theorem dL_law_944 : decode cL_law 944 = .ok (.iaload, 1) := by decide +kernel
theorem dL_law_945 : decode cL_law 945 = .ok (.invokevirtual 125, 3) := by decide +kernel
theorem dL_law_948 : decode cL_law 948 = .ok (.lcmp, 1) := by decide +kernel
theorem dL_law_949 : decode cL_law 949 = .ok (.ifCond .eq 604, 3) := by decide +kernel
theorem dL_law_952 : decode cL_law 952 = .ok (.iconst 0, 1) := by decide +kernel
theorem dL_law_953 : decode cL_law 953 = .ok (.ireturn, 1) := by decide +kernel
theorem dL_law_954 : decode cL_law 954 = .ok (.aload_n 1, 1) := by decide +kernel
theorem dL_law_955 : decode cL_law 955 = .ok (.aload_n 0, 1) := by decide +kernel
theorem dL_law_956 : decode cL_law 956 = .ok (.iload 4, 2) := by decide +kernel
theorem dL_law_958 : decode cL_law 958 = .ok (.iconst 1, 1) := by decide +kernel
theorem dL_law_959 : decode cL_law 959 = .ok (.iadd, 1) := by decide +kernel
theorem dL_law_960 : decode cL_law 960 = .ok (.iaload, 1) := by decide +kernel
theorem dL_law_961 : decode cL_law 961 = .ok (.aload_n 0, 1) := by decide +kernel
theorem dL_law_962 : decode cL_law 962 = .ok (.iload 4, 2) := by decide +kernel
theorem dL_law_964 : decode cL_law 964 = .ok (.iconst 2, 1) := by decide +kernel
theorem dL_law_965 : decode cL_law 965 = .ok (.iadd, 1) := by decide +kernel
theorem dL_law_966 : decode cL_law 966 = .ok (.iaload, 1) := by decide +kernel
theorem dL_law_967 : decode cL_law 967 = .ok (.aload_n 0, 1) := by decide +kernel
theorem dL_law_968 : decode cL_law 968 = .ok (.iload 4, 2) := by decide +kernel
theorem dL_law_970 : decode cL_law 970 = .ok (.iconst 3, 1) := by decide +kernel
theorem dL_law_971 : decode cL_law 971 = .ok (.iadd, 1) := by decide +kernel
theorem dL_law_972 : decode cL_law 972 = .ok (.iaload, 1) := by decide +kernel
theorem dL_law_973 : decode cL_law 973 = .ok (.invokevirtual 126, 3) := by decide +kernel
theorem dL_law_976 : decode cL_law 976 = .ok (.aload_n 2, 1) := by decide +kernel
theorem dL_law_977 : decode cL_law 977 = .ok (.aload_n 0, 1) := by decide +kernel
theorem dL_law_978 : decode cL_law 978 = .ok (.iload 4, 2) := by decide +kernel
theorem dL_law_980 : decode cL_law 980 = .ok (.iconst 1, 1) := by decide +kernel
theorem dL_law_981 : decode cL_law 981 = .ok (.iadd, 1) := by decide +kernel
theorem dL_law_982 : decode cL_law 982 = .ok (.iaload, 1) := by decide +kernel
theorem dL_law_983 : decode cL_law 983 = .ok (.aload_n 0, 1) := by decide +kernel
theorem dL_law_984 : decode cL_law 984 = .ok (.iload 4, 2) := by decide +kernel
theorem dL_law_986 : decode cL_law 986 = .ok (.iconst 2, 1) := by decide +kernel
theorem dL_law_987 : decode cL_law 987 = .ok (.iadd, 1) := by decide +kernel
theorem dL_law_988 : decode cL_law 988 = .ok (.iaload, 1) := by decide +kernel
theorem dL_law_989 : decode cL_law 989 = .ok (.aload_n 0, 1) := by decide +kernel
theorem dL_law_990 : decode cL_law 990 = .ok (.iload 4, 2) := by decide +kernel
theorem dL_law_992 : decode cL_law 992 = .ok (.iconst 3, 1) := by decide +kernel
theorem dL_law_993 : decode cL_law 993 = .ok (.iadd, 1) := by decide +kernel
theorem dL_law_994 : decode cL_law 994 = .ok (.iaload, 1) := by decide +kernel
theorem dL_law_995 : decode cL_law 995 = .ok (.invokevirtual 129, 3) := by decide +kernel
theorem dL_law_998 : decode cL_law 998 = .ok (.if_icmp .eq 555, 3) := by decide +kernel
theorem dL_law_1001 : decode cL_law 1001 = .ok (.iconst 0, 1) := by decide +kernel
theorem dL_law_1002 : decode cL_law 1002 = .ok (.ireturn, 1) := by decide +kernel
theorem dL_law_1003 : decode cL_law 1003 = .ok (.aload_n 1, 1) := by decide +kernel
theorem dL_law_1004 : decode cL_law 1004 = .ok (.aload_n 0, 1) := by decide +kernel
theorem dL_law_1005 : decode cL_law 1005 = .ok (.iload 4, 2) := by decide +kernel
theorem dL_law_1007 : decode cL_law 1007 = .ok (.iconst 1, 1) := by decide +kernel
theorem dL_law_1008 : decode cL_law 1008 = .ok (.iadd, 1) := by decide +kernel
theorem dL_law_1009 : decode cL_law 1009 = .ok (.iaload, 1) := by decide +kernel
theorem dL_law_1010 : decode cL_law 1010 = .ok (.invokevirtual 130, 3) := by decide +kernel
theorem dL_law_1013 : decode cL_law 1013 = .ok (.aload_n 2, 1) := by decide +kernel
theorem dL_law_1014 : decode cL_law 1014 = .ok (.aload_n 0, 1) := by decide +kernel
theorem dL_law_1015 : decode cL_law 1015 = .ok (.iload 4, 2) := by decide +kernel
theorem dL_law_1017 : decode cL_law 1017 = .ok (.iconst 1, 1) := by decide +kernel
theorem dL_law_1018 : decode cL_law 1018 = .ok (.iadd, 1) := by decide +kernel
theorem dL_law_1019 : decode cL_law 1019 = .ok (.iaload, 1) := by decide +kernel
theorem dL_law_1020 : decode cL_law 1020 = .ok (.invokevirtual 134, 3) := by decide +kernel
theorem dL_law_1023 : decode cL_law 1023 = .ok (.lcmp, 1) := by decide +kernel
theorem dL_law_1024 : decode cL_law 1024 = .ok (.ifCond .eq 529, 3) := by decide +kernel
theorem dL_law_1027 : decode cL_law 1027 = .ok (.iconst 0, 1) := by decide +kernel
theorem dL_law_1028 : decode cL_law 1028 = .ok (.ireturn, 1) := by decide +kernel
theorem dL_law_1029 : decode cL_law 1029 = .ok (.aload_n 1, 1) := by decide +kernel
theorem dL_law_1030 : decode cL_law 1030 = .ok (.aload_n 0, 1) := by decide +kernel
theorem dL_law_1031 : decode cL_law 1031 = .ok (.iload 4, 2) := by decide +kernel
theorem dL_law_1033 : decode cL_law 1033 = .ok (.iconst 1, 1) := by decide +kernel
theorem dL_law_1034 : decode cL_law 1034 = .ok (.iadd, 1) := by decide +kernel
theorem dL_law_1035 : decode cL_law 1035 = .ok (.iaload, 1) := by decide +kernel
theorem dL_law_1036 : decode cL_law 1036 = .ok (.invokevirtual 135, 3) := by decide +kernel
theorem dL_law_1039 : decode cL_law 1039 = .ok (.aload_n 2, 1) := by decide +kernel
theorem dL_law_1040 : decode cL_law 1040 = .ok (.aload_n 0, 1) := by decide +kernel
theorem dL_law_1041 : decode cL_law 1041 = .ok (.iload 4, 2) := by decide +kernel
theorem dL_law_1043 : decode cL_law 1043 = .ok (.iconst 1, 1) := by decide +kernel
theorem dL_law_1044 : decode cL_law 1044 = .ok (.iadd, 1) := by decide +kernel
theorem dL_law_1045 : decode cL_law 1045 = .ok (.iaload, 1) := by decide +kernel
theorem dL_law_1046 : decode cL_law 1046 = .ok (.invokevirtual 138, 3) := by decide +kernel
theorem dL_law_1049 : decode cL_law 1049 = .ok (.if_icmp .eq 504, 3) := by decide +kernel
theorem dL_law_1052 : decode cL_law 1052 = .ok (.iconst 0, 1) := by decide +kernel
theorem dL_law_1053 : decode cL_law 1053 = .ok (.ireturn, 1) := by decide +kernel
theorem dL_law_1054 : decode cL_law 1054 = .ok (.aload_n 1, 1) := by decide +kernel
theorem dL_law_1055 : decode cL_law 1055 = .ok (.aload_n 0, 1) := by decide +kernel
theorem dL_law_1056 : decode cL_law 1056 = .ok (.iload 4, 2) := by decide +kernel
theorem dL_law_1058 : decode cL_law 1058 = .ok (.iconst 1, 1) := by decide +kernel
theorem dL_law_1059 : decode cL_law 1059 = .ok (.iadd, 1) := by decide +kernel
theorem dL_law_1060 : decode cL_law 1060 = .ok (.iaload, 1) := by decide +kernel
theorem dL_law_1061 : decode cL_law 1061 = .ok (.invokevirtual 139, 3) := by decide +kernel
theorem dL_law_1064 : decode cL_law 1064 = .ok (.aload_n 2, 1) := by decide +kernel
theorem dL_law_1065 : decode cL_law 1065 = .ok (.aload_n 0, 1) := by decide +kernel
theorem dL_law_1066 : decode cL_law 1066 = .ok (.iload 4, 2) := by decide +kernel
theorem dL_law_1068 : decode cL_law 1068 = .ok (.iconst 1, 1) := by decide +kernel
theorem dL_law_1069 : decode cL_law 1069 = .ok (.iadd, 1) := by decide +kernel
theorem dL_law_1070 : decode cL_law 1070 = .ok (.iaload, 1) := by decide +kernel
theorem dL_law_1071 : decode cL_law 1071 = .ok (.invokevirtual 142, 3) := by decide +kernel
theorem dL_law_1074 : decode cL_law 1074 = .ok (.if_icmp .eq 479, 3) := by decide +kernel
theorem dL_law_1077 : decode cL_law 1077 = .ok (.iconst 0, 1) := by decide +kernel
theorem dL_law_1078 : decode cL_law 1078 = .ok (.ireturn, 1) := by decide +kernel
theorem dL_law_1079 : decode cL_law 1079 = .ok (.aload_n 1, 1) := by decide +kernel
theorem dL_law_1080 : decode cL_law 1080 = .ok (.aload_n 0, 1) := by decide +kernel
theorem dL_law_1081 : decode cL_law 1081 = .ok (.iload 4, 2) := by decide +kernel
theorem dL_law_1083 : decode cL_law 1083 = .ok (.iconst 1, 1) := by decide +kernel
theorem dL_law_1084 : decode cL_law 1084 = .ok (.iadd, 1) := by decide +kernel
theorem dL_law_1085 : decode cL_law 1085 = .ok (.iaload, 1) := by decide +kernel
theorem dL_law_1086 : decode cL_law 1086 = .ok (.invokevirtual 143, 3) := by decide +kernel
theorem dL_law_1089 : decode cL_law 1089 = .ok (.aload_n 2, 1) := by decide +kernel
theorem dL_law_1090 : decode cL_law 1090 = .ok (.aload_n 0, 1) := by decide +kernel
theorem dL_law_1091 : decode cL_law 1091 = .ok (.iload 4, 2) := by decide +kernel
theorem dL_law_1093 : decode cL_law 1093 = .ok (.iconst 1, 1) := by decide +kernel
theorem dL_law_1094 : decode cL_law 1094 = .ok (.iadd, 1) := by decide +kernel
theorem dL_law_1095 : decode cL_law 1095 = .ok (.iaload, 1) := by decide +kernel
theorem dL_law_1096 : decode cL_law 1096 = .ok (.invokevirtual 146, 3) := by decide +kernel
theorem dL_law_1099 : decode cL_law 1099 = .ok (.if_icmp .eq 454, 3) := by decide +kernel
theorem dL_law_1102 : decode cL_law 1102 = .ok (.iconst 0, 1) := by decide +kernel
theorem dL_law_1103 : decode cL_law 1103 = .ok (.ireturn, 1) := by decide +kernel
theorem dL_law_1104 : decode cL_law 1104 = .ok (.aload_n 1, 1) := by decide +kernel
theorem dL_law_1105 : decode cL_law 1105 = .ok (.aload_n 0, 1) := by decide +kernel
theorem dL_law_1106 : decode cL_law 1106 = .ok (.iload 4, 2) := by decide +kernel
theorem dL_law_1108 : decode cL_law 1108 = .ok (.iconst 1, 1) := by decide +kernel
theorem dL_law_1109 : decode cL_law 1109 = .ok (.iadd, 1) := by decide +kernel
theorem dL_law_1110 : decode cL_law 1110 = .ok (.iaload, 1) := by decide +kernel
theorem dL_law_1111 : decode cL_law 1111 = .ok (.aload_n 0, 1) := by decide +kernel
theorem dL_law_1112 : decode cL_law 1112 = .ok (.iload 4, 2) := by decide +kernel
theorem dL_law_1114 : decode cL_law 1114 = .ok (.iconst 2, 1) := by decide +kernel
theorem dL_law_1115 : decode cL_law 1115 = .ok (.iadd, 1) := by decide +kernel
theorem dL_law_1116 : decode cL_law 1116 = .ok (.iaload, 1) := by decide +kernel
theorem dL_law_1117 : decode cL_law 1117 = .ok (.aload_n 0, 1) := by decide +kernel
theorem dL_law_1118 : decode cL_law 1118 = .ok (.iload 4, 2) := by decide +kernel
theorem dL_law_1120 : decode cL_law 1120 = .ok (.iconst 3, 1) := by decide +kernel
theorem dL_law_1121 : decode cL_law 1121 = .ok (.iadd, 1) := by decide +kernel
theorem dL_law_1122 : decode cL_law 1122 = .ok (.iaload, 1) := by decide +kernel
theorem dL_law_1123 : decode cL_law 1123 = .ok (.invokevirtual 147, 3) := by decide +kernel
theorem dL_law_1126 : decode cL_law 1126 = .ok (.aload_n 2, 1) := by decide +kernel
theorem dL_law_1127 : decode cL_law 1127 = .ok (.aload_n 0, 1) := by decide +kernel
theorem dL_law_1128 : decode cL_law 1128 = .ok (.iload 4, 2) := by decide +kernel
theorem dL_law_1130 : decode cL_law 1130 = .ok (.iconst 1, 1) := by decide +kernel
theorem dL_law_1131 : decode cL_law 1131 = .ok (.iadd, 1) := by decide +kernel
theorem dL_law_1132 : decode cL_law 1132 = .ok (.iaload, 1) := by decide +kernel
theorem dL_law_1133 : decode cL_law 1133 = .ok (.aload_n 0, 1) := by decide +kernel
theorem dL_law_1134 : decode cL_law 1134 = .ok (.iload 4, 2) := by decide +kernel
theorem dL_law_1136 : decode cL_law 1136 = .ok (.iconst 2, 1) := by decide +kernel
theorem dL_law_1137 : decode cL_law 1137 = .ok (.iadd, 1) := by decide +kernel
theorem dL_law_1138 : decode cL_law 1138 = .ok (.iaload, 1) := by decide +kernel
theorem dL_law_1139 : decode cL_law 1139 = .ok (.aload_n 0, 1) := by decide +kernel
theorem dL_law_1140 : decode cL_law 1140 = .ok (.iload 4, 2) := by decide +kernel
theorem dL_law_1142 : decode cL_law 1142 = .ok (.iconst 3, 1) := by decide +kernel
theorem dL_law_1143 : decode cL_law 1143 = .ok (.iadd, 1) := by decide +kernel
theorem dL_law_1144 : decode cL_law 1144 = .ok (.iaload, 1) := by decide +kernel
theorem dL_law_1145 : decode cL_law 1145 = .ok (.invokevirtual 150, 3) := by decide +kernel
theorem dL_law_1148 : decode cL_law 1148 = .ok (.if_icmp .eq 405, 3) := by decide +kernel
theorem dL_law_1151 : decode cL_law 1151 = .ok (.iconst 0, 1) := by decide +kernel
theorem dL_law_1152 : decode cL_law 1152 = .ok (.ireturn, 1) := by decide +kernel
theorem dL_law_1153 : decode cL_law 1153 = .ok (.aload_n 1, 1) := by decide +kernel
theorem dL_law_1154 : decode cL_law 1154 = .ok (.invokevirtual 151, 3) := by decide +kernel
theorem dL_law_1157 : decode cL_law 1157 = .ok (.aload_n 2, 1) := by decide +kernel
theorem dL_law_1158 : decode cL_law 1158 = .ok (.invokevirtual 154, 3) := by decide +kernel
theorem dL_law_1161 : decode cL_law 1161 = .ok (.if_icmp .eq 392, 3) := by decide +kernel
theorem dL_law_1164 : decode cL_law 1164 = .ok (.iconst 0, 1) := by decide +kernel
theorem dL_law_1165 : decode cL_law 1165 = .ok (.ireturn, 1) := by decide +kernel
theorem dL_law_1166 : decode cL_law 1166 = .ok (.aload_n 1, 1) := by decide +kernel
theorem dL_law_1167 : decode cL_law 1167 = .ok (.invokevirtual 155, 3) := by decide +kernel
theorem dL_law_1170 : decode cL_law 1170 = .ok (.aload_n 2, 1) := by decide +kernel
theorem dL_law_1171 : decode cL_law 1171 = .ok (.invokevirtual 158, 3) := by decide +kernel
theorem dL_law_1174 : decode cL_law 1174 = .ok (.if_icmp .eq 379, 3) := by decide +kernel
theorem dL_law_1177 : decode cL_law 1177 = .ok (.iconst 0, 1) := by decide +kernel
theorem dL_law_1178 : decode cL_law 1178 = .ok (.ireturn, 1) := by decide +kernel
theorem dL_law_1179 : decode cL_law 1179 = .ok (.aload_n 1, 1) := by decide +kernel
theorem dL_law_1180 : decode cL_law 1180 = .ok (.aload_n 0, 1) := by decide +kernel
theorem dL_law_1181 : decode cL_law 1181 = .ok (.iload 4, 2) := by decide +kernel
theorem dL_law_1183 : decode cL_law 1183 = .ok (.iconst 1, 1) := by decide +kernel
theorem dL_law_1184 : decode cL_law 1184 = .ok (.iadd, 1) := by decide +kernel
theorem dL_law_1185 : decode cL_law 1185 = .ok (.iaload, 1) := by decide +kernel
theorem dL_law_1186 : decode cL_law 1186 = .ok (.invokevirtual 159, 3) := by decide +kernel
theorem dL_law_1189 : decode cL_law 1189 = .ok (.aload_n 2, 1) := by decide +kernel
theorem dL_law_1190 : decode cL_law 1190 = .ok (.aload_n 0, 1) := by decide +kernel
theorem dL_law_1191 : decode cL_law 1191 = .ok (.iload 4, 2) := by decide +kernel
theorem dL_law_1193 : decode cL_law 1193 = .ok (.iconst 1, 1) := by decide +kernel
theorem dL_law_1194 : decode cL_law 1194 = .ok (.iadd, 1) := by decide +kernel
theorem dL_law_1195 : decode cL_law 1195 = .ok (.iaload, 1) := by decide +kernel
theorem dL_law_1196 : decode cL_law 1196 = .ok (.invokevirtual 162, 3) := by decide +kernel
theorem dL_law_1199 : decode cL_law 1199 = .ok (.if_icmp .eq 354, 3) := by decide +kernel
theorem dL_law_1202 : decode cL_law 1202 = .ok (.iconst 0, 1) := by decide +kernel
theorem dL_law_1203 : decode cL_law 1203 = .ok (.ireturn, 1) := by decide +kernel
theorem dL_law_1204 : decode cL_law 1204 = .ok (.aload_n 1, 1) := by decide +kernel
theorem dL_law_1205 : decode cL_law 1205 = .ok (.aload_n 0, 1) := by decide +kernel
theorem dL_law_1206 : decode cL_law 1206 = .ok (.iload 4, 2) := by decide +kernel
theorem dL_law_1208 : decode cL_law 1208 = .ok (.iconst 1, 1) := by decide +kernel
theorem dL_law_1209 : decode cL_law 1209 = .ok (.iadd, 1) := by decide +kernel
theorem dL_law_1210 : decode cL_law 1210 = .ok (.iaload, 1) := by decide +kernel
theorem dL_law_1211 : decode cL_law 1211 = .ok (.aload_n 0, 1) := by decide +kernel
theorem dL_law_1212 : decode cL_law 1212 = .ok (.iload 4, 2) := by decide +kernel
theorem dL_law_1214 : decode cL_law 1214 = .ok (.iconst 2, 1) := by decide +kernel
theorem dL_law_1215 : decode cL_law 1215 = .ok (.iadd, 1) := by decide +kernel
theorem dL_law_1216 : decode cL_law 1216 = .ok (.iaload, 1) := by decide +kernel
theorem dL_law_1217 : decode cL_law 1217 = .ok (.aload_n 0, 1) := by decide +kernel
theorem dL_law_1218 : decode cL_law 1218 = .ok (.iload 4, 2) := by decide +kernel
theorem dL_law_1220 : decode cL_law 1220 = .ok (.iconst 3, 1) := by decide +kernel
theorem dL_law_1221 : decode cL_law 1221 = .ok (.iadd, 1) := by decide +kernel
theorem dL_law_1222 : decode cL_law 1222 = .ok (.iaload, 1) := by decide +kernel
theorem dL_law_1223 : decode cL_law 1223 = .ok (.aload_n 0, 1) := by decide +kernel
theorem dL_law_1224 : decode cL_law 1224 = .ok (.iload 4, 2) := by decide +kernel
theorem dL_law_1226 : decode cL_law 1226 = .ok (.iconst 4, 1) := by decide +kernel
theorem dL_law_1227 : decode cL_law 1227 = .ok (.iadd, 1) := by decide +kernel
theorem dL_law_1228 : decode cL_law 1228 = .ok (.iaload, 1) := by decide +kernel
theorem dL_law_1229 : decode cL_law 1229 = .ok (.invokevirtual 163, 3) := by decide +kernel
theorem dL_law_1232 : decode cL_law 1232 = .ok (.aload_n 2, 1) := by decide +kernel
theorem dL_law_1233 : decode cL_law 1233 = .ok (.aload_n 0, 1) := by decide +kernel
theorem dL_law_1234 : decode cL_law 1234 = .ok (.iload 4, 2) := by decide +kernel
theorem dL_law_1236 : decode cL_law 1236 = .ok (.iconst 1, 1) := by decide +kernel
theorem dL_law_1237 : decode cL_law 1237 = .ok (.iadd, 1) := by decide +kernel
theorem dL_law_1238 : decode cL_law 1238 = .ok (.iaload, 1) := by decide +kernel
theorem dL_law_1239 : decode cL_law 1239 = .ok (.aload_n 0, 1) := by decide +kernel
theorem dL_law_1240 : decode cL_law 1240 = .ok (.iload 4, 2) := by decide +kernel
theorem dL_law_1242 : decode cL_law 1242 = .ok (.iconst 2, 1) := by decide +kernel
theorem dL_law_1243 : decode cL_law 1243 = .ok (.iadd, 1) := by decide +kernel
theorem dL_law_1244 : decode cL_law 1244 = .ok (.iaload, 1) := by decide +kernel
theorem dL_law_1245 : decode cL_law 1245 = .ok (.aload_n 0, 1) := by decide +kernel
theorem dL_law_1246 : decode cL_law 1246 = .ok (.iload 4, 2) := by decide +kernel
theorem dL_law_1248 : decode cL_law 1248 = .ok (.iconst 3, 1) := by decide +kernel
theorem dL_law_1249 : decode cL_law 1249 = .ok (.iadd, 1) := by decide +kernel
theorem dL_law_1250 : decode cL_law 1250 = .ok (.iaload, 1) := by decide +kernel
theorem dL_law_1251 : decode cL_law 1251 = .ok (.aload_n 0, 1) := by decide +kernel
theorem dL_law_1252 : decode cL_law 1252 = .ok (.iload 4, 2) := by decide +kernel
theorem dL_law_1254 : decode cL_law 1254 = .ok (.iconst 4, 1) := by decide +kernel
theorem dL_law_1255 : decode cL_law 1255 = .ok (.iadd, 1) := by decide +kernel
theorem dL_law_1256 : decode cL_law 1256 = .ok (.iaload, 1) := by decide +kernel
theorem dL_law_1257 : decode cL_law 1257 = .ok (.invokevirtual 167, 3) := by decide +kernel
theorem dL_law_1260 : decode cL_law 1260 = .ok (.if_icmp .eq 293, 3) := by decide +kernel
theorem dL_law_1263 : decode cL_law 1263 = .ok (.iconst 0, 1) := by decide +kernel
theorem dL_law_1264 : decode cL_law 1264 = .ok (.ireturn, 1) := by decide +kernel
theorem dL_law_1265 : decode cL_law 1265 = .ok (.aload_n 1, 1) := by decide +kernel
theorem dL_law_1266 : decode cL_law 1266 = .ok (.aload_n 0, 1) := by decide +kernel
theorem dL_law_1267 : decode cL_law 1267 = .ok (.iload 4, 2) := by decide +kernel
theorem dL_law_1269 : decode cL_law 1269 = .ok (.iconst 1, 1) := by decide +kernel
theorem dL_law_1270 : decode cL_law 1270 = .ok (.iadd, 1) := by decide +kernel
theorem dL_law_1271 : decode cL_law 1271 = .ok (.iaload, 1) := by decide +kernel
theorem dL_law_1272 : decode cL_law 1272 = .ok (.aload_n 0, 1) := by decide +kernel
theorem dL_law_1273 : decode cL_law 1273 = .ok (.iload 4, 2) := by decide +kernel
theorem dL_law_1275 : decode cL_law 1275 = .ok (.iconst 2, 1) := by decide +kernel
theorem dL_law_1276 : decode cL_law 1276 = .ok (.iadd, 1) := by decide +kernel
theorem dL_law_1277 : decode cL_law 1277 = .ok (.iaload, 1) := by decide +kernel
theorem dL_law_1278 : decode cL_law 1278 = .ok (.aload_n 0, 1) := by decide +kernel
theorem dL_law_1279 : decode cL_law 1279 = .ok (.iload 4, 2) := by decide +kernel
theorem dL_law_1281 : decode cL_law 1281 = .ok (.iconst 3, 1) := by decide +kernel
theorem dL_law_1282 : decode cL_law 1282 = .ok (.iadd, 1) := by decide +kernel
theorem dL_law_1283 : decode cL_law 1283 = .ok (.iaload, 1) := by decide +kernel
theorem dL_law_1284 : decode cL_law 1284 = .ok (.invokevirtual 168, 3) := by decide +kernel
theorem dL_law_1287 : decode cL_law 1287 = .ok (.aload_n 2, 1) := by decide +kernel
theorem dL_law_1288 : decode cL_law 1288 = .ok (.aload_n 0, 1) := by decide +kernel
theorem dL_law_1289 : decode cL_law 1289 = .ok (.iload 4, 2) := by decide +kernel
theorem dL_law_1291 : decode cL_law 1291 = .ok (.iconst 1, 1) := by decide +kernel
theorem dL_law_1292 : decode cL_law 1292 = .ok (.iadd, 1) := by decide +kernel
theorem dL_law_1293 : decode cL_law 1293 = .ok (.iaload, 1) := by decide +kernel
theorem dL_law_1294 : decode cL_law 1294 = .ok (.aload_n 0, 1) := by decide +kernel
theorem dL_law_1295 : decode cL_law 1295 = .ok (.iload 4, 2) := by decide +kernel
theorem dL_law_1297 : decode cL_law 1297 = .ok (.iconst 2, 1) := by decide +kernel
theorem dL_law_1298 : decode cL_law 1298 = .ok (.iadd, 1) := by decide +kernel
theorem dL_law_1299 : decode cL_law 1299 = .ok (.iaload, 1) := by decide +kernel
theorem dL_law_1300 : decode cL_law 1300 = .ok (.aload_n 0, 1) := by decide +kernel
theorem dL_law_1301 : decode cL_law 1301 = .ok (.iload 4, 2) := by decide +kernel
theorem dL_law_1303 : decode cL_law 1303 = .ok (.iconst 3, 1) := by decide +kernel
theorem dL_law_1304 : decode cL_law 1304 = .ok (.iadd, 1) := by decide +kernel
theorem dL_law_1305 : decode cL_law 1305 = .ok (.iaload, 1) := by decide +kernel
theorem dL_law_1306 : decode cL_law 1306 = .ok (.invokevirtual 171, 3) := by decide +kernel
theorem dL_law_1309 : decode cL_law 1309 = .ok (.if_icmp .eq 244, 3) := by decide +kernel
theorem dL_law_1312 : decode cL_law 1312 = .ok (.iconst 0, 1) := by decide +kernel
theorem dL_law_1313 : decode cL_law 1313 = .ok (.ireturn, 1) := by decide +kernel
theorem dL_law_1314 : decode cL_law 1314 = .ok (.aload_n 1, 1) := by decide +kernel
theorem dL_law_1315 : decode cL_law 1315 = .ok (.aload_n 0, 1) := by decide +kernel
theorem dL_law_1316 : decode cL_law 1316 = .ok (.iload 4, 2) := by decide +kernel
theorem dL_law_1318 : decode cL_law 1318 = .ok (.iconst 1, 1) := by decide +kernel
theorem dL_law_1319 : decode cL_law 1319 = .ok (.iadd, 1) := by decide +kernel
theorem dL_law_1320 : decode cL_law 1320 = .ok (.iaload, 1) := by decide +kernel
theorem dL_law_1321 : decode cL_law 1321 = .ok (.aload_n 0, 1) := by decide +kernel
theorem dL_law_1322 : decode cL_law 1322 = .ok (.iload 4, 2) := by decide +kernel
theorem dL_law_1324 : decode cL_law 1324 = .ok (.iconst 2, 1) := by decide +kernel
theorem dL_law_1325 : decode cL_law 1325 = .ok (.iadd, 1) := by decide +kernel
theorem dL_law_1326 : decode cL_law 1326 = .ok (.iaload, 1) := by decide +kernel
theorem dL_law_1327 : decode cL_law 1327 = .ok (.aload_n 0, 1) := by decide +kernel
theorem dL_law_1328 : decode cL_law 1328 = .ok (.iload 4, 2) := by decide +kernel
theorem dL_law_1330 : decode cL_law 1330 = .ok (.iconst 3, 1) := by decide +kernel
theorem dL_law_1331 : decode cL_law 1331 = .ok (.iadd, 1) := by decide +kernel
theorem dL_law_1332 : decode cL_law 1332 = .ok (.iaload, 1) := by decide +kernel
theorem dL_law_1333 : decode cL_law 1333 = .ok (.invokevirtual 172, 3) := by decide +kernel
theorem dL_law_1336 : decode cL_law 1336 = .ok (.aload_n 2, 1) := by decide +kernel
theorem dL_law_1337 : decode cL_law 1337 = .ok (.aload_n 0, 1) := by decide +kernel
theorem dL_law_1338 : decode cL_law 1338 = .ok (.iload 4, 2) := by decide +kernel
theorem dL_law_1340 : decode cL_law 1340 = .ok (.iconst 1, 1) := by decide +kernel
theorem dL_law_1341 : decode cL_law 1341 = .ok (.iadd, 1) := by decide +kernel
theorem dL_law_1342 : decode cL_law 1342 = .ok (.iaload, 1) := by decide +kernel
theorem dL_law_1343 : decode cL_law 1343 = .ok (.aload_n 0, 1) := by decide +kernel
theorem dL_law_1344 : decode cL_law 1344 = .ok (.iload 4, 2) := by decide +kernel
theorem dL_law_1346 : decode cL_law 1346 = .ok (.iconst 2, 1) := by decide +kernel
theorem dL_law_1347 : decode cL_law 1347 = .ok (.iadd, 1) := by decide +kernel
theorem dL_law_1348 : decode cL_law 1348 = .ok (.iaload, 1) := by decide +kernel
theorem dL_law_1349 : decode cL_law 1349 = .ok (.aload_n 0, 1) := by decide +kernel
theorem dL_law_1350 : decode cL_law 1350 = .ok (.iload 4, 2) := by decide +kernel
theorem dL_law_1352 : decode cL_law 1352 = .ok (.iconst 3, 1) := by decide +kernel
theorem dL_law_1353 : decode cL_law 1353 = .ok (.iadd, 1) := by decide +kernel
theorem dL_law_1354 : decode cL_law 1354 = .ok (.iaload, 1) := by decide +kernel
theorem dL_law_1355 : decode cL_law 1355 = .ok (.invokevirtual 175, 3) := by decide +kernel
theorem dL_law_1358 : decode cL_law 1358 = .ok (.if_icmp .eq 195, 3) := by decide +kernel
theorem dL_law_1361 : decode cL_law 1361 = .ok (.iconst 0, 1) := by decide +kernel
theorem dL_law_1362 : decode cL_law 1362 = .ok (.ireturn, 1) := by decide +kernel
theorem dL_law_1363 : decode cL_law 1363 = .ok (.aload_n 1, 1) := by decide +kernel
theorem dL_law_1364 : decode cL_law 1364 = .ok (.aload_n 0, 1) := by decide +kernel
theorem dL_law_1365 : decode cL_law 1365 = .ok (.iload 4, 2) := by decide +kernel
theorem dL_law_1367 : decode cL_law 1367 = .ok (.iconst 1, 1) := by decide +kernel
theorem dL_law_1368 : decode cL_law 1368 = .ok (.iadd, 1) := by decide +kernel
theorem dL_law_1369 : decode cL_law 1369 = .ok (.iaload, 1) := by decide +kernel
theorem dL_law_1370 : decode cL_law 1370 = .ok (.aload_n 0, 1) := by decide +kernel
theorem dL_law_1371 : decode cL_law 1371 = .ok (.iload 4, 2) := by decide +kernel
theorem dL_law_1373 : decode cL_law 1373 = .ok (.iconst 2, 1) := by decide +kernel
theorem dL_law_1374 : decode cL_law 1374 = .ok (.iadd, 1) := by decide +kernel
theorem dL_law_1375 : decode cL_law 1375 = .ok (.iaload, 1) := by decide +kernel
theorem dL_law_1376 : decode cL_law 1376 = .ok (.aload_n 3, 1) := by decide +kernel
theorem dL_law_1377 : decode cL_law 1377 = .ok (.invokestatic 176, 3) := by decide +kernel
theorem dL_law_1380 : decode cL_law 1380 = .ok (.istore 5, 2) := by decide +kernel
theorem dL_law_1382 : decode cL_law 1382 = .ok (.aload_n 2, 1) := by decide +kernel
theorem dL_law_1383 : decode cL_law 1383 = .ok (.aload_n 0, 1) := by decide +kernel
theorem dL_law_1384 : decode cL_law 1384 = .ok (.iload 4, 2) := by decide +kernel
theorem dL_law_1386 : decode cL_law 1386 = .ok (.iconst 1, 1) := by decide +kernel
theorem dL_law_1387 : decode cL_law 1387 = .ok (.iadd, 1) := by decide +kernel
theorem dL_law_1388 : decode cL_law 1388 = .ok (.iaload, 1) := by decide +kernel
theorem dL_law_1389 : decode cL_law 1389 = .ok (.aload_n 0, 1) := by decide +kernel
theorem dL_law_1390 : decode cL_law 1390 = .ok (.iload 4, 2) := by decide +kernel
theorem dL_law_1392 : decode cL_law 1392 = .ok (.iconst 2, 1) := by decide +kernel
theorem dL_law_1393 : decode cL_law 1393 = .ok (.iadd, 1) := by decide +kernel
theorem dL_law_1394 : decode cL_law 1394 = .ok (.iaload, 1) := by decide +kernel
theorem dL_law_1395 : decode cL_law 1395 = .ok (.invokevirtual 181, 3) := by decide +kernel
theorem dL_law_1398 : decode cL_law 1398 = .ok (.lstore 6, 2) := by decide +kernel
theorem dL_law_1400 : decode cL_law 1400 = .ok (.aload_n 2, 1) := by decide +kernel
theorem dL_law_1401 : decode cL_law 1401 = .ok (.invokevirtual 182, 3) := by decide +kernel
theorem dL_law_1404 : decode cL_law 1404 = .ok (.iload 5, 2) := by decide +kernel
theorem dL_law_1406 : decode cL_law 1406 = .ok (.if_icmp .eq 5, 3) := by decide +kernel
theorem dL_law_1409 : decode cL_law 1409 = .ok (.iconst 0, 1) := by decide +kernel
theorem dL_law_1410 : decode cL_law 1410 = .ok (.ireturn, 1) := by decide +kernel
theorem dL_law_1411 : decode cL_law 1411 = .ok (.iload 5, 2) := by decide +kernel
theorem dL_law_1413 : decode cL_law 1413 = .ok (.ifCond .ne 14, 3) := by decide +kernel
theorem dL_law_1416 : decode cL_law 1416 = .ok (.aload_n 3, 1) := by decide +kernel
theorem dL_law_1417 : decode cL_law 1417 = .ok (.iconst 0, 1) := by decide +kernel
theorem dL_law_1418 : decode cL_law 1418 = .ok (.laload, 1) := by decide +kernel
theorem dL_law_1419 : decode cL_law 1419 = .ok (.lload 6, 2) := by decide +kernel
theorem dL_law_1421 : decode cL_law 1421 = .ok (.lcmp, 1) := by decide +kernel
theorem dL_law_1422 : decode cL_law 1422 = .ok (.ifCond .eq 5, 3) := by decide +kernel
theorem dL_law_1425 : decode cL_law 1425 = .ok (.iconst 0, 1) := by decide +kernel
theorem dL_law_1426 : decode cL_law 1426 = .ok (.ireturn, 1) := by decide +kernel
theorem dL_law_1427 : decode cL_law 1427 = .ok (.goto 126, 3) := by decide +kernel
theorem dL_law_1430 : decode cL_law 1430 = .ok (.aload_n 1, 1) := by decide +kernel
theorem dL_law_1431 : decode cL_law 1431 = .ok (.aload_n 0, 1) := by decide +kernel
theorem dL_law_1432 : decode cL_law 1432 = .ok (.iload 4, 2) := by decide +kernel
theorem dL_law_1434 : decode cL_law 1434 = .ok (.iconst 1, 1) := by decide +kernel
theorem dL_law_1435 : decode cL_law 1435 = .ok (.iadd, 1) := by decide +kernel
theorem dL_law_1436 : decode cL_law 1436 = .ok (.iaload, 1) := by decide +kernel
theorem dL_law_1437 : decode cL_law 1437 = .ok (.aload_n 0, 1) := by decide +kernel
theorem dL_law_1438 : decode cL_law 1438 = .ok (.iload 4, 2) := by decide +kernel
theorem dL_law_1440 : decode cL_law 1440 = .ok (.iconst 2, 1) := by decide +kernel
theorem dL_law_1441 : decode cL_law 1441 = .ok (.iadd, 1) := by decide +kernel
theorem dL_law_1442 : decode cL_law 1442 = .ok (.iaload, 1) := by decide +kernel
theorem dL_law_1443 : decode cL_law 1443 = .ok (.aload_n 0, 1) := by decide +kernel
theorem dL_law_1444 : decode cL_law 1444 = .ok (.iload 4, 2) := by decide +kernel
theorem dL_law_1446 : decode cL_law 1446 = .ok (.iconst 3, 1) := by decide +kernel
theorem dL_law_1447 : decode cL_law 1447 = .ok (.iadd, 1) := by decide +kernel
theorem dL_law_1448 : decode cL_law 1448 = .ok (.iaload, 1) := by decide +kernel
theorem dL_law_1449 : decode cL_law 1449 = .ok (.aload_n 0, 1) := by decide +kernel
theorem dL_law_1450 : decode cL_law 1450 = .ok (.iload 4, 2) := by decide +kernel
theorem dL_law_1452 : decode cL_law 1452 = .ok (.iconst 4, 1) := by decide +kernel
theorem dL_law_1453 : decode cL_law 1453 = .ok (.iadd, 1) := by decide +kernel
theorem dL_law_1454 : decode cL_law 1454 = .ok (.iaload, 1) := by decide +kernel
theorem dL_law_1455 : decode cL_law 1455 = .ok (.aload_n 0, 1) := by decide +kernel
theorem dL_law_1456 : decode cL_law 1456 = .ok (.iload 4, 2) := by decide +kernel
theorem dL_law_1458 : decode cL_law 1458 = .ok (.iconst 5, 1) := by decide +kernel
theorem dL_law_1459 : decode cL_law 1459 = .ok (.iadd, 1) := by decide +kernel
theorem dL_law_1460 : decode cL_law 1460 = .ok (.iaload, 1) := by decide +kernel
theorem dL_law_1461 : decode cL_law 1461 = .ok (.invokevirtual 185, 3) := by decide +kernel
theorem dL_law_1464 : decode cL_law 1464 = .ok (.aload_n 2, 1) := by decide +kernel
theorem dL_law_1465 : decode cL_law 1465 = .ok (.aload_n 0, 1) := by decide +kernel
theorem dL_law_1466 : decode cL_law 1466 = .ok (.iload 4, 2) := by decide +kernel
theorem dL_law_1468 : decode cL_law 1468 = .ok (.iconst 1, 1) := by decide +kernel
theorem dL_law_1469 : decode cL_law 1469 = .ok (.iadd, 1) := by decide +kernel
theorem dL_law_1470 : decode cL_law 1470 = .ok (.iaload, 1) := by decide +kernel
theorem dL_law_1471 : decode cL_law 1471 = .ok (.aload_n 0, 1) := by decide +kernel
theorem dL_law_1472 : decode cL_law 1472 = .ok (.iload 4, 2) := by decide +kernel
theorem dL_law_1474 : decode cL_law 1474 = .ok (.iconst 2, 1) := by decide +kernel
theorem dL_law_1475 : decode cL_law 1475 = .ok (.iadd, 1) := by decide +kernel
theorem dL_law_1476 : decode cL_law 1476 = .ok (.iaload, 1) := by decide +kernel
theorem dL_law_1477 : decode cL_law 1477 = .ok (.aload_n 0, 1) := by decide +kernel
theorem dL_law_1478 : decode cL_law 1478 = .ok (.iload 4, 2) := by decide +kernel
theorem dL_law_1480 : decode cL_law 1480 = .ok (.iconst 3, 1) := by decide +kernel
theorem dL_law_1481 : decode cL_law 1481 = .ok (.iadd, 1) := by decide +kernel
theorem dL_law_1482 : decode cL_law 1482 = .ok (.iaload, 1) := by decide +kernel
theorem dL_law_1483 : decode cL_law 1483 = .ok (.aload_n 0, 1) := by decide +kernel
theorem dL_law_1484 : decode cL_law 1484 = .ok (.iload 4, 2) := by decide +kernel
theorem dL_law_1486 : decode cL_law 1486 = .ok (.iconst 4, 1) := by decide +kernel
theorem dL_law_1487 : decode cL_law 1487 = .ok (.iadd, 1) := by decide +kernel
theorem dL_law_1488 : decode cL_law 1488 = .ok (.iaload, 1) := by decide +kernel
theorem dL_law_1489 : decode cL_law 1489 = .ok (.aload_n 0, 1) := by decide +kernel
theorem dL_law_1490 : decode cL_law 1490 = .ok (.iload 4, 2) := by decide +kernel
theorem dL_law_1492 : decode cL_law 1492 = .ok (.iconst 5, 1) := by decide +kernel
theorem dL_law_1493 : decode cL_law 1493 = .ok (.iadd, 1) := by decide +kernel
theorem dL_law_1494 : decode cL_law 1494 = .ok (.iaload, 1) := by decide +kernel
theorem dL_law_1495 : decode cL_law 1495 = .ok (.invokevirtual 189, 3) := by decide +kernel
theorem dL_law_1498 : decode cL_law 1498 = .ok (.if_icmp .eq 55, 3) := by decide +kernel
theorem dL_law_1501 : decode cL_law 1501 = .ok (.iconst 0, 1) := by decide +kernel
theorem dL_law_1502 : decode cL_law 1502 = .ok (.ireturn, 1) := by decide +kernel
theorem dL_law_1503 : decode cL_law 1503 = .ok (.aload_n 1, 1) := by decide +kernel
theorem dL_law_1504 : decode cL_law 1504 = .ok (.aload_n 0, 1) := by decide +kernel
theorem dL_law_1505 : decode cL_law 1505 = .ok (.iload 4, 2) := by decide +kernel
theorem dL_law_1507 : decode cL_law 1507 = .ok (.iconst 1, 1) := by decide +kernel
theorem dL_law_1508 : decode cL_law 1508 = .ok (.iadd, 1) := by decide +kernel
theorem dL_law_1509 : decode cL_law 1509 = .ok (.iaload, 1) := by decide +kernel
theorem dL_law_1510 : decode cL_law 1510 = .ok (.invokevirtual 190, 3) := by decide +kernel
theorem dL_law_1513 : decode cL_law 1513 = .ok (.aload_n 2, 1) := by decide +kernel
theorem dL_law_1514 : decode cL_law 1514 = .ok (.aload_n 0, 1) := by decide +kernel
theorem dL_law_1515 : decode cL_law 1515 = .ok (.iload 4, 2) := by decide +kernel
theorem dL_law_1517 : decode cL_law 1517 = .ok (.iconst 1, 1) := by decide +kernel
theorem dL_law_1518 : decode cL_law 1518 = .ok (.iadd, 1) := by decide +kernel
theorem dL_law_1519 : decode cL_law 1519 = .ok (.iaload, 1) := by decide +kernel
theorem dL_law_1520 : decode cL_law 1520 = .ok (.invokevirtual 193, 3) := by decide +kernel
theorem dL_law_1523 : decode cL_law 1523 = .ok (.if_icmp .eq 30, 3) := by decide +kernel
theorem dL_law_1526 : decode cL_law 1526 = .ok (.iconst 0, 1) := by decide +kernel
theorem dL_law_1527 : decode cL_law 1527 = .ok (.ireturn, 1) := by decide +kernel
theorem dL_law_1528 : decode cL_law 1528 = .ok (.aload_n 1, 1) := by decide +kernel
theorem dL_law_1529 : decode cL_law 1529 = .ok (.aload_n 0, 1) := by decide +kernel
theorem dL_law_1530 : decode cL_law 1530 = .ok (.iload 4, 2) := by decide +kernel
theorem dL_law_1532 : decode cL_law 1532 = .ok (.iconst 1, 1) := by decide +kernel
theorem dL_law_1533 : decode cL_law 1533 = .ok (.iadd, 1) := by decide +kernel
theorem dL_law_1534 : decode cL_law 1534 = .ok (.iaload, 1) := by decide +kernel
theorem dL_law_1535 : decode cL_law 1535 = .ok (.invokevirtual 194, 3) := by decide +kernel
theorem dL_law_1538 : decode cL_law 1538 = .ok (.aload_n 2, 1) := by decide +kernel
theorem dL_law_1539 : decode cL_law 1539 = .ok (.aload_n 0, 1) := by decide +kernel
theorem dL_law_1540 : decode cL_law 1540 = .ok (.iload 4, 2) := by decide +kernel
theorem dL_law_1542 : decode cL_law 1542 = .ok (.iconst 1, 1) := by decide +kernel
theorem dL_law_1543 : decode cL_law 1543 = .ok (.iadd, 1) := by decide +kernel
theorem dL_law_1544 : decode cL_law 1544 = .ok (.iaload, 1) := by decide +kernel
theorem dL_law_1545 : decode cL_law 1545 = .ok (.invokevirtual 197, 3) := by decide +kernel
theorem dL_law_1548 : decode cL_law 1548 = .ok (.if_icmp .eq 5, 3) := by decide +kernel
theorem dL_law_1551 : decode cL_law 1551 = .ok (.iconst 0, 1) := by decide +kernel
theorem dL_law_1552 : decode cL_law 1552 = .ok (.ireturn, 1) := by decide +kernel
theorem dL_law_1553 : decode cL_law 1553 = .ok (.iinc 4 6, 3) := by decide +kernel
theorem dL_law_1556 : decode cL_law 1556 = .ok (.goto (-1533), 3) := by decide +kernel
theorem dL_law_1559 : decode cL_law 1559 = .ok (.iconst 1, 1) := by decide +kernel
theorem dL_law_1560 : decode cL_law 1560 = .ok (.ireturn, 1) := by decide +kernel
