theorem dX0_init_0 : decode cX0_init 0 = .ok (.aload_n 0, 1) := by decide +kernel
theorem dX0_init_1 : decode cX0_init 1 = .ok (.invokespecial 3, 3) := by decide +kernel
theorem dX0_init_4 : decode cX0_init 4 = .ok (.aload_n 0, 1) := by decide +kernel
theorem dX0_init_5 : decode cX0_init 5 = .ok (.iconst 0, 1) := by decide +kernel
theorem dX0_init_6 : decode cX0_init 6 = .ok (.putfield 9, 3) := by decide +kernel
theorem dX0_init_9 : decode cX0_init 9 = .ok (.aload_n 0, 1) := by decide +kernel
theorem dX0_init_10 : decode cX0_init 10 = .ok (.bipush 22, 2) := by decide +kernel
theorem dX0_init_12 : decode cX0_init 12 = .ok (.putfield 15, 3) := by decide +kernel
theorem dX0_init_15 : decode cX0_init 15 = .ok (.aload_n 0, 1) := by decide +kernel
theorem dX0_init_16 : decode cX0_init 16 = .ok (.iconst 0, 1) := by decide +kernel
theorem dX0_init_17 : decode cX0_init 17 = .ok (.putfield 18, 3) := by decide +kernel
theorem dX0_init_20 : decode cX0_init 20 = .ok (.aload_n 0, 1) := by decide +kernel
theorem dX0_init_21 : decode cX0_init 21 = .ok (.iconst 0, 1) := by decide +kernel
theorem dX0_init_22 : decode cX0_init 22 = .ok (.putfield 21, 3) := by decide +kernel
theorem dX0_init_25 : decode cX0_init 25 = .ok (.aload_n 0, 1) := by decide +kernel
theorem dX0_init_26 : decode cX0_init 26 = .ok (.bipush 8, 2) := by decide +kernel
theorem dX0_init_28 : decode cX0_init 28 = .ok (.newarray .int, 2) := by decide +kernel
theorem dX0_init_30 : decode cX0_init 30 = .ok (.putfield 24, 3) := by decide +kernel
theorem dX0_init_33 : decode cX0_init 33 = .ok (.aload_n 0, 1) := by decide +kernel
theorem dX0_init_34 : decode cX0_init 34 = .ok (.bipush 8, 2) := by decide +kernel
theorem dX0_init_36 : decode cX0_init 36 = .ok (.newarray .int, 2) := by decide +kernel
theorem dX0_init_38 : decode cX0_init 38 = .ok (.putfield 28, 3) := by decide +kernel
theorem dX0_init_41 : decode cX0_init 41 = .ok (.aload_n 0, 1) := by decide +kernel
theorem dX0_init_42 : decode cX0_init 42 = .ok (.bipush 8, 2) := by decide +kernel
theorem dX0_init_44 : decode cX0_init 44 = .ok (.newarray .int, 2) := by decide +kernel
theorem dX0_init_46 : decode cX0_init 46 = .ok (.putfield 31, 3) := by decide +kernel
theorem dX0_init_49 : decode cX0_init 49 = .ok (.aload_n 0, 1) := by decide +kernel
theorem dX0_init_50 : decode cX0_init 50 = .ok (.bipush 8, 2) := by decide +kernel
theorem dX0_init_52 : decode cX0_init 52 = .ok (.newarray .int, 2) := by decide +kernel
theorem dX0_init_54 : decode cX0_init 54 = .ok (.putfield 34, 3) := by decide +kernel
theorem dX0_init_57 : decode cX0_init 57 = .ok (.return_, 1) := by decide +kernel
theorem dX0_copyFrom_0 : decode cX0_copyFrom 0 = .ok (.aload_n 0, 1) := by decide +kernel
theorem dX0_copyFrom_1 : decode cX0_copyFrom 1 = .ok (.aload_n 1, 1) := by decide +kernel
theorem dX0_copyFrom_2 : decode cX0_copyFrom 2 = .ok (.getfield 9, 3) := by decide +kernel
theorem dX0_copyFrom_5 : decode cX0_copyFrom 5 = .ok (.putfield 9, 3) := by decide +kernel
theorem dX0_copyFrom_8 : decode cX0_copyFrom 8 = .ok (.aload_n 0, 1) := by decide +kernel
theorem dX0_copyFrom_9 : decode cX0_copyFrom 9 = .ok (.aload_n 1, 1) := by decide +kernel
theorem dX0_copyFrom_10 : decode cX0_copyFrom 10 = .ok (.getfield 15, 3) := by decide +kernel
theorem dX0_copyFrom_13 : decode cX0_copyFrom 13 = .ok (.putfield 15, 3) := by decide +kernel
theorem dX0_copyFrom_16 : decode cX0_copyFrom 16 = .ok (.aload_n 0, 1) := by decide +kernel
theorem dX0_copyFrom_17 : decode cX0_copyFrom 17 = .ok (.aload_n 1, 1) := by decide +kernel
theorem dX0_copyFrom_18 : decode cX0_copyFrom 18 = .ok (.getfield 18, 3) := by decide +kernel
theorem dX0_copyFrom_21 : decode cX0_copyFrom 21 = .ok (.putfield 18, 3) := by decide +kernel
theorem dX0_copyFrom_24 : decode cX0_copyFrom 24 = .ok (.aload_n 0, 1) := by decide +kernel
theorem dX0_copyFrom_25 : decode cX0_copyFrom 25 = .ok (.aload_n 1, 1) := by decide +kernel
theorem dX0_copyFrom_26 : decode cX0_copyFrom 26 = .ok (.getfield 21, 3) := by decide +kernel
theorem dX0_copyFrom_29 : decode cX0_copyFrom 29 = .ok (.putfield 21, 3) := by decide +kernel
theorem dX0_copyFrom_32 : decode cX0_copyFrom 32 = .ok (.aload_n 1, 1) := by decide +kernel
theorem dX0_copyFrom_33 : decode cX0_copyFrom 33 = .ok (.getfield 24, 3) := by decide +kernel
theorem dX0_copyFrom_36 : decode cX0_copyFrom 36 = .ok (.iconst 0, 1) := by decide +kernel
theorem dX0_copyFrom_37 : decode cX0_copyFrom 37 = .ok (.aload_n 0, 1) := by decide +kernel
theorem dX0_copyFrom_38 : decode cX0_copyFrom 38 = .ok (.getfield 24, 3) := by decide +kernel
theorem dX0_copyFrom_41 : decode cX0_copyFrom 41 = .ok (.iconst 0, 1) := by decide +kernel
theorem dX0_copyFrom_42 : decode cX0_copyFrom 42 = .ok (.bipush 8, 2) := by decide +kernel
theorem dX0_copyFrom_44 : decode cX0_copyFrom 44 = .ok (.invokestatic 37, 3) := by decide +kernel
theorem dX0_copyFrom_47 : decode cX0_copyFrom 47 = .ok (.aload_n 1, 1) := by decide +kernel
theorem dX0_copyFrom_48 : decode cX0_copyFrom 48 = .ok (.getfield 28, 3) := by decide +kernel
theorem dX0_copyFrom_51 : decode cX0_copyFrom 51 = .ok (.iconst 0, 1) := by decide +kernel
theorem dX0_copyFrom_52 : decode cX0_copyFrom 52 = .ok (.aload_n 0, 1) := by decide +kernel
theorem dX0_copyFrom_53 : decode cX0_copyFrom 53 = .ok (.getfield 28, 3) := by decide +kernel
theorem dX0_copyFrom_56 : decode cX0_copyFrom 56 = .ok (.iconst 0, 1) := by decide +kernel
theorem dX0_copyFrom_57 : decode cX0_copyFrom 57 = .ok (.bipush 8, 2) := by decide +kernel
theorem dX0_copyFrom_59 : decode cX0_copyFrom 59 = .ok (.invokestatic 37, 3) := by decide +kernel
theorem dX0_copyFrom_62 : decode cX0_copyFrom 62 = .ok (.aload_n 1, 1) := by decide +kernel
theorem dX0_copyFrom_63 : decode cX0_copyFrom 63 = .ok (.getfield 31, 3) := by decide +kernel
theorem dX0_copyFrom_66 : decode cX0_copyFrom 66 = .ok (.iconst 0, 1) := by decide +kernel
theorem dX0_copyFrom_67 : decode cX0_copyFrom 67 = .ok (.aload_n 0, 1) := by decide +kernel
theorem dX0_copyFrom_68 : decode cX0_copyFrom 68 = .ok (.getfield 31, 3) := by decide +kernel
theorem dX0_copyFrom_71 : decode cX0_copyFrom 71 = .ok (.iconst 0, 1) := by decide +kernel
theorem dX0_copyFrom_72 : decode cX0_copyFrom 72 = .ok (.bipush 8, 2) := by decide +kernel
theorem dX0_copyFrom_74 : decode cX0_copyFrom 74 = .ok (.invokestatic 37, 3) := by decide +kernel
theorem dX0_copyFrom_77 : decode cX0_copyFrom 77 = .ok (.return_, 1) := by decide +kernel
theorem dX0_isRow_0 : decode cX0_isRow 0 = .ok (.iload_n 1, 1) := by decide +kernel
theorem dX0_isRow_1 : decode cX0_isRow 1 = .ok (.ifCond .lt 15, 3) := by decide +kernel
theorem dX0_isRow_4 : decode cX0_isRow 4 = .ok (.iload_n 1, 1) := by decide +kernel
theorem dX0_isRow_5 : decode cX0_isRow 5 = .ok (.aload_n 0, 1) := by decide +kernel
theorem dX0_isRow_6 : decode cX0_isRow 6 = .ok (.getfield 9, 3) := by decide +kernel
theorem dX0_isRow_9 : decode cX0_isRow 9 = .ok (.if_icmp .ge 7, 3) := by decide +kernel
theorem dX0_isRow_12 : decode cX0_isRow 12 = .ok (.iconst 1, 1) := by decide +kernel
theorem dX0_isRow_13 : decode cX0_isRow 13 = .ok (.goto 4, 3) := by decide +kernel
theorem dX0_isRow_16 : decode cX0_isRow 16 = .ok (.iconst 0, 1) := by decide +kernel
theorem dX0_isRow_17 : decode cX0_isRow 17 = .ok (.ireturn, 1) := by decide +kernel
theorem dX0_isNight_0 : decode cX0_isNight 0 = .ok (.aload_n 0, 1) := by decide +kernel
theorem dX0_isNight_1 : decode cX0_isNight 1 = .ok (.getfield 15, 3) := by decide +kernel
theorem dX0_isNight_4 : decode cX0_isNight 4 = .ok (.bipush 22, 2) := by decide +kernel
theorem dX0_isNight_6 : decode cX0_isNight 6 = .ok (.if_icmp .ge 11, 3) := by decide +kernel
theorem dX0_isNight_9 : decode cX0_isNight 9 = .ok (.aload_n 0, 1) := by decide +kernel
theorem dX0_isNight_10 : decode cX0_isNight 10 = .ok (.getfield 15, 3) := by decide +kernel
theorem dX0_isNight_13 : decode cX0_isNight 13 = .ok (.iconst 5, 1) := by decide +kernel
theorem dX0_isNight_14 : decode cX0_isNight 14 = .ok (.if_icmp .gt 7, 3) := by decide +kernel
theorem dX0_isNight_17 : decode cX0_isNight 17 = .ok (.iconst 1, 1) := by decide +kernel
theorem dX0_isNight_18 : decode cX0_isNight 18 = .ok (.goto 4, 3) := by decide +kernel
theorem dX0_isNight_21 : decode cX0_isNight 21 = .ok (.iconst 0, 1) := by decide +kernel
theorem dX0_isNight_22 : decode cX0_isNight 22 = .ok (.ireturn, 1) := by decide +kernel
theorem dX0_isBlocked_0 : decode cX0_isBlocked 0 = .ok (.aload_n 0, 1) := by decide +kernel
theorem dX0_isBlocked_1 : decode cX0_isBlocked 1 = .ok (.getfield 21, 3) := by decide +kernel
theorem dX0_isBlocked_4 : decode cX0_isBlocked 4 = .ok (.iload_n 1, 1) := by decide +kernel
theorem dX0_isBlocked_5 : decode cX0_isBlocked 5 = .ok (.ishr, 1) := by decide +kernel
theorem dX0_isBlocked_6 : decode cX0_isBlocked 6 = .ok (.iconst 1, 1) := by decide +kernel
theorem dX0_isBlocked_7 : decode cX0_isBlocked 7 = .ok (.iand, 1) := by decide +kernel
theorem dX0_isBlocked_8 : decode cX0_isBlocked 8 = .ok (.ifCond .eq 7, 3) := by decide +kernel
theorem dX0_isBlocked_11 : decode cX0_isBlocked 11 = .ok (.iconst 1, 1) := by decide +kernel
theorem dX0_isBlocked_12 : decode cX0_isBlocked 12 = .ok (.goto 4, 3) := by decide +kernel
theorem dX0_isBlocked_15 : decode cX0_isBlocked 15 = .ok (.iconst 0, 1) := by decide +kernel
theorem dX0_isBlocked_16 : decode cX0_isBlocked 16 = .ok (.ireturn, 1) := by decide +kernel
theorem dX0_canAt_0 : decode cX0_canAt 0 = .ok (.aload_n 0, 1) := by decide +kernel
theorem dX0_canAt_1 : decode cX0_canAt 1 = .ok (.iload_n 1, 1) := by decide +kernel
theorem dX0_canAt_2 : decode cX0_canAt 2 = .ok (.invokevirtual 43, 3) := by decide +kernel
theorem dX0_canAt_5 : decode cX0_canAt 5 = .ok (.ifCond .eq 21, 3) := by decide +kernel
theorem dX0_canAt_8 : decode cX0_canAt 8 = .ok (.aload_n 0, 1) := by decide +kernel
theorem dX0_canAt_9 : decode cX0_canAt 9 = .ok (.iload_n 1, 1) := by decide +kernel
theorem dX0_canAt_10 : decode cX0_canAt 10 = .ok (.iconst 1, 1) := by decide +kernel
theorem dX0_canAt_11 : decode cX0_canAt 11 = .ok (.iadd, 1) := by decide +kernel
theorem dX0_canAt_12 : decode cX0_canAt 12 = .ok (.invokevirtual 43, 3) := by decide +kernel
theorem dX0_canAt_15 : decode cX0_canAt 15 = .ok (.ifCond .eq 11, 3) := by decide +kernel
theorem dX0_canAt_18 : decode cX0_canAt 18 = .ok (.aload_n 0, 1) := by decide +kernel
theorem dX0_canAt_19 : decode cX0_canAt 19 = .ok (.iload_n 1, 1) := by decide +kernel
theorem dX0_canAt_20 : decode cX0_canAt 20 = .ok (.invokevirtual 47, 3) := by decide +kernel
theorem dX0_canAt_23 : decode cX0_canAt 23 = .ok (.ifCond .eq 5, 3) := by decide +kernel
theorem dX0_canAt_26 : decode cX0_canAt 26 = .ok (.iconst 0, 1) := by decide +kernel
theorem dX0_canAt_27 : decode cX0_canAt 27 = .ok (.ireturn, 1) := by decide +kernel
theorem dX0_canAt_28 : decode cX0_canAt 28 = .ok (.bipush 10, 2) := by decide +kernel
theorem dX0_canAt_30 : decode cX0_canAt 30 = .ok (.aload_n 0, 1) := by decide +kernel
theorem dX0_canAt_31 : decode cX0_canAt 31 = .ok (.getfield 24, 3) := by decide +kernel
theorem dX0_canAt_34 : decode cX0_canAt 34 = .ok (.iload_n 1, 1) := by decide +kernel
theorem dX0_canAt_35 : decode cX0_canAt 35 = .ok (.iconst 1, 1) := by decide +kernel
theorem dX0_canAt_36 : decode cX0_canAt 36 = .ok (.iadd, 1) := by decide +kernel
theorem dX0_canAt_37 : decode cX0_canAt 37 = .ok (.iaload, 1) := by decide +kernel
theorem dX0_canAt_38 : decode cX0_canAt 38 = .ok (.aload_n 0, 1) := by decide +kernel
theorem dX0_canAt_39 : decode cX0_canAt 39 = .ok (.getfield 28, 3) := by decide +kernel
theorem dX0_canAt_42 : decode cX0_canAt 42 = .ok (.iload_n 1, 1) := by decide +kernel
theorem dX0_canAt_43 : decode cX0_canAt 43 = .ok (.iconst 1, 1) := by decide +kernel
theorem dX0_canAt_44 : decode cX0_canAt 44 = .ok (.iadd, 1) := by decide +kernel
theorem dX0_canAt_45 : decode cX0_canAt 45 = .ok (.iaload, 1) := by decide +kernel
theorem dX0_canAt_46 : decode cX0_canAt 46 = .ok (.invokestatic 50, 3) := by decide +kernel
theorem dX0_canAt_49 : decode cX0_canAt 49 = .ok (.isub, 1) := by decide +kernel
theorem dX0_canAt_50 : decode cX0_canAt 50 = .ok (.iconst 0, 1) := by decide +kernel
theorem dX0_canAt_51 : decode cX0_canAt 51 = .ok (.invokestatic 54, 3) := by decide +kernel
theorem dX0_canAt_54 : decode cX0_canAt 54 = .ok (.ireturn, 1) := by decide +kernel
theorem dX0_worthAt_0 : decode cX0_worthAt 0 = .ok (.aload_n 0, 1) := by decide +kernel
theorem dX0_worthAt_1 : decode cX0_worthAt 1 = .ok (.getfield 24, 3) := by decide +kernel
theorem dX0_worthAt_4 : decode cX0_worthAt 4 = .ok (.iload_n 1, 1) := by decide +kernel
theorem dX0_worthAt_5 : decode cX0_worthAt 5 = .ok (.iaload, 1) := by decide +kernel
theorem dX0_worthAt_6 : decode cX0_worthAt 6 = .ok (.aload_n 0, 1) := by decide +kernel
theorem dX0_worthAt_7 : decode cX0_worthAt 7 = .ok (.getfield 28, 3) := by decide +kernel
theorem dX0_worthAt_10 : decode cX0_worthAt 10 = .ok (.iload_n 1, 1) := by decide +kernel
theorem dX0_worthAt_11 : decode cX0_worthAt 11 = .ok (.iaload, 1) := by decide +kernel
theorem dX0_worthAt_12 : decode cX0_worthAt 12 = .ok (.aload_n 0, 1) := by decide +kernel
theorem dX0_worthAt_13 : decode cX0_worthAt 13 = .ok (.invokevirtual 59, 3) := by decide +kernel
theorem dX0_worthAt_16 : decode cX0_worthAt 16 = .ok (.invokestatic 63, 3) := by decide +kernel
theorem dX0_worthAt_19 : decode cX0_worthAt 19 = .ok (.ireturn, 1) := by decide +kernel
theorem dX0_roomAt_0 : decode cX0_roomAt 0 = .ok (.bipush 20, 2) := by decide +kernel
theorem dX0_roomAt_2 : decode cX0_roomAt 2 = .ok (.aload_n 0, 1) := by decide +kernel
theorem dX0_roomAt_3 : decode cX0_roomAt 3 = .ok (.getfield 31, 3) := by decide +kernel
theorem dX0_roomAt_6 : decode cX0_roomAt 6 = .ok (.iload_n 1, 1) := by decide +kernel
theorem dX0_roomAt_7 : decode cX0_roomAt 7 = .ok (.iaload, 1) := by decide +kernel
theorem dX0_roomAt_8 : decode cX0_roomAt 8 = .ok (.iadd, 1) := by decide +kernel
theorem dX0_roomAt_9 : decode cX0_roomAt 9 = .ok (.aload_n 0, 1) := by decide +kernel
theorem dX0_roomAt_10 : decode cX0_roomAt 10 = .ok (.iload_n 1, 1) := by decide +kernel
theorem dX0_roomAt_11 : decode cX0_roomAt 11 = .ok (.invokevirtual 67, 3) := by decide +kernel
theorem dX0_roomAt_14 : decode cX0_roomAt 14 = .ok (.isub, 1) := by decide +kernel
theorem dX0_roomAt_15 : decode cX0_roomAt 15 = .ok (.ireturn, 1) := by decide +kernel
theorem dX0_joyAt_0 : decode cX0_joyAt 0 = .ok (.aload_n 0, 1) := by decide +kernel
theorem dX0_joyAt_1 : decode cX0_joyAt 1 = .ok (.iload_n 1, 1) := by decide +kernel
theorem dX0_joyAt_2 : decode cX0_joyAt 2 = .ok (.invokevirtual 71, 3) := by decide +kernel
theorem dX0_joyAt_5 : decode cX0_joyAt 5 = .ok (.aload_n 0, 1) := by decide +kernel
theorem dX0_joyAt_6 : decode cX0_joyAt 6 = .ok (.iload_n 1, 1) := by decide +kernel
theorem dX0_joyAt_7 : decode cX0_joyAt 7 = .ok (.invokevirtual 74, 3) := by decide +kernel
theorem dX0_joyAt_10 : decode cX0_joyAt 10 = .ok (.bipush 20, 2) := by decide +kernel
theorem dX0_joyAt_12 : decode cX0_joyAt 12 = .ok (.isub, 1) := by decide +kernel
theorem dX0_joyAt_13 : decode cX0_joyAt 13 = .ok (.imul, 1) := by decide +kernel
theorem dX0_joyAt_14 : decode cX0_joyAt 14 = .ok (.ireturn, 1) := by decide +kernel
theorem dX0_tipAhead_0 : decode cX0_tipAhead 0 = .ok (.iload_n 1, 1) := by decide +kernel
theorem dX0_tipAhead_1 : decode cX0_tipAhead 1 = .ok (.ifCond .le 14, 3) := by decide +kernel
theorem dX0_tipAhead_4 : decode cX0_tipAhead 4 = .ok (.aload_n 0, 1) := by decide +kernel
theorem dX0_tipAhead_5 : decode cX0_tipAhead 5 = .ok (.getfield 31, 3) := by decide +kernel
theorem dX0_tipAhead_8 : decode cX0_tipAhead 8 = .ok (.iload_n 1, 1) := by decide +kernel
theorem dX0_tipAhead_9 : decode cX0_tipAhead 9 = .ok (.iconst 1, 1) := by decide +kernel
theorem dX0_tipAhead_10 : decode cX0_tipAhead 10 = .ok (.isub, 1) := by decide +kernel
theorem dX0_tipAhead_11 : decode cX0_tipAhead 11 = .ok (.iaload, 1) := by decide +kernel
theorem dX0_tipAhead_12 : decode cX0_tipAhead 12 = .ok (.goto 4, 3) := by decide +kernel
theorem dX0_tipAhead_15 : decode cX0_tipAhead 15 = .ok (.iconst 0, 1) := by decide +kernel
theorem dX0_tipAhead_16 : decode cX0_tipAhead 16 = .ok (.ireturn, 1) := by decide +kernel
theorem dX0_childBehind_0 : decode cX0_childBehind 0 = .ok (.aload_n 0, 1) := by decide +kernel
theorem dX0_childBehind_1 : decode cX0_childBehind 1 = .ok (.iload_n 1, 1) := by decide +kernel
theorem dX0_childBehind_2 : decode cX0_childBehind 2 = .ok (.iconst 1, 1) := by decide +kernel
theorem dX0_childBehind_3 : decode cX0_childBehind 3 = .ok (.iadd, 1) := by decide +kernel
theorem dX0_childBehind_4 : decode cX0_childBehind 4 = .ok (.invokevirtual 43, 3) := by decide +kernel
theorem dX0_childBehind_7 : decode cX0_childBehind 7 = .ok (.ifCond .eq 32, 3) := by decide +kernel
theorem dX0_childBehind_10 : decode cX0_childBehind 10 = .ok (.aload_n 0, 1) := by decide +kernel
theorem dX0_childBehind_11 : decode cX0_childBehind 11 = .ok (.getfield 24, 3) := by decide +kernel
theorem dX0_childBehind_14 : decode cX0_childBehind 14 = .ok (.iload_n 1, 1) := by decide +kernel
theorem dX0_childBehind_15 : decode cX0_childBehind 15 = .ok (.iconst 1, 1) := by decide +kernel
theorem dX0_childBehind_16 : decode cX0_childBehind 16 = .ok (.iadd, 1) := by decide +kernel
theorem dX0_childBehind_17 : decode cX0_childBehind 17 = .ok (.iaload, 1) := by decide +kernel
theorem dX0_childBehind_18 : decode cX0_childBehind 18 = .ok (.iconst 3, 1) := by decide +kernel
theorem dX0_childBehind_19 : decode cX0_childBehind 19 = .ok (.if_icmp .eq 16, 3) := by decide +kernel
theorem dX0_childBehind_22 : decode cX0_childBehind 22 = .ok (.aload_n 0, 1) := by decide +kernel
theorem dX0_childBehind_23 : decode cX0_childBehind 23 = .ok (.getfield 24, 3) := by decide +kernel
theorem dX0_childBehind_26 : decode cX0_childBehind 26 = .ok (.iload_n 1, 1) := by decide +kernel
theorem dX0_childBehind_27 : decode cX0_childBehind 27 = .ok (.iconst 1, 1) := by decide +kernel
theorem dX0_childBehind_28 : decode cX0_childBehind 28 = .ok (.iadd, 1) := by decide +kernel
theorem dX0_childBehind_29 : decode cX0_childBehind 29 = .ok (.iaload, 1) := by decide +kernel
theorem dX0_childBehind_30 : decode cX0_childBehind 30 = .ok (.bipush 6, 2) := by decide +kernel
theorem dX0_childBehind_32 : decode cX0_childBehind 32 = .ok (.if_icmp .ne 7, 3) := by decide +kernel
theorem dX0_childBehind_35 : decode cX0_childBehind 35 = .ok (.iconst 1, 1) := by decide +kernel
theorem dX0_childBehind_36 : decode cX0_childBehind 36 = .ok (.goto 4, 3) := by decide +kernel
theorem dX0_childBehind_39 : decode cX0_childBehind 39 = .ok (.iconst 0, 1) := by decide +kernel
theorem dX0_childBehind_40 : decode cX0_childBehind 40 = .ok (.ireturn, 1) := by decide +kernel
theorem dX0_allTips_0 : decode cX0_allTips 0 = .ok (.iconst 0, 1) := by decide +kernel
theorem dX0_allTips_1 : decode cX0_allTips 1 = .ok (.istore_n 1, 1) := by decide +kernel
theorem dX0_allTips_2 : decode cX0_allTips 2 = .ok (.iconst 0, 1) := by decide +kernel
theorem dX0_allTips_3 : decode cX0_allTips 3 = .ok (.istore_n 2, 1) := by decide +kernel
theorem dX0_allTips_4 : decode cX0_allTips 4 = .ok (.iload_n 2, 1) := by decide +kernel
theorem dX0_allTips_5 : decode cX0_allTips 5 = .ok (.aload_n 0, 1) := by decide +kernel
theorem dX0_allTips_6 : decode cX0_allTips 6 = .ok (.getfield 9, 3) := by decide +kernel
theorem dX0_allTips_9 : decode cX0_allTips 9 = .ok (.if_icmp .ge 18, 3) := by decide +kernel
theorem dX0_allTips_12 : decode cX0_allTips 12 = .ok (.iload_n 1, 1) := by decide +kernel
theorem dX0_allTips_13 : decode cX0_allTips 13 = .ok (.aload_n 0, 1) := by decide +kernel
theorem dX0_allTips_14 : decode cX0_allTips 14 = .ok (.getfield 31, 3) := by decide +kernel
theorem dX0_allTips_17 : decode cX0_allTips 17 = .ok (.iload_n 2, 1) := by decide +kernel
theorem dX0_allTips_18 : decode cX0_allTips 18 = .ok (.iaload, 1) := by decide +kernel
theorem dX0_allTips_19 : decode cX0_allTips 19 = .ok (.iadd, 1) := by decide +kernel
theorem dX0_allTips_20 : decode cX0_allTips 20 = .ok (.istore_n 1, 1) := by decide +kernel
theorem dX0_allTips_21 : decode cX0_allTips 21 = .ok (.iinc 2 1, 3) := by decide +kernel
theorem dX0_allTips_24 : decode cX0_allTips 24 = .ok (.goto (-20), 3) := by decide +kernel
theorem dX0_allTips_27 : decode cX0_allTips 27 = .ok (.iload_n 1, 1) := by decide +kernel
theorem dX0_allTips_28 : decode cX0_allTips 28 = .ok (.ireturn, 1) := by decide +kernel
theorem dX0_allRoom_0 : decode cX0_allRoom 0 = .ok (.iconst 0, 1) := by decide +kernel
theorem dX0_allRoom_1 : decode cX0_allRoom 1 = .ok (.istore_n 1, 1) := by decide +kernel
theorem dX0_allRoom_2 : decode cX0_allRoom 2 = .ok (.iconst 0, 1) := by decide +kernel
theorem dX0_allRoom_3 : decode cX0_allRoom 3 = .ok (.istore_n 2, 1) := by decide +kernel
theorem dX0_allRoom_4 : decode cX0_allRoom 4 = .ok (.iload_n 2, 1) := by decide +kernel
theorem dX0_allRoom_5 : decode cX0_allRoom 5 = .ok (.aload_n 0, 1) := by decide +kernel
theorem dX0_allRoom_6 : decode cX0_allRoom 6 = .ok (.getfield 9, 3) := by decide +kernel
theorem dX0_allRoom_9 : decode cX0_allRoom 9 = .ok (.if_icmp .ge 17, 3) := by decide +kernel
theorem dX0_allRoom_12 : decode cX0_allRoom 12 = .ok (.iload_n 1, 1) := by decide +kernel
theorem dX0_allRoom_13 : decode cX0_allRoom 13 = .ok (.aload_n 0, 1) := by decide +kernel
theorem dX0_allRoom_14 : decode cX0_allRoom 14 = .ok (.iload_n 2, 1) := by decide +kernel
theorem dX0_allRoom_15 : decode cX0_allRoom 15 = .ok (.invokevirtual 74, 3) := by decide +kernel
theorem dX0_allRoom_18 : decode cX0_allRoom 18 = .ok (.iadd, 1) := by decide +kernel
theorem dX0_allRoom_19 : decode cX0_allRoom 19 = .ok (.istore_n 1, 1) := by decide +kernel
theorem dX0_allRoom_20 : decode cX0_allRoom 20 = .ok (.iinc 2 1, 3) := by decide +kernel
theorem dX0_allRoom_23 : decode cX0_allRoom 23 = .ok (.goto (-19), 3) := by decide +kernel
theorem dX0_allRoom_26 : decode cX0_allRoom 26 = .ok (.iload_n 1, 1) := by decide +kernel
theorem dX0_allRoom_27 : decode cX0_allRoom 27 = .ok (.ireturn, 1) := by decide +kernel
theorem dX0_allJoy_0 : decode cX0_allJoy 0 = .ok (.iconst 0, 1) := by decide +kernel
theorem dX0_allJoy_1 : decode cX0_allJoy 1 = .ok (.istore_n 1, 1) := by decide +kernel
theorem dX0_allJoy_2 : decode cX0_allJoy 2 = .ok (.iconst 0, 1) := by decide +kernel
theorem dX0_allJoy_3 : decode cX0_allJoy 3 = .ok (.istore_n 2, 1) := by decide +kernel
theorem dX0_allJoy_4 : decode cX0_allJoy 4 = .ok (.iload_n 2, 1) := by decide +kernel
theorem dX0_allJoy_5 : decode cX0_allJoy 5 = .ok (.aload_n 0, 1) := by decide +kernel
theorem dX0_allJoy_6 : decode cX0_allJoy 6 = .ok (.getfield 9, 3) := by decide +kernel
theorem dX0_allJoy_9 : decode cX0_allJoy 9 = .ok (.if_icmp .ge 17, 3) := by decide +kernel
theorem dX0_allJoy_12 : decode cX0_allJoy 12 = .ok (.iload_n 1, 1) := by decide +kernel
theorem dX0_allJoy_13 : decode cX0_allJoy 13 = .ok (.aload_n 0, 1) := by decide +kernel
theorem dX0_allJoy_14 : decode cX0_allJoy 14 = .ok (.iload_n 2, 1) := by decide +kernel
theorem dX0_allJoy_15 : decode cX0_allJoy 15 = .ok (.invokevirtual 77, 3) := by decide +kernel
theorem dX0_allJoy_18 : decode cX0_allJoy 18 = .ok (.iadd, 1) := by decide +kernel
theorem dX0_allJoy_19 : decode cX0_allJoy 19 = .ok (.istore_n 1, 1) := by decide +kernel
theorem dX0_allJoy_20 : decode cX0_allJoy 20 = .ok (.iinc 2 1, 3) := by decide +kernel
theorem dX0_allJoy_23 : decode cX0_allJoy 23 = .ok (.goto (-19), 3) := by decide +kernel
theorem dX0_allJoy_26 : decode cX0_allJoy 26 = .ok (.iload_n 1, 1) := by decide +kernel
theorem dX0_allJoy_27 : decode cX0_allJoy 27 = .ok (.ireturn, 1) := by decide +kernel
theorem dX0_tippingRows_0 : decode cX0_tippingRows 0 = .ok (.iconst 0, 1) := by decide +kernel
theorem dX0_tippingRows_1 : decode cX0_tippingRows 1 = .ok (.istore_n 1, 1) := by decide +kernel
theorem dX0_tippingRows_2 : decode cX0_tippingRows 2 = .ok (.iconst 0, 1) := by decide +kernel
theorem dX0_tippingRows_3 : decode cX0_tippingRows 3 = .ok (.istore_n 2, 1) := by decide +kernel
theorem dX0_tippingRows_4 : decode cX0_tippingRows 4 = .ok (.iload_n 2, 1) := by decide +kernel
theorem dX0_tippingRows_5 : decode cX0_tippingRows 5 = .ok (.aload_n 0, 1) := by decide +kernel
theorem dX0_tippingRows_6 : decode cX0_tippingRows 6 = .ok (.getfield 9, 3) := by decide +kernel
theorem dX0_tippingRows_9 : decode cX0_tippingRows 9 = .ok (.if_icmp .ge 24, 3) := by decide +kernel
theorem dX0_tippingRows_12 : decode cX0_tippingRows 12 = .ok (.aload_n 0, 1) := by decide +kernel
theorem dX0_tippingRows_13 : decode cX0_tippingRows 13 = .ok (.getfield 31, 3) := by decide +kernel
theorem dX0_tippingRows_16 : decode cX0_tippingRows 16 = .ok (.iload_n 2, 1) := by decide +kernel
theorem dX0_tippingRows_17 : decode cX0_tippingRows 17 = .ok (.iaload, 1) := by decide +kernel
theorem dX0_tippingRows_18 : decode cX0_tippingRows 18 = .ok (.ifCond .le 9, 3) := by decide +kernel
theorem dX0_tippingRows_21 : decode cX0_tippingRows 21 = .ok (.iload_n 1, 1) := by decide +kernel
theorem dX0_tippingRows_22 : decode cX0_tippingRows 22 = .ok (.iconst 1, 1) := by decide +kernel
theorem dX0_tippingRows_23 : decode cX0_tippingRows 23 = .ok (.iload_n 2, 1) := by decide +kernel
theorem dX0_tippingRows_24 : decode cX0_tippingRows 24 = .ok (.ishl, 1) := by decide +kernel
theorem dX0_tippingRows_25 : decode cX0_tippingRows 25 = .ok (.ior, 1) := by decide +kernel
theorem dX0_tippingRows_26 : decode cX0_tippingRows 26 = .ok (.istore_n 1, 1) := by decide +kernel
theorem dX0_tippingRows_27 : decode cX0_tippingRows 27 = .ok (.iinc 2 1, 3) := by decide +kernel
theorem dX0_tippingRows_30 : decode cX0_tippingRows 30 = .ok (.goto (-26), 3) := by decide +kernel
theorem dX0_tippingRows_33 : decode cX0_tippingRows 33 = .ok (.iload_n 1, 1) := by decide +kernel
theorem dX0_tippingRows_34 : decode cX0_tippingRows 34 = .ok (.ireturn, 1) := by decide +kernel
theorem dX0_tippingFrom_0 : decode cX0_tippingFrom 0 = .ok (.iload_n 1, 1) := by decide +kernel
theorem dX0_tippingFrom_1 : decode cX0_tippingFrom 1 = .ok (.istore_n 2, 1) := by decide +kernel
theorem dX0_tippingFrom_2 : decode cX0_tippingFrom 2 = .ok (.iload_n 2, 1) := by decide +kernel
theorem dX0_tippingFrom_3 : decode cX0_tippingFrom 3 = .ok (.aload_n 0, 1) := by decide +kernel
theorem dX0_tippingFrom_4 : decode cX0_tippingFrom 4 = .ok (.getfield 9, 3) := by decide +kernel
theorem dX0_tippingFrom_7 : decode cX0_tippingFrom 7 = .ok (.if_icmp .ge 18, 3) := by decide +kernel
theorem dX0_tippingFrom_10 : decode cX0_tippingFrom 10 = .ok (.aload_n 0, 1) := by decide +kernel
theorem dX0_tippingFrom_11 : decode cX0_tippingFrom 11 = .ok (.getfield 31, 3) := by decide +kernel
theorem dX0_tippingFrom_14 : decode cX0_tippingFrom 14 = .ok (.iload_n 2, 1) := by decide +kernel
theorem dX0_tippingFrom_15 : decode cX0_tippingFrom 15 = .ok (.iaload, 1) := by decide +kernel
theorem dX0_tippingFrom_16 : decode cX0_tippingFrom 16 = .ok (.ifCond .le 9, 3) := by decide +kernel
theorem dX0_tippingFrom_19 : decode cX0_tippingFrom 19 = .ok (.iinc 2 1, 3) := by decide +kernel
theorem dX0_tippingFrom_22 : decode cX0_tippingFrom 22 = .ok (.goto (-20), 3) := by decide +kernel
theorem dX0_tippingFrom_25 : decode cX0_tippingFrom 25 = .ok (.iload_n 2, 1) := by decide +kernel
theorem dX0_tippingFrom_26 : decode cX0_tippingFrom 26 = .ok (.iload_n 1, 1) := by decide +kernel
theorem dX0_tippingFrom_27 : decode cX0_tippingFrom 27 = .ok (.isub, 1) := by decide +kernel
theorem dX0_tippingFrom_28 : decode cX0_tippingFrom 28 = .ok (.ireturn, 1) := by decide +kernel
theorem dX0_sitDown_0 : decode cX0_sitDown 0 = .ok (.aload_n 0, 1) := by decide +kernel
theorem dX0_sitDown_1 : decode cX0_sitDown 1 = .ok (.getfield 9, 3) := by decide +kernel
theorem dX0_sitDown_4 : decode cX0_sitDown 4 = .ok (.bipush 8, 2) := by decide +kernel
theorem dX0_sitDown_6 : decode cX0_sitDown 6 = .ok (.if_icmp .ge 23, 3) := by decide +kernel
theorem dX0_sitDown_9 : decode cX0_sitDown 9 = .ok (.iload_n 1, 1) := by decide +kernel
theorem dX0_sitDown_10 : decode cX0_sitDown 10 = .ok (.ifCond .lt 19, 3) := by decide +kernel
theorem dX0_sitDown_13 : decode cX0_sitDown 13 = .ok (.iload_n 1, 1) := by decide +kernel
theorem dX0_sitDown_14 : decode cX0_sitDown 14 = .ok (.bipush 8, 2) := by decide +kernel
theorem dX0_sitDown_16 : decode cX0_sitDown 16 = .ok (.if_icmp .ge 13, 3) := by decide +kernel
theorem dX0_sitDown_19 : decode cX0_sitDown 19 = .ok (.iload_n 2, 1) := by decide +kernel
theorem dX0_sitDown_20 : decode cX0_sitDown 20 = .ok (.ifCond .lt 9, 3) := by decide +kernel
theorem dX0_sitDown_23 : decode cX0_sitDown 23 = .ok (.iload_n 2, 1) := by decide +kernel
theorem dX0_sitDown_24 : decode cX0_sitDown 24 = .ok (.bipush 10, 2) := by decide +kernel
theorem dX0_sitDown_26 : decode cX0_sitDown 26 = .ok (.if_icmp .lt 5, 3) := by decide +kernel
theorem dX0_sitDown_29 : decode cX0_sitDown 29 = .ok (.iconst 0, 1) := by decide +kernel
theorem dX0_sitDown_30 : decode cX0_sitDown 30 = .ok (.ireturn, 1) := by decide +kernel
theorem dX0_sitDown_31 : decode cX0_sitDown 31 = .ok (.aload_n 0, 1) := by decide +kernel
theorem dX0_sitDown_32 : decode cX0_sitDown 32 = .ok (.getfield 24, 3) := by decide +kernel
theorem dX0_sitDown_35 : decode cX0_sitDown 35 = .ok (.aload_n 0, 1) := by decide +kernel
theorem dX0_sitDown_36 : decode cX0_sitDown 36 = .ok (.getfield 9, 3) := by decide +kernel
theorem dX0_sitDown_39 : decode cX0_sitDown 39 = .ok (.iload_n 1, 1) := by decide +kernel
theorem dX0_sitDown_40 : decode cX0_sitDown 40 = .ok (.iastore, 1) := by decide +kernel
theorem dX0_sitDown_41 : decode cX0_sitDown 41 = .ok (.aload_n 0, 1) := by decide +kernel
theorem dX0_sitDown_42 : decode cX0_sitDown 42 = .ok (.getfield 28, 3) := by decide +kernel
theorem dX0_sitDown_45 : decode cX0_sitDown 45 = .ok (.aload_n 0, 1) := by decide +kernel
theorem dX0_sitDown_46 : decode cX0_sitDown 46 = .ok (.getfield 9, 3) := by decide +kernel
theorem dX0_sitDown_49 : decode cX0_sitDown 49 = .ok (.iload_n 2, 1) := by decide +kernel
theorem dX0_sitDown_50 : decode cX0_sitDown 50 = .ok (.iastore, 1) := by decide +kernel
theorem dX0_sitDown_51 : decode cX0_sitDown 51 = .ok (.aload_n 0, 1) := by decide +kernel
theorem dX0_sitDown_52 : decode cX0_sitDown 52 = .ok (.getfield 31, 3) := by decide +kernel
theorem dX0_sitDown_55 : decode cX0_sitDown 55 = .ok (.aload_n 0, 1) := by decide +kernel
theorem dX0_sitDown_56 : decode cX0_sitDown 56 = .ok (.getfield 9, 3) := by decide +kernel
theorem dX0_sitDown_59 : decode cX0_sitDown 59 = .ok (.iconst 0, 1) := by decide +kernel
theorem dX0_sitDown_60 : decode cX0_sitDown 60 = .ok (.iastore, 1) := by decide +kernel
theorem dX0_sitDown_61 : decode cX0_sitDown 61 = .ok (.aload_n 0, 1) := by decide +kernel
theorem dX0_sitDown_62 : decode cX0_sitDown 62 = .ok (.dup, 1) := by decide +kernel
theorem dX0_sitDown_63 : decode cX0_sitDown 63 = .ok (.getfield 9, 3) := by decide +kernel
theorem dX0_sitDown_66 : decode cX0_sitDown 66 = .ok (.iconst 1, 1) := by decide +kernel
theorem dX0_sitDown_67 : decode cX0_sitDown 67 = .ok (.iadd, 1) := by decide +kernel
theorem dX0_sitDown_68 : decode cX0_sitDown 68 = .ok (.putfield 9, 3) := by decide +kernel
theorem dX0_sitDown_71 : decode cX0_sitDown 71 = .ok (.iconst 1, 1) := by decide +kernel
theorem dX0_sitDown_72 : decode cX0_sitDown 72 = .ok (.ireturn, 1) := by decide +kernel
theorem dX0_setTip_0 : decode cX0_setTip 0 = .ok (.aload_n 0, 1) := by decide +kernel
theorem dX0_setTip_1 : decode cX0_setTip 1 = .ok (.iload_n 1, 1) := by decide +kernel
theorem dX0_setTip_2 : decode cX0_setTip 2 = .ok (.invokevirtual 43, 3) := by decide +kernel
theorem dX0_setTip_5 : decode cX0_setTip 5 = .ok (.ifCond .eq 16, 3) := by decide +kernel
theorem dX0_setTip_8 : decode cX0_setTip 8 = .ok (.iload_n 2, 1) := by decide +kernel
theorem dX0_setTip_9 : decode cX0_setTip 9 = .ok (.ifCond .lt 12, 3) := by decide +kernel
theorem dX0_setTip_12 : decode cX0_setTip 12 = .ok (.iload_n 2, 1) := by decide +kernel
theorem dX0_setTip_13 : decode cX0_setTip 13 = .ok (.aload_n 0, 1) := by decide +kernel
theorem dX0_setTip_14 : decode cX0_setTip 14 = .ok (.iload_n 1, 1) := by decide +kernel
theorem dX0_setTip_15 : decode cX0_setTip 15 = .ok (.invokevirtual 80, 3) := by decide +kernel
theorem dX0_setTip_18 : decode cX0_setTip 18 = .ok (.if_icmp .le 5, 3) := by decide +kernel
theorem dX0_setTip_21 : decode cX0_setTip 21 = .ok (.iconst 0, 1) := by decide +kernel
theorem dX0_setTip_22 : decode cX0_setTip 22 = .ok (.ireturn, 1) := by decide +kernel
theorem dX0_setTip_23 : decode cX0_setTip 23 = .ok (.aload_n 0, 1) := by decide +kernel
theorem dX0_setTip_24 : decode cX0_setTip 24 = .ok (.getfield 31, 3) := by decide +kernel
theorem dX0_setTip_27 : decode cX0_setTip 27 = .ok (.iload_n 1, 1) := by decide +kernel
theorem dX0_setTip_28 : decode cX0_setTip 28 = .ok (.iload_n 2, 1) := by decide +kernel
theorem dX0_setTip_29 : decode cX0_setTip 29 = .ok (.iastore, 1) := by decide +kernel
theorem dX0_setTip_30 : decode cX0_setTip 30 = .ok (.iconst 1, 1) := by decide +kernel
theorem dX0_setTip_31 : decode cX0_setTip 31 = .ok (.ireturn, 1) := by decide +kernel
theorem dX0_blockOrFree_0 : decode cX0_blockOrFree 0 = .ok (.aload_n 0, 1) := by decide +kernel
theorem dX0_blockOrFree_1 : decode cX0_blockOrFree 1 = .ok (.iload_n 1, 1) := by decide +kernel
theorem dX0_blockOrFree_2 : decode cX0_blockOrFree 2 = .ok (.invokevirtual 43, 3) := by decide +kernel
theorem dX0_blockOrFree_5 : decode cX0_blockOrFree 5 = .ok (.ifCond .ne 5, 3) := by decide +kernel
theorem dX0_blockOrFree_8 : decode cX0_blockOrFree 8 = .ok (.iconst 0, 1) := by decide +kernel
theorem dX0_blockOrFree_9 : decode cX0_blockOrFree 9 = .ok (.ireturn, 1) := by decide +kernel
theorem dX0_blockOrFree_10 : decode cX0_blockOrFree 10 = .ok (.aload_n 0, 1) := by decide +kernel
theorem dX0_blockOrFree_11 : decode cX0_blockOrFree 11 = .ok (.iload_n 1, 1) := by decide +kernel
theorem dX0_blockOrFree_12 : decode cX0_blockOrFree 12 = .ok (.invokevirtual 47, 3) := by decide +kernel
theorem dX0_blockOrFree_15 : decode cX0_blockOrFree 15 = .ok (.ifCond .eq 20, 3) := by decide +kernel
theorem dX0_blockOrFree_18 : decode cX0_blockOrFree 18 = .ok (.aload_n 0, 1) := by decide +kernel
theorem dX0_blockOrFree_19 : decode cX0_blockOrFree 19 = .ok (.dup, 1) := by decide +kernel
theorem dX0_blockOrFree_20 : decode cX0_blockOrFree 20 = .ok (.getfield 21, 3) := by decide +kernel
theorem dX0_blockOrFree_23 : decode cX0_blockOrFree 23 = .ok (.iconst 1, 1) := by decide +kernel
theorem dX0_blockOrFree_24 : decode cX0_blockOrFree 24 = .ok (.iload_n 1, 1) := by decide +kernel
theorem dX0_blockOrFree_25 : decode cX0_blockOrFree 25 = .ok (.ishl, 1) := by decide +kernel
theorem dX0_blockOrFree_26 : decode cX0_blockOrFree 26 = .ok (.iconst (-1), 1) := by decide +kernel
theorem dX0_blockOrFree_27 : decode cX0_blockOrFree 27 = .ok (.ixor, 1) := by decide +kernel
theorem dX0_blockOrFree_28 : decode cX0_blockOrFree 28 = .ok (.iand, 1) := by decide +kernel
theorem dX0_blockOrFree_29 : decode cX0_blockOrFree 29 = .ok (.putfield 21, 3) := by decide +kernel
theorem dX0_blockOrFree_32 : decode cX0_blockOrFree 32 = .ok (.goto 10, 3) := by decide +kernel
theorem dX0_blockOrFree_35 : decode cX0_blockOrFree 35 = .ok (.aload_n 0, 1) := by decide +kernel
theorem dX0_blockOrFree_36 : decode cX0_blockOrFree 36 = .ok (.iconst 1, 1) := by decide +kernel
theorem dX0_blockOrFree_37 : decode cX0_blockOrFree 37 = .ok (.iload_n 1, 1) := by decide +kernel
theorem dX0_blockOrFree_38 : decode cX0_blockOrFree 38 = .ok (.ishl, 1) := by decide +kernel
theorem dX0_blockOrFree_39 : decode cX0_blockOrFree 39 = .ok (.invokevirtual 83, 3) := by decide +kernel
theorem dX0_blockOrFree_42 : decode cX0_blockOrFree 42 = .ok (.iconst 1, 1) := by decide +kernel
theorem dX0_blockOrFree_43 : decode cX0_blockOrFree 43 = .ok (.ireturn, 1) := by decide +kernel
theorem dX0_block_0 : decode cX0_block 0 = .ok (.aload_n 0, 1) := by decide +kernel
theorem dX0_block_1 : decode cX0_block 1 = .ok (.dup, 1) := by decide +kernel
theorem dX0_block_2 : decode cX0_block 2 = .ok (.getfield 21, 3) := by decide +kernel
theorem dX0_block_5 : decode cX0_block 5 = .ok (.iload_n 1, 1) := by decide +kernel
theorem dX0_block_6 : decode cX0_block 6 = .ok (.ior, 1) := by decide +kernel
theorem dX0_block_7 : decode cX0_block 7 = .ok (.putfield 21, 3) := by decide +kernel
theorem dX0_block_10 : decode cX0_block 10 = .ok (.iconst 0, 1) := by decide +kernel
theorem dX0_block_11 : decode cX0_block 11 = .ok (.istore_n 2, 1) := by decide +kernel
theorem dX0_block_12 : decode cX0_block 12 = .ok (.iload_n 2, 1) := by decide +kernel
theorem dX0_block_13 : decode cX0_block 13 = .ok (.aload_n 0, 1) := by decide +kernel
theorem dX0_block_14 : decode cX0_block 14 = .ok (.getfield 9, 3) := by decide +kernel
theorem dX0_block_17 : decode cX0_block 17 = .ok (.if_icmp .ge 24, 3) := by decide +kernel
theorem dX0_block_20 : decode cX0_block 20 = .ok (.aload_n 0, 1) := by decide +kernel
theorem dX0_block_21 : decode cX0_block 21 = .ok (.iload_n 2, 1) := by decide +kernel
theorem dX0_block_22 : decode cX0_block 22 = .ok (.invokevirtual 47, 3) := by decide +kernel
theorem dX0_block_25 : decode cX0_block 25 = .ok (.ifCond .eq 10, 3) := by decide +kernel
theorem dX0_block_28 : decode cX0_block 28 = .ok (.aload_n 0, 1) := by decide +kernel
theorem dX0_block_29 : decode cX0_block 29 = .ok (.getfield 31, 3) := by decide +kernel
theorem dX0_block_32 : decode cX0_block 32 = .ok (.iload_n 2, 1) := by decide +kernel
theorem dX0_block_33 : decode cX0_block 33 = .ok (.iconst 0, 1) := by decide +kernel
theorem dX0_block_34 : decode cX0_block 34 = .ok (.iastore, 1) := by decide +kernel
theorem dX0_block_35 : decode cX0_block 35 = .ok (.iinc 2 1, 3) := by decide +kernel
theorem dX0_block_38 : decode cX0_block 38 = .ok (.goto (-26), 3) := by decide +kernel
theorem dX0_block_41 : decode cX0_block 41 = .ok (.return_, 1) := by decide +kernel
theorem dX0_setClock_0 : decode cX0_setClock 0 = .ok (.iload_n 1, 1) := by decide +kernel
theorem dX0_setClock_1 : decode cX0_setClock 1 = .ok (.ifCond .lt 9, 3) := by decide +kernel
theorem dX0_setClock_4 : decode cX0_setClock 4 = .ok (.iload_n 1, 1) := by decide +kernel
theorem dX0_setClock_5 : decode cX0_setClock 5 = .ok (.bipush 24, 2) := by decide +kernel
theorem dX0_setClock_7 : decode cX0_setClock 7 = .ok (.if_icmp .lt 5, 3) := by decide +kernel
theorem dX0_setClock_10 : decode cX0_setClock 10 = .ok (.iconst 0, 1) := by decide +kernel
theorem dX0_setClock_11 : decode cX0_setClock 11 = .ok (.ireturn, 1) := by decide +kernel
theorem dX0_setClock_12 : decode cX0_setClock 12 = .ok (.aload_n 0, 1) := by decide +kernel
theorem dX0_setClock_13 : decode cX0_setClock 13 = .ok (.iload_n 1, 1) := by decide +kernel
theorem dX0_setClock_14 : decode cX0_setClock 14 = .ok (.putfield 15, 3) := by decide +kernel
theorem dX0_setClock_17 : decode cX0_setClock 17 = .ok (.iconst 1, 1) := by decide +kernel
theorem dX0_setClock_18 : decode cX0_setClock 18 = .ok (.ireturn, 1) := by decide +kernel
theorem dX0_changePlaces_0 : decode cX0_changePlaces 0 = .ok (.aload_n 0, 1) := by decide +kernel
theorem dX0_changePlaces_1 : decode cX0_changePlaces 1 = .ok (.iload_n 1, 1) := by decide +kernel
theorem dX0_changePlaces_2 : decode cX0_changePlaces 2 = .ok (.invokevirtual 43, 3) := by decide +kernel
theorem dX0_changePlaces_5 : decode cX0_changePlaces 5 = .ok (.ifCond .eq 16, 3) := by decide +kernel
theorem dX0_changePlaces_8 : decode cX0_changePlaces 8 = .ok (.aload_n 0, 1) := by decide +kernel
theorem dX0_changePlaces_9 : decode cX0_changePlaces 9 = .ok (.iload_n 2, 1) := by decide +kernel
theorem dX0_changePlaces_10 : decode cX0_changePlaces 10 = .ok (.invokevirtual 43, 3) := by decide +kernel
theorem dX0_changePlaces_13 : decode cX0_changePlaces 13 = .ok (.ifCond .eq 8, 3) := by decide +kernel
theorem dX0_changePlaces_16 : decode cX0_changePlaces 16 = .ok (.iload_n 1, 1) := by decide +kernel
theorem dX0_changePlaces_17 : decode cX0_changePlaces 17 = .ok (.iload_n 2, 1) := by decide +kernel
theorem dX0_changePlaces_18 : decode cX0_changePlaces 18 = .ok (.if_icmp .ne 5, 3) := by decide +kernel
theorem dX0_changePlaces_21 : decode cX0_changePlaces 21 = .ok (.iconst 0, 1) := by decide +kernel
theorem dX0_changePlaces_22 : decode cX0_changePlaces 22 = .ok (.ireturn, 1) := by decide +kernel
theorem dX0_changePlaces_23 : decode cX0_changePlaces 23 = .ok (.aload_n 0, 1) := by decide +kernel
theorem dX0_changePlaces_24 : decode cX0_changePlaces 24 = .ok (.getfield 24, 3) := by decide +kernel
theorem dX0_changePlaces_27 : decode cX0_changePlaces 27 = .ok (.iload_n 1, 1) := by decide +kernel
theorem dX0_changePlaces_28 : decode cX0_changePlaces 28 = .ok (.iaload, 1) := by decide +kernel
theorem dX0_changePlaces_29 : decode cX0_changePlaces 29 = .ok (.istore_n 3, 1) := by decide +kernel
theorem dX0_changePlaces_30 : decode cX0_changePlaces 30 = .ok (.aload_n 0, 1) := by decide +kernel
theorem dX0_changePlaces_31 : decode cX0_changePlaces 31 = .ok (.getfield 28, 3) := by decide +kernel
theorem dX0_changePlaces_34 : decode cX0_changePlaces 34 = .ok (.iload_n 1, 1) := by decide +kernel
theorem dX0_changePlaces_35 : decode cX0_changePlaces 35 = .ok (.iaload, 1) := by decide +kernel
theorem dX0_changePlaces_36 : decode cX0_changePlaces 36 = .ok (.istore 4, 2) := by decide +kernel
theorem dX0_changePlaces_38 : decode cX0_changePlaces 38 = .ok (.aload_n 0, 1) := by decide +kernel
theorem dX0_changePlaces_39 : decode cX0_changePlaces 39 = .ok (.getfield 24, 3) := by decide +kernel
theorem dX0_changePlaces_42 : decode cX0_changePlaces 42 = .ok (.iload_n 1, 1) := by decide +kernel
theorem dX0_changePlaces_43 : decode cX0_changePlaces 43 = .ok (.aload_n 0, 1) := by decide +kernel
theorem dX0_changePlaces_44 : decode cX0_changePlaces 44 = .ok (.getfield 24, 3) := by decide +kernel
theorem dX0_changePlaces_47 : decode cX0_changePlaces 47 = .ok (.iload_n 2, 1) := by decide +kernel
theorem dX0_changePlaces_48 : decode cX0_changePlaces 48 = .ok (.iaload, 1) := by decide +kernel
theorem dX0_changePlaces_49 : decode cX0_changePlaces 49 = .ok (.iastore, 1) := by decide +kernel
theorem dX0_changePlaces_50 : decode cX0_changePlaces 50 = .ok (.aload_n 0, 1) := by decide +kernel
theorem dX0_changePlaces_51 : decode cX0_changePlaces 51 = .ok (.getfield 28, 3) := by decide +kernel
theorem dX0_changePlaces_54 : decode cX0_changePlaces 54 = .ok (.iload_n 1, 1) := by decide +kernel
theorem dX0_changePlaces_55 : decode cX0_changePlaces 55 = .ok (.aload_n 0, 1) := by decide +kernel
theorem dX0_changePlaces_56 : decode cX0_changePlaces 56 = .ok (.getfield 28, 3) := by decide +kernel
theorem dX0_changePlaces_59 : decode cX0_changePlaces 59 = .ok (.iload_n 2, 1) := by decide +kernel
theorem dX0_changePlaces_60 : decode cX0_changePlaces 60 = .ok (.iaload, 1) := by decide +kernel
theorem dX0_changePlaces_61 : decode cX0_changePlaces 61 = .ok (.iastore, 1) := by decide +kernel
theorem dX0_changePlaces_62 : decode cX0_changePlaces 62 = .ok (.aload_n 0, 1) := by decide +kernel
theorem dX0_changePlaces_63 : decode cX0_changePlaces 63 = .ok (.getfield 24, 3) := by decide +kernel
theorem dX0_changePlaces_66 : decode cX0_changePlaces 66 = .ok (.iload_n 2, 1) := by decide +kernel
theorem dX0_changePlaces_67 : decode cX0_changePlaces 67 = .ok (.iload_n 3, 1) := by decide +kernel
theorem dX0_changePlaces_68 : decode cX0_changePlaces 68 = .ok (.iastore, 1) := by decide +kernel
theorem dX0_changePlaces_69 : decode cX0_changePlaces 69 = .ok (.aload_n 0, 1) := by decide +kernel
theorem dX0_changePlaces_70 : decode cX0_changePlaces 70 = .ok (.getfield 28, 3) := by decide +kernel
theorem dX0_changePlaces_73 : decode cX0_changePlaces 73 = .ok (.iload_n 2, 1) := by decide +kernel
theorem dX0_changePlaces_74 : decode cX0_changePlaces 74 = .ok (.iload 4, 2) := by decide +kernel
theorem dX0_changePlaces_76 : decode cX0_changePlaces 76 = .ok (.iastore, 1) := by decide +kernel
theorem dX0_changePlaces_77 : decode cX0_changePlaces 77 = .ok (.aload_n 0, 1) := by decide +kernel
theorem dX0_changePlaces_78 : decode cX0_changePlaces 78 = .ok (.invokevirtual 87, 3) := by decide +kernel
theorem dX0_changePlaces_81 : decode cX0_changePlaces 81 = .ok (.iconst 1, 1) := by decide +kernel
theorem dX0_changePlaces_82 : decode cX0_changePlaces 82 = .ok (.ireturn, 1) := by decide +kernel
theorem dX0_sitUp_0 : decode cX0_sitUp 0 = .ok (.aload_n 0, 1) := by decide +kernel
theorem dX0_sitUp_1 : decode cX0_sitUp 1 = .ok (.getfield 31, 3) := by decide +kernel
theorem dX0_sitUp_4 : decode cX0_sitUp 4 = .ok (.iconst 0, 1) := by decide +kernel
theorem dX0_sitUp_5 : decode cX0_sitUp 5 = .ok (.invokestatic 90, 3) := by decide +kernel
theorem dX0_sitUp_8 : decode cX0_sitUp 8 = .ok (.return_, 1) := by decide +kernel
theorem dX0_travel_0 : decode cX0_travel 0 = .ok (.iload_n 1, 1) := by decide +kernel
theorem dX0_travel_1 : decode cX0_travel 1 = .ok (.iconst 1, 1) := by decide +kernel
theorem dX0_travel_2 : decode cX0_travel 2 = .ok (.if_icmp .lt 21, 3) := by decide +kernel
theorem dX0_travel_5 : decode cX0_travel 5 = .ok (.iload_n 1, 1) := by decide +kernel
theorem dX0_travel_6 : decode cX0_travel 6 = .ok (.bipush 60, 2) := by decide +kernel
theorem dX0_travel_8 : decode cX0_travel 8 = .ok (.if_icmp .gt 15, 3) := by decide +kernel
theorem dX0_travel_11 : decode cX0_travel 11 = .ok (.aload_n 0, 1) := by decide +kernel
theorem dX0_travel_12 : decode cX0_travel 12 = .ok (.getfield 18, 3) := by decide +kernel
theorem dX0_travel_15 : decode cX0_travel 15 = .ok (.iload_n 1, 1) := by decide +kernel
theorem dX0_travel_16 : decode cX0_travel 16 = .ok (.iadd, 1) := by decide +kernel
theorem dX0_travel_17 : decode cX0_travel 17 = .ok (.sipush 999, 3) := by decide +kernel
theorem dX0_travel_20 : decode cX0_travel 20 = .ok (.if_icmp .le 5, 3) := by decide +kernel
theorem dX0_travel_23 : decode cX0_travel 23 = .ok (.iconst 0, 1) := by decide +kernel
theorem dX0_travel_24 : decode cX0_travel 24 = .ok (.ireturn, 1) := by decide +kernel
theorem dX0_travel_25 : decode cX0_travel 25 = .ok (.aload_n 0, 1) := by decide +kernel
theorem dX0_travel_26 : decode cX0_travel 26 = .ok (.dup, 1) := by decide +kernel
theorem dX0_travel_27 : decode cX0_travel 27 = .ok (.getfield 18, 3) := by decide +kernel
theorem dX0_travel_30 : decode cX0_travel 30 = .ok (.iload_n 1, 1) := by decide +kernel
theorem dX0_travel_31 : decode cX0_travel 31 = .ok (.iadd, 1) := by decide +kernel
theorem dX0_travel_32 : decode cX0_travel 32 = .ok (.putfield 18, 3) := by decide +kernel
theorem dX0_travel_35 : decode cX0_travel 35 = .ok (.aload_n 0, 1) := by decide +kernel
theorem dX0_travel_36 : decode cX0_travel 36 = .ok (.iload_n 1, 1) := by decide +kernel
theorem dX0_travel_37 : decode cX0_travel 37 = .ok (.invokevirtual 96, 3) := by decide +kernel
theorem dX0_travel_40 : decode cX0_travel 40 = .ok (.pop, 1) := by decide +kernel
theorem dX0_travel_41 : decode cX0_travel 41 = .ok (.iconst 1, 1) := by decide +kernel
theorem dX0_travel_42 : decode cX0_travel 42 = .ok (.ireturn, 1) := by decide +kernel
theorem dX0_goOn_0 : decode cX0_goOn 0 = .ok (.iconst 0, 1) := by decide +kernel
theorem dX0_goOn_1 : decode cX0_goOn 1 = .ok (.istore_n 2, 1) := by decide +kernel
theorem dX0_goOn_2 : decode cX0_goOn 2 = .ok (.iload_n 2, 1) := by decide +kernel
theorem dX0_goOn_3 : decode cX0_goOn 3 = .ok (.aload_n 0, 1) := by decide +kernel
theorem dX0_goOn_4 : decode cX0_goOn 4 = .ok (.getfield 9, 3) := by decide +kernel
theorem dX0_goOn_7 : decode cX0_goOn 7 = .ok (.if_icmp .ge 20, 3) := by decide +kernel
theorem dX0_goOn_10 : decode cX0_goOn 10 = .ok (.aload_n 0, 1) := by decide +kernel
theorem dX0_goOn_11 : decode cX0_goOn 11 = .ok (.getfield 34, 3) := by decide +kernel
theorem dX0_goOn_14 : decode cX0_goOn 14 = .ok (.iload_n 2, 1) := by decide +kernel
theorem dX0_goOn_15 : decode cX0_goOn 15 = .ok (.aload_n 0, 1) := by decide +kernel
theorem dX0_goOn_16 : decode cX0_goOn 16 = .ok (.iload_n 2, 1) := by decide +kernel
theorem dX0_goOn_17 : decode cX0_goOn 17 = .ok (.invokevirtual 80, 3) := by decide +kernel
theorem dX0_goOn_20 : decode cX0_goOn 20 = .ok (.iastore, 1) := by decide +kernel
theorem dX0_goOn_21 : decode cX0_goOn 21 = .ok (.iinc 2 1, 3) := by decide +kernel
theorem dX0_goOn_24 : decode cX0_goOn 24 = .ok (.goto (-22), 3) := by decide +kernel
theorem dX0_goOn_27 : decode cX0_goOn 27 = .ok (.aload_n 0, 1) := by decide +kernel
theorem dX0_goOn_28 : decode cX0_goOn 28 = .ok (.invokevirtual 59, 3) := by decide +kernel
theorem dX0_goOn_31 : decode cX0_goOn 31 = .ok (.istore_n 2, 1) := by decide +kernel
theorem dX0_goOn_32 : decode cX0_goOn 32 = .ok (.iconst 0, 1) := by decide +kernel
theorem dX0_goOn_33 : decode cX0_goOn 33 = .ok (.istore_n 3, 1) := by decide +kernel
theorem dX0_goOn_34 : decode cX0_goOn 34 = .ok (.iload_n 3, 1) := by decide +kernel
theorem dX0_goOn_35 : decode cX0_goOn 35 = .ok (.iload_n 1, 1) := by decide +kernel
theorem dX0_goOn_36 : decode cX0_goOn 36 = .ok (.if_icmp .ge 19, 3) := by decide +kernel
theorem dX0_goOn_39 : decode cX0_goOn 39 = .ok (.aload_n 0, 1) := by decide +kernel
theorem dX0_goOn_40 : decode cX0_goOn 40 = .ok (.iload_n 2, 1) := by decide +kernel
theorem dX0_goOn_41 : decode cX0_goOn 41 = .ok (.invokevirtual 99, 3) := by decide +kernel
theorem dX0_goOn_44 : decode cX0_goOn 44 = .ok (.ifCond .ne 5, 3) := by decide +kernel
theorem dX0_goOn_47 : decode cX0_goOn 47 = .ok (.iload_n 3, 1) := by decide +kernel
theorem dX0_goOn_48 : decode cX0_goOn 48 = .ok (.ireturn, 1) := by decide +kernel
theorem dX0_goOn_49 : decode cX0_goOn 49 = .ok (.iinc 3 1, 3) := by decide +kernel
theorem dX0_goOn_52 : decode cX0_goOn 52 = .ok (.goto (-18), 3) := by decide +kernel
theorem dX0_goOn_55 : decode cX0_goOn 55 = .ok (.iload_n 1, 1) := by decide +kernel
theorem dX0_goOn_56 : decode cX0_goOn 56 = .ok (.ireturn, 1) := by decide +kernel
theorem dX0_roundStirs_0 : decode cX0_roundStirs 0 = .ok (.iconst 0, 1) := by decide +kernel
theorem dX0_roundStirs_1 : decode cX0_roundStirs 1 = .ok (.istore_n 2, 1) := by decide +kernel
theorem dX0_roundStirs_2 : decode cX0_roundStirs 2 = .ok (.aload_n 0, 1) := by decide +kernel
theorem dX0_roundStirs_3 : decode cX0_roundStirs 3 = .ok (.getfield 9, 3) := by decide +kernel
theorem dX0_roundStirs_6 : decode cX0_roundStirs 6 = .ok (.iconst 1, 1) := by decide +kernel
theorem dX0_roundStirs_7 : decode cX0_roundStirs 7 = .ok (.isub, 1) := by decide +kernel
theorem dX0_roundStirs_8 : decode cX0_roundStirs 8 = .ok (.istore_n 3, 1) := by decide +kernel
theorem dX0_roundStirs_9 : decode cX0_roundStirs 9 = .ok (.iload_n 3, 1) := by decide +kernel
theorem dX0_roundStirs_10 : decode cX0_roundStirs 10 = .ok (.ifCond .lt 62, 3) := by decide +kernel
theorem dX0_roundStirs_13 : decode cX0_roundStirs 13 = .ok (.aload_n 0, 1) := by decide +kernel
theorem dX0_roundStirs_14 : decode cX0_roundStirs 14 = .ok (.getfield 24, 3) := by decide +kernel
theorem dX0_roundStirs_17 : decode cX0_roundStirs 17 = .ok (.iload_n 3, 1) := by decide +kernel
theorem dX0_roundStirs_18 : decode cX0_roundStirs 18 = .ok (.iaload, 1) := by decide +kernel
theorem dX0_roundStirs_19 : decode cX0_roundStirs 19 = .ok (.aload_n 0, 1) := by decide +kernel
theorem dX0_roundStirs_20 : decode cX0_roundStirs 20 = .ok (.getfield 28, 3) := by decide +kernel
theorem dX0_roundStirs_23 : decode cX0_roundStirs 23 = .ok (.iload_n 3, 1) := by decide +kernel
theorem dX0_roundStirs_24 : decode cX0_roundStirs 24 = .ok (.iaload, 1) := by decide +kernel
theorem dX0_roundStirs_25 : decode cX0_roundStirs 25 = .ok (.aload_n 0, 1) := by decide +kernel
theorem dX0_roundStirs_26 : decode cX0_roundStirs 26 = .ok (.iload_n 3, 1) := by decide +kernel
theorem dX0_roundStirs_27 : decode cX0_roundStirs 27 = .ok (.invokevirtual 67, 3) := by decide +kernel
theorem dX0_roundStirs_30 : decode cX0_roundStirs 30 = .ok (.iload_n 1, 1) := by decide +kernel
theorem dX0_roundStirs_31 : decode cX0_roundStirs 31 = .ok (.invokestatic 103, 3) := by decide +kernel
theorem dX0_roundStirs_34 : decode cX0_roundStirs 34 = .ok (.aload_n 0, 1) := by decide +kernel
theorem dX0_roundStirs_35 : decode cX0_roundStirs 35 = .ok (.getfield 34, 3) := by decide +kernel
theorem dX0_roundStirs_38 : decode cX0_roundStirs 38 = .ok (.iload_n 3, 1) := by decide +kernel
theorem dX0_roundStirs_39 : decode cX0_roundStirs 39 = .ok (.iaload, 1) := by decide +kernel
theorem dX0_roundStirs_40 : decode cX0_roundStirs 40 = .ok (.invokestatic 107, 3) := by decide +kernel
theorem dX0_roundStirs_43 : decode cX0_roundStirs 43 = .ok (.istore 4, 2) := by decide +kernel
theorem dX0_roundStirs_45 : decode cX0_roundStirs 45 = .ok (.iload 4, 2) := by decide +kernel
theorem dX0_roundStirs_47 : decode cX0_roundStirs 47 = .ok (.aload_n 0, 1) := by decide +kernel
theorem dX0_roundStirs_48 : decode cX0_roundStirs 48 = .ok (.getfield 31, 3) := by decide +kernel
theorem dX0_roundStirs_51 : decode cX0_roundStirs 51 = .ok (.iload_n 3, 1) := by decide +kernel
theorem dX0_roundStirs_52 : decode cX0_roundStirs 52 = .ok (.iaload, 1) := by decide +kernel
theorem dX0_roundStirs_53 : decode cX0_roundStirs 53 = .ok (.if_icmp .eq 13, 3) := by decide +kernel
theorem dX0_roundStirs_56 : decode cX0_roundStirs 56 = .ok (.aload_n 0, 1) := by decide +kernel
theorem dX0_roundStirs_57 : decode cX0_roundStirs 57 = .ok (.getfield 31, 3) := by decide +kernel
theorem dX0_roundStirs_60 : decode cX0_roundStirs 60 = .ok (.iload_n 3, 1) := by decide +kernel
theorem dX0_roundStirs_61 : decode cX0_roundStirs 61 = .ok (.iload 4, 2) := by decide +kernel
theorem dX0_roundStirs_63 : decode cX0_roundStirs 63 = .ok (.iastore, 1) := by decide +kernel
theorem dX0_roundStirs_64 : decode cX0_roundStirs 64 = .ok (.iconst 1, 1) := by decide +kernel
theorem dX0_roundStirs_65 : decode cX0_roundStirs 65 = .ok (.istore_n 2, 1) := by decide +kernel
theorem dX0_roundStirs_66 : decode cX0_roundStirs 66 = .ok (.iinc 3 (-1), 3) := by decide +kernel
theorem dX0_roundStirs_69 : decode cX0_roundStirs 69 = .ok (.goto (-60), 3) := by decide +kernel
theorem dX0_roundStirs_72 : decode cX0_roundStirs 72 = .ok (.iload_n 2, 1) := by decide +kernel
theorem dX0_roundStirs_73 : decode cX0_roundStirs 73 = .ok (.ireturn, 1) := by decide +kernel
theorem dX1_init_0 : decode cX1_init 0 = .ok (.aload_n 0, 1) := by decide +kernel
theorem dX1_init_1 : decode cX1_init 1 = .ok (.invokespecial 3, 3) := by decide +kernel
theorem dX1_init_4 : decode cX1_init 4 = .ok (.aload_n 0, 1) := by decide +kernel
theorem dX1_init_5 : decode cX1_init 5 = .ok (.iconst 0, 1) := by decide +kernel
theorem dX1_init_6 : decode cX1_init 6 = .ok (.putfield 11, 3) := by decide +kernel
theorem dX1_init_9 : decode cX1_init 9 = .ok (.aload_n 0, 1) := by decide +kernel
theorem dX1_init_10 : decode cX1_init 10 = .ok (.iconst 0, 1) := by decide +kernel
theorem dX1_init_11 : decode cX1_init 11 = .ok (.putfield 15, 3) := by decide +kernel
theorem dX1_init_14 : decode cX1_init 14 = .ok (.aload_n 0, 1) := by decide +kernel
theorem dX1_init_15 : decode cX1_init 15 = .ok (.iconst 0, 1) := by decide +kernel
theorem dX1_init_16 : decode cX1_init 16 = .ok (.putfield 18, 3) := by decide +kernel
theorem dX1_init_19 : decode cX1_init 19 = .ok (.aload_n 0, 1) := by decide +kernel
theorem dX1_init_20 : decode cX1_init 20 = .ok (.iconst 0, 1) := by decide +kernel
theorem dX1_init_21 : decode cX1_init 21 = .ok (.putfield 21, 3) := by decide +kernel
theorem dX1_init_24 : decode cX1_init 24 = .ok (.aload_n 0, 1) := by decide +kernel
theorem dX1_init_25 : decode cX1_init 25 = .ok (.iconst 0, 1) := by decide +kernel
theorem dX1_init_26 : decode cX1_init 26 = .ok (.putfield 24, 3) := by decide +kernel
theorem dX1_init_29 : decode cX1_init 29 = .ok (.aload_n 0, 1) := by decide +kernel
theorem dX1_init_30 : decode cX1_init 30 = .ok (.bipush 100, 2) := by decide +kernel
theorem dX1_init_32 : decode cX1_init 32 = .ok (.newarray .int, 2) := by decide +kernel
theorem dX1_init_34 : decode cX1_init 34 = .ok (.putfield 27, 3) := by decide +kernel
theorem dX1_init_37 : decode cX1_init 37 = .ok (.return_, 1) := by decide +kernel
theorem dX1_refusalUnless_0 : decode cX1_refusalUnless 0 = .ok (.aload_n 0, 1) := by decide +kernel
theorem dX1_refusalUnless_1 : decode cX1_refusalUnless 1 = .ok (.getfield 11, 3) := by decide +kernel
theorem dX1_refusalUnless_4 : decode cX1_refusalUnless 4 = .ok (.ifCond .ne 6, 3) := by decide +kernel
theorem dX1_refusalUnless_7 : decode cX1_refusalUnless 7 = .ok (.bipush (-11), 2) := by decide +kernel
theorem dX1_refusalUnless_9 : decode cX1_refusalUnless 9 = .ok (.ireturn, 1) := by decide +kernel
theorem dX1_refusalUnless_10 : decode cX1_refusalUnless 10 = .ok (.aload_n 0, 1) := by decide +kernel
theorem dX1_refusalUnless_11 : decode cX1_refusalUnless 11 = .ok (.getfield 11, 3) := by decide +kernel
theorem dX1_refusalUnless_14 : decode cX1_refusalUnless 14 = .ok (.iload_n 1, 1) := by decide +kernel
theorem dX1_refusalUnless_15 : decode cX1_refusalUnless 15 = .ok (.if_icmp .ne 7, 3) := by decide +kernel
theorem dX1_refusalUnless_18 : decode cX1_refusalUnless 18 = .ok (.iconst 0, 1) := by decide +kernel
theorem dX1_refusalUnless_19 : decode cX1_refusalUnless 19 = .ok (.goto 5, 3) := by decide +kernel
theorem dX1_refusalUnless_22 : decode cX1_refusalUnless 22 = .ok (.bipush (-12), 2) := by decide +kernel
theorem dX1_refusalUnless_24 : decode cX1_refusalUnless 24 = .ok (.ireturn, 1) := by decide +kernel
theorem dX1_isPlace_0 : decode cX1_isPlace 0 = .ok (.iload_n 1, 1) := by decide +kernel
theorem dX1_isPlace_1 : decode cX1_isPlace 1 = .ok (.ifCond .lt 15, 3) := by decide +kernel
theorem dX1_isPlace_4 : decode cX1_isPlace 4 = .ok (.iload_n 1, 1) := by decide +kernel
theorem dX1_isPlace_5 : decode cX1_isPlace 5 = .ok (.aload_n 0, 1) := by decide +kernel
theorem dX1_isPlace_6 : decode cX1_isPlace 6 = .ok (.getfield 24, 3) := by decide +kernel
theorem dX1_isPlace_9 : decode cX1_isPlace 9 = .ok (.if_icmp .ge 7, 3) := by decide +kernel
theorem dX1_isPlace_12 : decode cX1_isPlace 12 = .ok (.iconst 1, 1) := by decide +kernel
theorem dX1_isPlace_13 : decode cX1_isPlace 13 = .ok (.goto 4, 3) := by decide +kernel
theorem dX1_isPlace_16 : decode cX1_isPlace 16 = .ok (.iconst 0, 1) := by decide +kernel
theorem dX1_isPlace_17 : decode cX1_isPlace 17 = .ok (.ireturn, 1) := by decide +kernel
theorem dX1_hasPart_0 : decode cX1_hasPart 0 = .ok (.iload_n 1, 1) := by decide +kernel
theorem dX1_hasPart_1 : decode cX1_hasPart 1 = .ok (.ifCond .lt 29, 3) := by decide +kernel
theorem dX1_hasPart_4 : decode cX1_hasPart 4 = .ok (.iload_n 1, 1) := by decide +kernel
theorem dX1_hasPart_5 : decode cX1_hasPart 5 = .ok (.aload_n 0, 1) := by decide +kernel
theorem dX1_hasPart_6 : decode cX1_hasPart 6 = .ok (.getfield 24, 3) := by decide +kernel
theorem dX1_hasPart_9 : decode cX1_hasPart 9 = .ok (.if_icmp .gt 21, 3) := by decide +kernel
theorem dX1_hasPart_12 : decode cX1_hasPart 12 = .ok (.iload_n 2, 1) := by decide +kernel
theorem dX1_hasPart_13 : decode cX1_hasPart 13 = .ok (.ifCond .lt 17, 3) := by decide +kernel
theorem dX1_hasPart_16 : decode cX1_hasPart 16 = .ok (.iload_n 2, 1) := by decide +kernel
theorem dX1_hasPart_17 : decode cX1_hasPart 17 = .ok (.aload_n 0, 1) := by decide +kernel
theorem dX1_hasPart_18 : decode cX1_hasPart 18 = .ok (.getfield 24, 3) := by decide +kernel
theorem dX1_hasPart_21 : decode cX1_hasPart 21 = .ok (.iload_n 1, 1) := by decide +kernel
theorem dX1_hasPart_22 : decode cX1_hasPart 22 = .ok (.isub, 1) := by decide +kernel
theorem dX1_hasPart_23 : decode cX1_hasPart 23 = .ok (.if_icmp .gt 7, 3) := by decide +kernel
theorem dX1_hasPart_26 : decode cX1_hasPart 26 = .ok (.iconst 1, 1) := by decide +kernel
theorem dX1_hasPart_27 : decode cX1_hasPart 27 = .ok (.goto 4, 3) := by decide +kernel
theorem dX1_hasPart_30 : decode cX1_hasPart 30 = .ok (.iconst 0, 1) := by decide +kernel
theorem dX1_hasPart_31 : decode cX1_hasPart 31 = .ok (.ireturn, 1) := by decide +kernel
theorem dX1_isSkipped_0 : decode cX1_isSkipped 0 = .ok (.aload_n 0, 1) := by decide +kernel
theorem dX1_isSkipped_1 : decode cX1_isSkipped 1 = .ok (.iload_n 1, 1) := by decide +kernel
theorem dX1_isSkipped_2 : decode cX1_isSkipped 2 = .ok (.invokevirtual 31, 3) := by decide +kernel
theorem dX1_isSkipped_5 : decode cX1_isSkipped 5 = .ok (.ifCond .eq 23, 3) := by decide +kernel
theorem dX1_isSkipped_8 : decode cX1_isSkipped 8 = .ok (.aload_n 0, 1) := by decide +kernel
theorem dX1_isSkipped_9 : decode cX1_isSkipped 9 = .ok (.getfield 27, 3) := by decide +kernel
theorem dX1_isSkipped_12 : decode cX1_isSkipped 12 = .ok (.iload_n 1, 1) := by decide +kernel
theorem dX1_isSkipped_13 : decode cX1_isSkipped 13 = .ok (.iaload, 1) := by decide +kernel
theorem dX1_isSkipped_14 : decode cX1_isSkipped 14 = .ok (.aload_n 0, 1) := by decide +kernel
theorem dX1_isSkipped_15 : decode cX1_isSkipped 15 = .ok (.getfield 21, 3) := by decide +kernel
theorem dX1_isSkipped_18 : decode cX1_isSkipped 18 = .ok (.invokestatic 35, 3) := by decide +kernel
theorem dX1_isSkipped_21 : decode cX1_isSkipped 21 = .ok (.if_icmp .ne 7, 3) := by decide +kernel
theorem dX1_isSkipped_24 : decode cX1_isSkipped 24 = .ok (.iconst 1, 1) := by decide +kernel
theorem dX1_isSkipped_25 : decode cX1_isSkipped 25 = .ok (.goto 4, 3) := by decide +kernel
theorem dX1_isSkipped_28 : decode cX1_isSkipped 28 = .ok (.iconst 0, 1) := by decide +kernel
theorem dX1_isSkipped_29 : decode cX1_isSkipped 29 = .ok (.ireturn, 1) := by decide +kernel
theorem dX1_byteAt_0 : decode cX1_byteAt 0 = .ok (.aload_n 0, 1) := by decide +kernel
theorem dX1_byteAt_1 : decode cX1_byteAt 1 = .ok (.iload_n 1, 1) := by decide +kernel
theorem dX1_byteAt_2 : decode cX1_byteAt 2 = .ok (.invokevirtual 31, 3) := by decide +kernel
theorem dX1_byteAt_5 : decode cX1_byteAt 5 = .ok (.ifCond .eq 12, 3) := by decide +kernel
theorem dX1_byteAt_8 : decode cX1_byteAt 8 = .ok (.aload_n 0, 1) := by decide +kernel
theorem dX1_byteAt_9 : decode cX1_byteAt 9 = .ok (.getfield 27, 3) := by decide +kernel
theorem dX1_byteAt_12 : decode cX1_byteAt 12 = .ok (.iload_n 1, 1) := by decide +kernel
theorem dX1_byteAt_13 : decode cX1_byteAt 13 = .ok (.iaload, 1) := by decide +kernel
theorem dX1_byteAt_14 : decode cX1_byteAt 14 = .ok (.goto 4, 3) := by decide +kernel
theorem dX1_byteAt_17 : decode cX1_byteAt 17 = .ok (.iconst (-1), 1) := by decide +kernel
theorem dX1_byteAt_18 : decode cX1_byteAt 18 = .ok (.ireturn, 1) := by decide +kernel
theorem dX1_digitAt_0 : decode cX1_digitAt 0 = .ok (.aload_n 0, 1) := by decide +kernel
theorem dX1_digitAt_1 : decode cX1_digitAt 1 = .ok (.iload_n 1, 1) := by decide +kernel
theorem dX1_digitAt_2 : decode cX1_digitAt 2 = .ok (.invokevirtual 39, 3) := by decide +kernel
theorem dX1_digitAt_5 : decode cX1_digitAt 5 = .ok (.bipush 48, 2) := by decide +kernel
theorem dX1_digitAt_7 : decode cX1_digitAt 7 = .ok (.isub, 1) := by decide +kernel
theorem dX1_digitAt_8 : decode cX1_digitAt 8 = .ok (.ireturn, 1) := by decide +kernel
theorem dX2_init_0 : decode cX2_init 0 = .ok (.aload_n 0, 1) := by decide +kernel
theorem dX2_init_1 : decode cX2_init 1 = .ok (.invokespecial 3, 3) := by decide +kernel
theorem dX2_init_4 : decode cX2_init 4 = .ok (.aload_n 0, 1) := by decide +kernel
theorem dX2_init_5 : decode cX2_init 5 = .ok (.new 9, 3) := by decide +kernel
theorem dX2_init_8 : decode cX2_init 8 = .ok (.dup, 1) := by decide +kernel
theorem dX2_init_9 : decode cX2_init 9 = .ok (.invokespecial 11, 3) := by decide +kernel
theorem dX2_init_12 : decode cX2_init 12 = .ok (.putfield 12, 3) := by decide +kernel
theorem dX2_init_15 : decode cX2_init 15 = .ok (.aload_n 0, 1) := by decide +kernel
theorem dX2_init_16 : decode cX2_init 16 = .ok (.new 9, 3) := by decide +kernel
theorem dX2_init_19 : decode cX2_init 19 = .ok (.dup, 1) := by decide +kernel
theorem dX2_init_20 : decode cX2_init 20 = .ok (.invokespecial 11, 3) := by decide +kernel
theorem dX2_init_23 : decode cX2_init 23 = .ok (.putfield 16, 3) := by decide +kernel
theorem dX2_init_26 : decode cX2_init 26 = .ok (.aload_n 0, 1) := by decide +kernel
theorem dX2_init_27 : decode cX2_init 27 = .ok (.new 9, 3) := by decide +kernel
theorem dX2_init_30 : decode cX2_init 30 = .ok (.dup, 1) := by decide +kernel
theorem dX2_init_31 : decode cX2_init 31 = .ok (.invokespecial 11, 3) := by decide +kernel
theorem dX2_init_34 : decode cX2_init 34 = .ok (.putfield 19, 3) := by decide +kernel
theorem dX2_init_37 : decode cX2_init 37 = .ok (.aload_n 0, 1) := by decide +kernel
theorem dX2_init_38 : decode cX2_init 38 = .ok (.iconst 0, 1) := by decide +kernel
theorem dX2_init_39 : decode cX2_init 39 = .ok (.putfield 22, 3) := by decide +kernel
theorem dX2_init_42 : decode cX2_init 42 = .ok (.aload_n 0, 1) := by decide +kernel
theorem dX2_init_43 : decode cX2_init 43 = .ok (.bipush 8, 2) := by decide +kernel
theorem dX2_init_45 : decode cX2_init 45 = .ok (.anewarray 26, 3) := by decide +kernel
theorem dX2_init_48 : decode cX2_init 48 = .ok (.putfield 28, 3) := by decide +kernel
theorem dX2_init_51 : decode cX2_init 51 = .ok (.aload_n 0, 1) := by decide +kernel
theorem dX2_init_52 : decode cX2_init 52 = .ok (.bipush 6, 2) := by decide +kernel
theorem dX2_init_54 : decode cX2_init 54 = .ok (.newarray .int, 2) := by decide +kernel
theorem dX2_init_56 : decode cX2_init 56 = .ok (.putfield 32, 3) := by decide +kernel
theorem dX2_init_59 : decode cX2_init 59 = .ok (.aload_n 0, 1) := by decide +kernel
theorem dX2_init_60 : decode cX2_init 60 = .ok (.bipush 6, 2) := by decide +kernel
theorem dX2_init_62 : decode cX2_init 62 = .ok (.newarray .int, 2) := by decide +kernel
theorem dX2_init_64 : decode cX2_init 64 = .ok (.putfield 36, 3) := by decide +kernel
theorem dX2_init_67 : decode cX2_init 67 = .ok (.aload_n 0, 1) := by decide +kernel
theorem dX2_init_68 : decode cX2_init 68 = .ok (.bipush 81, 2) := by decide +kernel
theorem dX2_init_70 : decode cX2_init 70 = .ok (.newarray .long, 2) := by decide +kernel
theorem dX2_init_72 : decode cX2_init 72 = .ok (.putfield 39, 3) := by decide +kernel
theorem dX2_init_75 : decode cX2_init 75 = .ok (.iconst 0, 1) := by decide +kernel
theorem dX2_init_76 : decode cX2_init 76 = .ok (.istore_n 1, 1) := by decide +kernel
theorem dX2_init_77 : decode cX2_init 77 = .ok (.iload_n 1, 1) := by decide +kernel
theorem dX2_init_78 : decode cX2_init 78 = .ok (.aload_n 0, 1) := by decide +kernel
theorem dX2_init_79 : decode cX2_init 79 = .ok (.getfield 28, 3) := by decide +kernel
theorem dX2_init_82 : decode cX2_init 82 = .ok (.arraylength, 1) := by decide +kernel
theorem dX2_init_83 : decode cX2_init 83 = .ok (.if_icmp .ge 22, 3) := by decide +kernel
theorem dX2_init_86 : decode cX2_init 86 = .ok (.aload_n 0, 1) := by decide +kernel
theorem dX2_init_87 : decode cX2_init 87 = .ok (.getfield 28, 3) := by decide +kernel
theorem dX2_init_90 : decode cX2_init 90 = .ok (.iload_n 1, 1) := by decide +kernel
theorem dX2_init_91 : decode cX2_init 91 = .ok (.new 26, 3) := by decide +kernel
theorem dX2_init_94 : decode cX2_init 94 = .ok (.dup, 1) := by decide +kernel
theorem dX2_init_95 : decode cX2_init 95 = .ok (.invokespecial 43, 3) := by decide +kernel
theorem dX2_init_98 : decode cX2_init 98 = .ok (.aastore, 1) := by decide +kernel
theorem dX2_init_99 : decode cX2_init 99 = .ok (.iinc 1 1, 3) := by decide +kernel
theorem dX2_init_102 : decode cX2_init 102 = .ok (.goto (-25), 3) := by decide +kernel
theorem dX2_init_105 : decode cX2_init 105 = .ok (.return_, 1) := by decide +kernel
theorem dX2_coach_0 : decode cX2_coach 0 = .ok (.aload_n 0, 1) := by decide +kernel
theorem dX2_coach_1 : decode cX2_coach 1 = .ok (.iload_n 1, 1) := by decide +kernel
theorem dX2_coach_2 : decode cX2_coach 2 = .ok (.invokevirtual 44, 3) := by decide +kernel
theorem dX2_coach_5 : decode cX2_coach 5 = .ok (.astore_n 2, 1) := by decide +kernel
theorem dX2_coach_6 : decode cX2_coach 6 = .ok (.aload_n 2, 1) := by decide +kernel
theorem dX2_coach_7 : decode cX2_coach 7 = .ok (.ifnonnull 5, 3) := by decide +kernel
theorem dX2_coach_10 : decode cX2_coach 10 = .ok (.iconst (-1), 1) := by decide +kernel
theorem dX2_coach_11 : decode cX2_coach 11 = .ok (.ireturn, 1) := by decide +kernel
theorem dX2_coach_12 : decode cX2_coach 12 = .ok (.aload_n 2, 1) := by decide +kernel
theorem dX2_coach_13 : decode cX2_coach 13 = .ok (.getfield 48, 3) := by decide +kernel
theorem dX2_coach_16 : decode cX2_coach 16 = .ok (.ifCond .ne 6, 3) := by decide +kernel
theorem dX2_coach_19 : decode cX2_coach 19 = .ok (.bipush (-11), 2) := by decide +kernel
theorem dX2_coach_21 : decode cX2_coach 21 = .ok (.ireturn, 1) := by decide +kernel
theorem dX2_coach_22 : decode cX2_coach 22 = .ok (.aload_n 2, 1) := by decide +kernel
theorem dX2_coach_23 : decode cX2_coach 23 = .ok (.getfield 48, 3) := by decide +kernel
theorem dX2_coach_26 : decode cX2_coach 26 = .ok (.iconst 2, 1) := by decide +kernel
theorem dX2_coach_27 : decode cX2_coach 27 = .ok (.if_icmp .ne 10, 3) := by decide +kernel
theorem dX2_coach_30 : decode cX2_coach 30 = .ok (.aload_n 2, 1) := by decide +kernel
theorem dX2_coach_31 : decode cX2_coach 31 = .ok (.getfield 52, 3) := by decide +kernel
theorem dX2_coach_34 : decode cX2_coach 34 = .ok (.ifCond .eq 6, 3) := by decide +kernel
theorem dX2_coach_37 : decode cX2_coach 37 = .ok (.bipush (-12), 2) := by decide +kernel
theorem dX2_coach_39 : decode cX2_coach 39 = .ok (.ireturn, 1) := by decide +kernel
theorem dX2_coach_40 : decode cX2_coach 40 = .ok (.aload_n 2, 1) := by decide +kernel
theorem dX2_coach_41 : decode cX2_coach 41 = .ok (.invokestatic 55, 3) := by decide +kernel
theorem dX2_coach_44 : decode cX2_coach 44 = .ok (.istore_n 3, 1) := by decide +kernel
theorem dX2_coach_45 : decode cX2_coach 45 = .ok (.iload_n 3, 1) := by decide +kernel
theorem dX2_coach_46 : decode cX2_coach 46 = .ok (.ifCond .lt 9, 3) := by decide +kernel
theorem dX2_coach_49 : decode cX2_coach 49 = .ok (.sipush (-1000), 3) := by decide +kernel
theorem dX2_coach_52 : decode cX2_coach 52 = .ok (.iload_n 3, 1) := by decide +kernel
theorem dX2_coach_53 : decode cX2_coach 53 = .ok (.isub, 1) := by decide +kernel
theorem dX2_coach_54 : decode cX2_coach 54 = .ok (.ireturn, 1) := by decide +kernel
theorem dX2_coach_55 : decode cX2_coach 55 = .ok (.aload_n 0, 1) := by decide +kernel
theorem dX2_coach_56 : decode cX2_coach 56 = .ok (.getfield 16, 3) := by decide +kernel
theorem dX2_coach_59 : decode cX2_coach 59 = .ok (.aload_n 0, 1) := by decide +kernel
theorem dX2_coach_60 : decode cX2_coach 60 = .ok (.getfield 12, 3) := by decide +kernel
theorem dX2_coach_63 : decode cX2_coach 63 = .ok (.invokevirtual 59, 3) := by decide +kernel
theorem dX2_coach_66 : decode cX2_coach 66 = .ok (.aload_n 0, 1) := by decide +kernel
theorem dX2_coach_67 : decode cX2_coach 67 = .ok (.getfield 16, 3) := by decide +kernel
theorem dX2_coach_70 : decode cX2_coach 70 = .ok (.aload_n 2, 1) := by decide +kernel
theorem dX2_coach_71 : decode cX2_coach 71 = .ok (.invokestatic 63, 3) := by decide +kernel
theorem dX2_coach_74 : decode cX2_coach 74 = .ok (.istore 4, 2) := by decide +kernel
theorem dX2_coach_76 : decode cX2_coach 76 = .ok (.iload 4, 2) := by decide +kernel
theorem dX2_coach_78 : decode cX2_coach 78 = .ok (.ifCond .lt 14, 3) := by decide +kernel
theorem dX2_coach_81 : decode cX2_coach 81 = .ok (.aload_n 0, 1) := by decide +kernel
theorem dX2_coach_82 : decode cX2_coach 82 = .ok (.getfield 12, 3) := by decide +kernel
theorem dX2_coach_85 : decode cX2_coach 85 = .ok (.aload_n 0, 1) := by decide +kernel
theorem dX2_coach_86 : decode cX2_coach 86 = .ok (.getfield 16, 3) := by decide +kernel
theorem dX2_coach_89 : decode cX2_coach 89 = .ok (.invokevirtual 59, 3) := by decide +kernel
theorem dX2_coach_92 : decode cX2_coach 92 = .ok (.iload 4, 2) := by decide +kernel
theorem dX2_coach_94 : decode cX2_coach 94 = .ok (.ireturn, 1) := by decide +kernel
theorem dX2_seat_0 : decode cX2_seat 0 = .ok (.aload_n 0, 1) := by decide +kernel
theorem dX2_seat_1 : decode cX2_seat 1 = .ok (.getfield 12, 3) := by decide +kernel
theorem dX2_seat_4 : decode cX2_seat 4 = .ok (.iload_n 1, 1) := by decide +kernel
theorem dX2_seat_5 : decode cX2_seat 5 = .ok (.invokevirtual 67, 3) := by decide +kernel
theorem dX2_seat_8 : decode cX2_seat 8 = .ok (.ifCond .ne 5, 3) := by decide +kernel
theorem dX2_seat_11 : decode cX2_seat 11 = .ok (.iconst (-1), 1) := by decide +kernel
theorem dX2_seat_12 : decode cX2_seat 12 = .ok (.ireturn, 1) := by decide +kernel
theorem dX2_seat_13 : decode cX2_seat 13 = .ok (.iload_n 2, 1) := by decide +kernel
theorem dX2_seat_14 : decode cX2_seat 14 = .ok (.tableswitch 142 0 7 #[46, 56, 66, 76, 93, 102, 124, 133], 46) := by decide +kernel
theorem dX2_seat_60 : decode cX2_seat 60 = .ok (.aload_n 0, 1) := by decide +kernel
theorem dX2_seat_61 : decode cX2_seat 61 = .ok (.getfield 12, 3) := by decide +kernel
theorem dX2_seat_64 : decode cX2_seat 64 = .ok (.getfield 71, 3) := by decide +kernel
theorem dX2_seat_67 : decode cX2_seat 67 = .ok (.iload_n 1, 1) := by decide +kernel
theorem dX2_seat_68 : decode cX2_seat 68 = .ok (.iaload, 1) := by decide +kernel
theorem dX2_seat_69 : decode cX2_seat 69 = .ok (.ireturn, 1) := by decide +kernel
theorem dX2_seat_70 : decode cX2_seat 70 = .ok (.aload_n 0, 1) := by decide +kernel
theorem dX2_seat_71 : decode cX2_seat 71 = .ok (.getfield 12, 3) := by decide +kernel
theorem dX2_seat_74 : decode cX2_seat 74 = .ok (.getfield 74, 3) := by decide +kernel
theorem dX2_seat_77 : decode cX2_seat 77 = .ok (.iload_n 1, 1) := by decide +kernel
theorem dX2_seat_78 : decode cX2_seat 78 = .ok (.iaload, 1) := by decide +kernel
theorem dX2_seat_79 : decode cX2_seat 79 = .ok (.ireturn, 1) := by decide +kernel
theorem dX2_seat_80 : decode cX2_seat 80 = .ok (.aload_n 0, 1) := by decide +kernel
theorem dX2_seat_81 : decode cX2_seat 81 = .ok (.getfield 12, 3) := by decide +kernel
theorem dX2_seat_84 : decode cX2_seat 84 = .ok (.getfield 77, 3) := by decide +kernel
theorem dX2_seat_87 : decode cX2_seat 87 = .ok (.iload_n 1, 1) := by decide +kernel
theorem dX2_seat_88 : decode cX2_seat 88 = .ok (.iaload, 1) := by decide +kernel
theorem dX2_seat_89 : decode cX2_seat 89 = .ok (.ireturn, 1) := by decide +kernel
theorem dX2_seat_90 : decode cX2_seat 90 = .ok (.aload_n 0, 1) := by decide +kernel
theorem dX2_seat_91 : decode cX2_seat 91 = .ok (.getfield 12, 3) := by decide +kernel
theorem dX2_seat_94 : decode cX2_seat 94 = .ok (.iload_n 1, 1) := by decide +kernel
theorem dX2_seat_95 : decode cX2_seat 95 = .ok (.invokevirtual 80, 3) := by decide +kernel
theorem dX2_seat_98 : decode cX2_seat 98 = .ok (.ifCond .eq 7, 3) := by decide +kernel
theorem dX2_seat_101 : decode cX2_seat 101 = .ok (.iconst 1, 1) := by decide +kernel
theorem dX2_seat_102 : decode cX2_seat 102 = .ok (.goto 4, 3) := by decide +kernel
theorem dX2_seat_105 : decode cX2_seat 105 = .ok (.iconst 0, 1) := by decide +kernel
theorem dX2_seat_106 : decode cX2_seat 106 = .ok (.ireturn, 1) := by decide +kernel
theorem dX2_seat_107 : decode cX2_seat 107 = .ok (.aload_n 0, 1) := by decide +kernel
theorem dX2_seat_108 : decode cX2_seat 108 = .ok (.getfield 12, 3) := by decide +kernel
theorem dX2_seat_111 : decode cX2_seat 111 = .ok (.iload_n 1, 1) := by decide +kernel
theorem dX2_seat_112 : decode cX2_seat 112 = .ok (.invokevirtual 83, 3) := by decide +kernel
theorem dX2_seat_115 : decode cX2_seat 115 = .ok (.ireturn, 1) := by decide +kernel
theorem dX2_seat_116 : decode cX2_seat 116 = .ok (.aload_n 0, 1) := by decide +kernel
theorem dX2_seat_117 : decode cX2_seat 117 = .ok (.getfield 12, 3) := by decide +kernel
theorem dX2_seat_120 : decode cX2_seat 120 = .ok (.getfield 71, 3) := by decide +kernel
theorem dX2_seat_123 : decode cX2_seat 123 = .ok (.iload_n 1, 1) := by decide +kernel
theorem dX2_seat_124 : decode cX2_seat 124 = .ok (.iaload, 1) := by decide +kernel
theorem dX2_seat_125 : decode cX2_seat 125 = .ok (.aload_n 0, 1) := by decide +kernel
theorem dX2_seat_126 : decode cX2_seat 126 = .ok (.getfield 12, 3) := by decide +kernel
theorem dX2_seat_129 : decode cX2_seat 129 = .ok (.getfield 74, 3) := by decide +kernel
theorem dX2_seat_132 : decode cX2_seat 132 = .ok (.iload_n 1, 1) := by decide +kernel
theorem dX2_seat_133 : decode cX2_seat 133 = .ok (.iaload, 1) := by decide +kernel
theorem dX2_seat_134 : decode cX2_seat 134 = .ok (.invokestatic 87, 3) := by decide +kernel
theorem dX2_seat_137 : decode cX2_seat 137 = .ok (.ireturn, 1) := by decide +kernel
theorem dX2_seat_138 : decode cX2_seat 138 = .ok (.aload_n 0, 1) := by decide +kernel
theorem dX2_seat_139 : decode cX2_seat 139 = .ok (.getfield 12, 3) := by decide +kernel
theorem dX2_seat_142 : decode cX2_seat 142 = .ok (.iload_n 1, 1) := by decide +kernel
theorem dX2_seat_143 : decode cX2_seat 143 = .ok (.invokevirtual 91, 3) := by decide +kernel
theorem dX2_seat_146 : decode cX2_seat 146 = .ok (.ireturn, 1) := by decide +kernel
theorem dX2_seat_147 : decode cX2_seat 147 = .ok (.aload_n 0, 1) := by decide +kernel
theorem dX2_seat_148 : decode cX2_seat 148 = .ok (.getfield 12, 3) := by decide +kernel
theorem dX2_seat_151 : decode cX2_seat 151 = .ok (.iload_n 1, 1) := by decide +kernel
theorem dX2_seat_152 : decode cX2_seat 152 = .ok (.invokevirtual 94, 3) := by decide +kernel
theorem dX2_seat_155 : decode cX2_seat 155 = .ok (.ireturn, 1) := by decide +kernel
theorem dX2_seat_156 : decode cX2_seat 156 = .ok (.iconst (-1), 1) := by decide +kernel
theorem dX2_seat_157 : decode cX2_seat 157 = .ok (.ireturn, 1) := by decide +kernel
theorem dX2_comes_0 : decode cX2_comes 0 = .ok (.aload_n 0, 1) := by decide +kernel
theorem dX2_comes_1 : decode cX2_comes 1 = .ok (.iload_n 1, 1) := by decide +kernel
theorem dX2_comes_2 : decode cX2_comes 2 = .ok (.invokevirtual 44, 3) := by decide +kernel
theorem dX2_comes_5 : decode cX2_comes 5 = .ok (.astore_n 2, 1) := by decide +kernel
theorem dX2_comes_6 : decode cX2_comes 6 = .ok (.aload_n 2, 1) := by decide +kernel
theorem dX2_comes_7 : decode cX2_comes 7 = .ok (.ifnonnull 5, 3) := by decide +kernel
theorem dX2_comes_10 : decode cX2_comes 10 = .ok (.iconst (-1), 1) := by decide +kernel
theorem dX2_comes_11 : decode cX2_comes 11 = .ok (.ireturn, 1) := by decide +kernel
theorem dX2_comes_12 : decode cX2_comes 12 = .ok (.aload_n 2, 1) := by decide +kernel
theorem dX2_comes_13 : decode cX2_comes 13 = .ok (.iconst 1, 1) := by decide +kernel
theorem dX2_comes_14 : decode cX2_comes 14 = .ok (.invokevirtual 97, 3) := by decide +kernel
theorem dX2_comes_17 : decode cX2_comes 17 = .ok (.istore_n 3, 1) := by decide +kernel
theorem dX2_comes_18 : decode cX2_comes 18 = .ok (.iload_n 3, 1) := by decide +kernel
theorem dX2_comes_19 : decode cX2_comes 19 = .ok (.ifCond .eq 5, 3) := by decide +kernel
theorem dX2_comes_22 : decode cX2_comes 22 = .ok (.iload_n 3, 1) := by decide +kernel
theorem dX2_comes_23 : decode cX2_comes 23 = .ok (.ireturn, 1) := by decide +kernel
theorem dX2_comes_24 : decode cX2_comes 24 = .ok (.aload_n 0, 1) := by decide +kernel
theorem dX2_comes_25 : decode cX2_comes 25 = .ok (.getfield 12, 3) := by decide +kernel
theorem dX2_comes_28 : decode cX2_comes 28 = .ok (.aload_n 2, 1) := by decide +kernel
theorem dX2_comes_29 : decode cX2_comes 29 = .ok (.getfield 100, 3) := by decide +kernel
theorem dX2_comes_32 : decode cX2_comes 32 = .ok (.aload_n 2, 1) := by decide +kernel
theorem dX2_comes_33 : decode cX2_comes 33 = .ok (.getfield 103, 3) := by decide +kernel
theorem dX2_comes_36 : decode cX2_comes 36 = .ok (.invokevirtual 106, 3) := by decide +kernel
theorem dX2_comes_39 : decode cX2_comes 39 = .ok (.ifCond .eq 15, 3) := by decide +kernel
theorem dX2_comes_42 : decode cX2_comes 42 = .ok (.aload_n 0, 1) := by decide +kernel
theorem dX2_comes_43 : decode cX2_comes 43 = .ok (.getfield 12, 3) := by decide +kernel
theorem dX2_comes_46 : decode cX2_comes 46 = .ok (.getfield 110, 3) := by decide +kernel
theorem dX2_comes_49 : decode cX2_comes 49 = .ok (.iconst 1, 1) := by decide +kernel
theorem dX2_comes_50 : decode cX2_comes 50 = .ok (.isub, 1) := by decide +kernel
theorem dX2_comes_51 : decode cX2_comes 51 = .ok (.goto 5, 3) := by decide +kernel
theorem dX2_comes_54 : decode cX2_comes 54 = .ok (.bipush (-2), 2) := by decide +kernel
theorem dX2_comes_56 : decode cX2_comes 56 = .ok (.ireturn, 1) := by decide +kernel
theorem dX2_tips_0 : decode cX2_tips 0 = .ok (.aload_n 0, 1) := by decide +kernel
theorem dX2_tips_1 : decode cX2_tips 1 = .ok (.getfield 12, 3) := by decide +kernel
theorem dX2_tips_4 : decode cX2_tips 4 = .ok (.iload_n 1, 1) := by decide +kernel
theorem dX2_tips_5 : decode cX2_tips 5 = .ok (.invokevirtual 67, 3) := by decide +kernel
theorem dX2_tips_8 : decode cX2_tips 8 = .ok (.ifCond .eq 13, 3) := by decide +kernel
theorem dX2_tips_11 : decode cX2_tips 11 = .ok (.iload_n 2, 1) := by decide +kernel
theorem dX2_tips_12 : decode cX2_tips 12 = .ok (.ifCond .lt 9, 3) := by decide +kernel
theorem dX2_tips_15 : decode cX2_tips 15 = .ok (.iload_n 2, 1) := by decide +kernel
theorem dX2_tips_16 : decode cX2_tips 16 = .ok (.bipush 10, 2) := by decide +kernel
theorem dX2_tips_18 : decode cX2_tips 18 = .ok (.if_icmp .le 5, 3) := by decide +kernel
theorem dX2_tips_21 : decode cX2_tips 21 = .ok (.iconst (-1), 1) := by decide +kernel
theorem dX2_tips_22 : decode cX2_tips 22 = .ok (.ireturn, 1) := by decide +kernel
theorem dX2_tips_23 : decode cX2_tips 23 = .ok (.aload_n 0, 1) := by decide +kernel
theorem dX2_tips_24 : decode cX2_tips 24 = .ok (.getfield 12, 3) := by decide +kernel
theorem dX2_tips_27 : decode cX2_tips 27 = .ok (.getfield 77, 3) := by decide +kernel
theorem dX2_tips_30 : decode cX2_tips 30 = .ok (.iload_n 1, 1) := by decide +kernel
theorem dX2_tips_31 : decode cX2_tips 31 = .ok (.iaload, 1) := by decide +kernel
theorem dX2_tips_32 : decode cX2_tips 32 = .ok (.istore_n 3, 1) := by decide +kernel
theorem dX2_tips_33 : decode cX2_tips 33 = .ok (.aload_n 0, 1) := by decide +kernel
theorem dX2_tips_34 : decode cX2_tips 34 = .ok (.getfield 12, 3) := by decide +kernel
theorem dX2_tips_37 : decode cX2_tips 37 = .ok (.iload_n 1, 1) := by decide +kernel
theorem dX2_tips_38 : decode cX2_tips 38 = .ok (.iload_n 2, 1) := by decide +kernel
theorem dX2_tips_39 : decode cX2_tips 39 = .ok (.invokevirtual 113, 3) := by decide +kernel
theorem dX2_tips_42 : decode cX2_tips 42 = .ok (.ifCond .eq 7, 3) := by decide +kernel
theorem dX2_tips_45 : decode cX2_tips 45 = .ok (.iload_n 3, 1) := by decide +kernel
theorem dX2_tips_46 : decode cX2_tips 46 = .ok (.goto 5, 3) := by decide +kernel
theorem dX2_tips_49 : decode cX2_tips 49 = .ok (.bipush (-3), 2) := by decide +kernel
theorem dX2_tips_51 : decode cX2_tips 51 = .ok (.ireturn, 1) := by decide +kernel
theorem dX2_blocks_0 : decode cX2_blocks 0 = .ok (.aload_n 0, 1) := by decide +kernel
theorem dX2_blocks_1 : decode cX2_blocks 1 = .ok (.getfield 12, 3) := by decide +kernel
theorem dX2_blocks_4 : decode cX2_blocks 4 = .ok (.iload_n 1, 1) := by decide +kernel
theorem dX2_blocks_5 : decode cX2_blocks 5 = .ok (.invokevirtual 116, 3) := by decide +kernel
theorem dX2_blocks_8 : decode cX2_blocks 8 = .ok (.ifCond .ne 5, 3) := by decide +kernel
theorem dX2_blocks_11 : decode cX2_blocks 11 = .ok (.iconst (-1), 1) := by decide +kernel
theorem dX2_blocks_12 : decode cX2_blocks 12 = .ok (.ireturn, 1) := by decide +kernel
theorem dX2_blocks_13 : decode cX2_blocks 13 = .ok (.aload_n 0, 1) := by decide +kernel
theorem dX2_blocks_14 : decode cX2_blocks 14 = .ok (.getfield 12, 3) := by decide +kernel
theorem dX2_blocks_17 : decode cX2_blocks 17 = .ok (.iload_n 1, 1) := by decide +kernel
theorem dX2_blocks_18 : decode cX2_blocks 18 = .ok (.invokevirtual 80, 3) := by decide +kernel
theorem dX2_blocks_21 : decode cX2_blocks 21 = .ok (.ifCond .eq 7, 3) := by decide +kernel
theorem dX2_blocks_24 : decode cX2_blocks 24 = .ok (.iconst 1, 1) := by decide +kernel
theorem dX2_blocks_25 : decode cX2_blocks 25 = .ok (.goto 4, 3) := by decide +kernel
theorem dX2_blocks_28 : decode cX2_blocks 28 = .ok (.iconst 0, 1) := by decide +kernel
theorem dX2_blocks_29 : decode cX2_blocks 29 = .ok (.ireturn, 1) := by decide +kernel
theorem dX2_hour_0 : decode cX2_hour 0 = .ok (.aload_n 0, 1) := by decide +kernel
theorem dX2_hour_1 : decode cX2_hour 1 = .ok (.getfield 12, 3) := by decide +kernel
theorem dX2_hour_4 : decode cX2_hour 4 = .ok (.getfield 119, 3) := by decide +kernel
theorem dX2_hour_7 : decode cX2_hour 7 = .ok (.istore_n 2, 1) := by decide +kernel
theorem dX2_hour_8 : decode cX2_hour 8 = .ok (.aload_n 0, 1) := by decide +kernel
theorem dX2_hour_9 : decode cX2_hour 9 = .ok (.getfield 12, 3) := by decide +kernel
theorem dX2_hour_12 : decode cX2_hour 12 = .ok (.iload_n 1, 1) := by decide +kernel
theorem dX2_hour_13 : decode cX2_hour 13 = .ok (.invokevirtual 122, 3) := by decide +kernel
theorem dX2_hour_16 : decode cX2_hour 16 = .ok (.ifCond .eq 7, 3) := by decide +kernel
theorem dX2_hour_19 : decode cX2_hour 19 = .ok (.iload_n 2, 1) := by decide +kernel
theorem dX2_hour_20 : decode cX2_hour 20 = .ok (.goto 4, 3) := by decide +kernel
theorem dX2_hour_23 : decode cX2_hour 23 = .ok (.iconst (-1), 1) := by decide +kernel
theorem dX2_hour_24 : decode cX2_hour 24 = .ok (.ireturn, 1) := by decide +kernel
theorem dX2_change_0 : decode cX2_change 0 = .ok (.aload_n 0, 1) := by decide +kernel
theorem dX2_change_1 : decode cX2_change 1 = .ok (.getfield 12, 3) := by decide +kernel
theorem dX2_change_4 : decode cX2_change 4 = .ok (.iload_n 1, 1) := by decide +kernel
theorem dX2_change_5 : decode cX2_change 5 = .ok (.iload_n 2, 1) := by decide +kernel
theorem dX2_change_6 : decode cX2_change 6 = .ok (.invokevirtual 125, 3) := by decide +kernel
theorem dX2_change_9 : decode cX2_change 9 = .ok (.ifCond .eq 7, 3) := by decide +kernel
theorem dX2_change_12 : decode cX2_change 12 = .ok (.iconst 1, 1) := by decide +kernel
theorem dX2_change_13 : decode cX2_change 13 = .ok (.goto 4, 3) := by decide +kernel
theorem dX2_change_16 : decode cX2_change 16 = .ok (.iconst (-1), 1) := by decide +kernel
theorem dX2_change_17 : decode cX2_change 17 = .ok (.ireturn, 1) := by decide +kernel
theorem dX2_rounds_0 : decode cX2_rounds 0 = .ok (.iload_n 1, 1) := by decide +kernel
theorem dX2_rounds_1 : decode cX2_rounds 1 = .ok (.iconst 1, 1) := by decide +kernel
theorem dX2_rounds_2 : decode cX2_rounds 2 = .ok (.if_icmp .lt 9, 3) := by decide +kernel
theorem dX2_rounds_5 : decode cX2_rounds 5 = .ok (.iload_n 1, 1) := by decide +kernel
theorem dX2_rounds_6 : decode cX2_rounds 6 = .ok (.bipush 60, 2) := by decide +kernel
theorem dX2_rounds_8 : decode cX2_rounds 8 = .ok (.if_icmp .le 5, 3) := by decide +kernel
theorem dX2_rounds_11 : decode cX2_rounds 11 = .ok (.iconst (-1), 1) := by decide +kernel
theorem dX2_rounds_12 : decode cX2_rounds 12 = .ok (.ireturn, 1) := by decide +kernel
theorem dX2_rounds_13 : decode cX2_rounds 13 = .ok (.aload_n 0, 1) := by decide +kernel
theorem dX2_rounds_14 : decode cX2_rounds 14 = .ok (.getfield 12, 3) := by decide +kernel
theorem dX2_rounds_17 : decode cX2_rounds 17 = .ok (.iload_n 1, 1) := by decide +kernel
theorem dX2_rounds_18 : decode cX2_rounds 18 = .ok (.invokevirtual 128, 3) := by decide +kernel
theorem dX2_rounds_21 : decode cX2_rounds 21 = .ok (.ifCond .eq 13, 3) := by decide +kernel
theorem dX2_rounds_24 : decode cX2_rounds 24 = .ok (.aload_n 0, 1) := by decide +kernel
theorem dX2_rounds_25 : decode cX2_rounds 25 = .ok (.getfield 12, 3) := by decide +kernel
theorem dX2_rounds_28 : decode cX2_rounds 28 = .ok (.invokevirtual 131, 3) := by decide +kernel
theorem dX2_rounds_31 : decode cX2_rounds 31 = .ok (.goto 5, 3) := by decide +kernel
theorem dX2_rounds_34 : decode cX2_rounds 34 = .ok (.bipush (-3), 2) := by decide +kernel
theorem dX2_rounds_36 : decode cX2_rounds 36 = .ok (.ireturn, 1) := by decide +kernel
theorem dX2_behind_0 : decode cX2_behind 0 = .ok (.aload_n 0, 1) := by decide +kernel
theorem dX2_behind_1 : decode cX2_behind 1 = .ok (.getfield 12, 3) := by decide +kernel
theorem dX2_behind_4 : decode cX2_behind 4 = .ok (.iload_n 1, 1) := by decide +kernel
theorem dX2_behind_5 : decode cX2_behind 5 = .ok (.invokevirtual 67, 3) := by decide +kernel
theorem dX2_behind_8 : decode cX2_behind 8 = .ok (.ifCond .eq 19, 3) := by decide +kernel
theorem dX2_behind_11 : decode cX2_behind 11 = .ok (.iload_n 2, 1) := by decide +kernel
theorem dX2_behind_12 : decode cX2_behind 12 = .ok (.invokestatic 135, 3) := by decide +kernel
theorem dX2_behind_15 : decode cX2_behind 15 = .ok (.ifCond .eq 12, 3) := by decide +kernel
theorem dX2_behind_18 : decode cX2_behind 18 = .ok (.iload_n 3, 1) := by decide +kernel
theorem dX2_behind_19 : decode cX2_behind 19 = .ok (.ifCond .lt 8, 3) := by decide +kernel
theorem dX2_behind_22 : decode cX2_behind 22 = .ok (.iload_n 3, 1) := by decide +kernel
theorem dX2_behind_23 : decode cX2_behind 23 = .ok (.iconst 1, 1) := by decide +kernel
theorem dX2_behind_24 : decode cX2_behind 24 = .ok (.if_icmp .le 5, 3) := by decide +kernel
theorem dX2_behind_27 : decode cX2_behind 27 = .ok (.iconst (-1), 1) := by decide +kernel
theorem dX2_behind_28 : decode cX2_behind 28 = .ok (.ireturn, 1) := by decide +kernel
theorem dX2_behind_29 : decode cX2_behind 29 = .ok (.aload_n 0, 1) := by decide +kernel
theorem dX2_behind_30 : decode cX2_behind 30 = .ok (.iload_n 2, 1) := by decide +kernel
theorem dX2_behind_31 : decode cX2_behind 31 = .ok (.invokevirtual 138, 3) := by decide +kernel
theorem dX2_behind_34 : decode cX2_behind 34 = .ok (.iload_n 3, 1) := by decide +kernel
theorem dX2_behind_35 : decode cX2_behind 35 = .ok (.ifCond .ne 15, 3) := by decide +kernel
theorem dX2_behind_38 : decode cX2_behind 38 = .ok (.aload_n 0, 1) := by decide +kernel
theorem dX2_behind_39 : decode cX2_behind 39 = .ok (.getfield 16, 3) := by decide +kernel
theorem dX2_behind_42 : decode cX2_behind 42 = .ok (.getfield 77, 3) := by decide +kernel
theorem dX2_behind_45 : decode cX2_behind 45 = .ok (.iload_n 1, 1) := by decide +kernel
theorem dX2_behind_46 : decode cX2_behind 46 = .ok (.iaload, 1) := by decide +kernel
theorem dX2_behind_47 : decode cX2_behind 47 = .ok (.goto 11, 3) := by decide +kernel
theorem dX2_behind_50 : decode cX2_behind 50 = .ok (.aload_n 0, 1) := by decide +kernel
theorem dX2_behind_51 : decode cX2_behind 51 = .ok (.getfield 16, 3) := by decide +kernel
theorem dX2_behind_54 : decode cX2_behind 54 = .ok (.iload_n 1, 1) := by decide +kernel
theorem dX2_behind_55 : decode cX2_behind 55 = .ok (.invokevirtual 94, 3) := by decide +kernel
theorem dX2_behind_58 : decode cX2_behind 58 = .ok (.ireturn, 1) := by decide +kernel
theorem dX2_still_0 : decode cX2_still 0 = .ok (.aload_n 0, 1) := by decide +kernel
theorem dX2_still_1 : decode cX2_still 1 = .ok (.getfield 16, 3) := by decide +kernel
theorem dX2_still_4 : decode cX2_still 4 = .ok (.aload_n 0, 1) := by decide +kernel
theorem dX2_still_5 : decode cX2_still 5 = .ok (.getfield 12, 3) := by decide +kernel
theorem dX2_still_8 : decode cX2_still 8 = .ok (.invokevirtual 59, 3) := by decide +kernel
theorem dX2_still_11 : decode cX2_still 11 = .ok (.aload_n 0, 1) := by decide +kernel
theorem dX2_still_12 : decode cX2_still 12 = .ok (.getfield 16, 3) := by decide +kernel
theorem dX2_still_15 : decode cX2_still 15 = .ok (.bipush 61, 2) := by decide +kernel
theorem dX2_still_17 : decode cX2_still 17 = .ok (.invokevirtual 142, 3) := by decide +kernel
theorem dX2_still_20 : decode cX2_still 20 = .ok (.istore_n 1, 1) := by decide +kernel
theorem dX2_still_21 : decode cX2_still 21 = .ok (.iload_n 1, 1) := by decide +kernel
theorem dX2_still_22 : decode cX2_still 22 = .ok (.bipush 60, 2) := by decide +kernel
theorem dX2_still_24 : decode cX2_still 24 = .ok (.if_icmp .gt 7, 3) := by decide +kernel
theorem dX2_still_27 : decode cX2_still 27 = .ok (.iload_n 1, 1) := by decide +kernel
theorem dX2_still_28 : decode cX2_still 28 = .ok (.goto 5, 3) := by decide +kernel
theorem dX2_still_31 : decode cX2_still 31 = .ok (.bipush (-4), 2) := by decide +kernel
theorem dX2_still_33 : decode cX2_still 33 = .ok (.ireturn, 1) := by decide +kernel
theorem dX2_run_0 : decode cX2_run 0 = .ok (.aload_n 0, 1) := by decide +kernel
theorem dX2_run_1 : decode cX2_run 1 = .ok (.getfield 12, 3) := by decide +kernel
theorem dX2_run_4 : decode cX2_run 4 = .ok (.iload_n 1, 1) := by decide +kernel
theorem dX2_run_5 : decode cX2_run 5 = .ok (.invokevirtual 67, 3) := by decide +kernel
theorem dX2_run_8 : decode cX2_run 8 = .ok (.ifCond .eq 10, 3) := by decide +kernel
theorem dX2_run_11 : decode cX2_run 11 = .ok (.iload_n 2, 1) := by decide +kernel
theorem dX2_run_12 : decode cX2_run 12 = .ok (.invokestatic 135, 3) := by decide +kernel
theorem dX2_run_15 : decode cX2_run 15 = .ok (.ifCond .ne 5, 3) := by decide +kernel
theorem dX2_run_18 : decode cX2_run 18 = .ok (.iconst (-1), 1) := by decide +kernel
theorem dX2_run_19 : decode cX2_run 19 = .ok (.ireturn, 1) := by decide +kernel
theorem dX2_run_20 : decode cX2_run 20 = .ok (.aload_n 0, 1) := by decide +kernel
theorem dX2_run_21 : decode cX2_run 21 = .ok (.iload_n 2, 1) := by decide +kernel
theorem dX2_run_22 : decode cX2_run 22 = .ok (.invokevirtual 138, 3) := by decide +kernel
theorem dX2_run_25 : decode cX2_run 25 = .ok (.aload_n 0, 1) := by decide +kernel
theorem dX2_run_26 : decode cX2_run 26 = .ok (.getfield 16, 3) := by decide +kernel
theorem dX2_run_29 : decode cX2_run 29 = .ok (.iload_n 1, 1) := by decide +kernel
theorem dX2_run_30 : decode cX2_run 30 = .ok (.invokevirtual 145, 3) := by decide +kernel
theorem dX2_run_33 : decode cX2_run 33 = .ok (.ireturn, 1) := by decide +kernel
theorem dX2_longest_0 : decode cX2_longest 0 = .ok (.iload_n 1, 1) := by decide +kernel
theorem dX2_longest_1 : decode cX2_longest 1 = .ok (.invokestatic 135, 3) := by decide +kernel
theorem dX2_longest_4 : decode cX2_longest 4 = .ok (.ifCond .eq 12, 3) := by decide +kernel
theorem dX2_longest_7 : decode cX2_longest 7 = .ok (.iload_n 2, 1) := by decide +kernel
theorem dX2_longest_8 : decode cX2_longest 8 = .ok (.ifCond .lt 8, 3) := by decide +kernel
theorem dX2_longest_11 : decode cX2_longest 11 = .ok (.iload_n 2, 1) := by decide +kernel
theorem dX2_longest_12 : decode cX2_longest 12 = .ok (.iconst 1, 1) := by decide +kernel
theorem dX2_longest_13 : decode cX2_longest 13 = .ok (.if_icmp .le 5, 3) := by decide +kernel
theorem dX2_longest_16 : decode cX2_longest 16 = .ok (.iconst (-1), 1) := by decide +kernel
theorem dX2_longest_17 : decode cX2_longest 17 = .ok (.ireturn, 1) := by decide +kernel
theorem dX2_longest_18 : decode cX2_longest 18 = .ok (.aload_n 0, 1) := by decide +kernel
theorem dX2_longest_19 : decode cX2_longest 19 = .ok (.iload_n 1, 1) := by decide +kernel
theorem dX2_longest_20 : decode cX2_longest 20 = .ok (.invokevirtual 138, 3) := by decide +kernel
theorem dX2_longest_23 : decode cX2_longest 23 = .ok (.iconst 0, 1) := by decide +kernel
theorem dX2_longest_24 : decode cX2_longest 24 = .ok (.istore_n 3, 1) := by decide +kernel
theorem dX2_longest_25 : decode cX2_longest 25 = .ok (.bipush (-4), 2) := by decide +kernel
theorem dX2_longest_27 : decode cX2_longest 27 = .ok (.istore 4, 2) := by decide +kernel
theorem dX2_longest_29 : decode cX2_longest 29 = .ok (.iconst 0, 1) := by decide +kernel
theorem dX2_longest_30 : decode cX2_longest 30 = .ok (.istore 5, 2) := by decide +kernel
theorem dX2_longest_32 : decode cX2_longest 32 = .ok (.iload 5, 2) := by decide +kernel
theorem dX2_longest_34 : decode cX2_longest 34 = .ok (.aload_n 0, 1) := by decide +kernel
theorem dX2_longest_35 : decode cX2_longest 35 = .ok (.getfield 16, 3) := by decide +kernel
theorem dX2_longest_38 : decode cX2_longest 38 = .ok (.getfield 110, 3) := by decide +kernel
theorem dX2_longest_41 : decode cX2_longest 41 = .ok (.if_icmp .ge 33, 3) := by decide +kernel
theorem dX2_longest_44 : decode cX2_longest 44 = .ok (.aload_n 0, 1) := by decide +kernel
theorem dX2_longest_45 : decode cX2_longest 45 = .ok (.getfield 16, 3) := by decide +kernel
theorem dX2_longest_48 : decode cX2_longest 48 = .ok (.iload 5, 2) := by decide +kernel
theorem dX2_longest_50 : decode cX2_longest 50 = .ok (.invokevirtual 145, 3) := by decide +kernel
theorem dX2_longest_53 : decode cX2_longest 53 = .ok (.istore 6, 2) := by decide +kernel
theorem dX2_longest_55 : decode cX2_longest 55 = .ok (.iload 6, 2) := by decide +kernel
theorem dX2_longest_57 : decode cX2_longest 57 = .ok (.iload_n 3, 1) := by decide +kernel
theorem dX2_longest_58 : decode cX2_longest 58 = .ok (.if_icmp .le 10, 3) := by decide +kernel
theorem dX2_longest_61 : decode cX2_longest 61 = .ok (.iload 6, 2) := by decide +kernel
theorem dX2_longest_63 : decode cX2_longest 63 = .ok (.istore_n 3, 1) := by decide +kernel
theorem dX2_longest_64 : decode cX2_longest 64 = .ok (.iload 5, 2) := by decide +kernel
theorem dX2_longest_66 : decode cX2_longest 66 = .ok (.istore 4, 2) := by decide +kernel
theorem dX2_longest_68 : decode cX2_longest 68 = .ok (.iinc 5 1, 3) := by decide +kernel
theorem dX2_longest_71 : decode cX2_longest 71 = .ok (.goto (-39), 3) := by decide +kernel
theorem dX2_longest_74 : decode cX2_longest 74 = .ok (.iload_n 2, 1) := by decide +kernel
theorem dX2_longest_75 : decode cX2_longest 75 = .ok (.ifCond .ne 8, 3) := by decide +kernel
theorem dX2_longest_78 : decode cX2_longest 78 = .ok (.iload 4, 2) := by decide +kernel
theorem dX2_longest_80 : decode cX2_longest 80 = .ok (.goto 4, 3) := by decide +kernel
theorem dX2_longest_83 : decode cX2_longest 83 = .ok (.iload_n 3, 1) := by decide +kernel
theorem dX2_longest_84 : decode cX2_longest 84 = .ok (.ireturn, 1) := by decide +kernel
theorem dX2_began_0 : decode cX2_began 0 = .ok (.iload_n 1, 1) := by decide +kernel
theorem dX2_began_1 : decode cX2_began 1 = .ok (.invokestatic 135, 3) := by decide +kernel
theorem dX2_began_4 : decode cX2_began 4 = .ok (.ifCond .ne 5, 3) := by decide +kernel
theorem dX2_began_7 : decode cX2_began 7 = .ok (.iconst (-1), 1) := by decide +kernel
theorem dX2_began_8 : decode cX2_began 8 = .ok (.ireturn, 1) := by decide +kernel
theorem dX2_began_9 : decode cX2_began 9 = .ok (.aload_n 0, 1) := by decide +kernel
theorem dX2_began_10 : decode cX2_began 10 = .ok (.iload_n 1, 1) := by decide +kernel
theorem dX2_began_11 : decode cX2_began 11 = .ok (.invokevirtual 138, 3) := by decide +kernel
theorem dX2_began_14 : decode cX2_began 14 = .ok (.aload_n 0, 1) := by decide +kernel
theorem dX2_began_15 : decode cX2_began 15 = .ok (.getfield 16, 3) := by decide +kernel
theorem dX2_began_18 : decode cX2_began 18 = .ok (.invokevirtual 131, 3) := by decide +kernel
theorem dX2_began_21 : decode cX2_began 21 = .ok (.istore_n 2, 1) := by decide +kernel
theorem dX2_began_22 : decode cX2_began 22 = .ok (.bipush (-4), 2) := by decide +kernel
theorem dX2_began_24 : decode cX2_began 24 = .ok (.istore_n 3, 1) := by decide +kernel
theorem dX2_began_25 : decode cX2_began 25 = .ok (.iconst 0, 1) := by decide +kernel
theorem dX2_began_26 : decode cX2_began 26 = .ok (.istore 4, 2) := by decide +kernel
theorem dX2_began_28 : decode cX2_began 28 = .ok (.iload 4, 2) := by decide +kernel
theorem dX2_began_30 : decode cX2_began 30 = .ok (.aload_n 0, 1) := by decide +kernel
theorem dX2_began_31 : decode cX2_began 31 = .ok (.getfield 12, 3) := by decide +kernel
theorem dX2_began_34 : decode cX2_began 34 = .ok (.getfield 110, 3) := by decide +kernel
theorem dX2_began_37 : decode cX2_began 37 = .ok (.if_icmp .ge 39, 3) := by decide +kernel
theorem dX2_began_40 : decode cX2_began 40 = .ok (.aload_n 0, 1) := by decide +kernel
theorem dX2_began_41 : decode cX2_began 41 = .ok (.iconst 1, 1) := by decide +kernel
theorem dX2_began_42 : decode cX2_began 42 = .ok (.iload 4, 2) := by decide +kernel
theorem dX2_began_44 : decode cX2_began 44 = .ok (.ishl, 1) := by decide +kernel
theorem dX2_began_45 : decode cX2_began 45 = .ok (.iload_n 1, 1) := by decide +kernel
theorem dX2_began_46 : decode cX2_began 46 = .ok (.invokevirtual 148, 3) := by decide +kernel
theorem dX2_began_49 : decode cX2_began 49 = .ok (.aload_n 0, 1) := by decide +kernel
theorem dX2_began_50 : decode cX2_began 50 = .ok (.getfield 16, 3) := by decide +kernel
theorem dX2_began_53 : decode cX2_began 53 = .ok (.invokevirtual 131, 3) := by decide +kernel
theorem dX2_began_56 : decode cX2_began 56 = .ok (.istore 5, 2) := by decide +kernel
theorem dX2_began_58 : decode cX2_began 58 = .ok (.iload 5, 2) := by decide +kernel
theorem dX2_began_60 : decode cX2_began 60 = .ok (.iload_n 2, 1) := by decide +kernel
theorem dX2_began_61 : decode cX2_began 61 = .ok (.if_icmp .ge 9, 3) := by decide +kernel
theorem dX2_began_64 : decode cX2_began 64 = .ok (.iload 5, 2) := by decide +kernel
theorem dX2_began_66 : decode cX2_began 66 = .ok (.istore_n 2, 1) := by decide +kernel
theorem dX2_began_67 : decode cX2_began 67 = .ok (.iload 4, 2) := by decide +kernel
theorem dX2_began_69 : decode cX2_began 69 = .ok (.istore_n 3, 1) := by decide +kernel
theorem dX2_began_70 : decode cX2_began 70 = .ok (.iinc 4 1, 3) := by decide +kernel
theorem dX2_began_73 : decode cX2_began 73 = .ok (.goto (-45), 3) := by decide +kernel
theorem dX2_began_76 : decode cX2_began 76 = .ok (.iload_n 3, 1) := by decide +kernel
theorem dX2_began_77 : decode cX2_began 77 = .ok (.ireturn, 1) := by decide +kernel
theorem dX2_lost_0 : decode cX2_lost 0 = .ok (.iload_n 1, 1) := by decide +kernel
theorem dX2_lost_1 : decode cX2_lost 1 = .ok (.invokestatic 135, 3) := by decide +kernel
theorem dX2_lost_4 : decode cX2_lost 4 = .ok (.ifCond .ne 6, 3) := by decide +kernel
theorem dX2_lost_7 : decode cX2_lost 7 = .ok (.ldc 152, 2) := by decide +kernel
theorem dX2_lost_9 : decode cX2_lost 9 = .ok (.ireturn, 1) := by decide +kernel
theorem dX2_lost_10 : decode cX2_lost 10 = .ok (.aload_n 0, 1) := by decide +kernel
theorem dX2_lost_11 : decode cX2_lost 11 = .ok (.iload_n 1, 1) := by decide +kernel
theorem dX2_lost_12 : decode cX2_lost 12 = .ok (.invokevirtual 138, 3) := by decide +kernel
theorem dX2_lost_15 : decode cX2_lost 15 = .ok (.aload_n 0, 1) := by decide +kernel
theorem dX2_lost_16 : decode cX2_lost 16 = .ok (.getfield 16, 3) := by decide +kernel
theorem dX2_lost_19 : decode cX2_lost 19 = .ok (.invokevirtual 153, 3) := by decide +kernel
theorem dX2_lost_22 : decode cX2_lost 22 = .ok (.ireturn, 1) := by decide +kernel
theorem dX2_best_0 : decode cX2_best 0 = .ok (.iload_n 1, 1) := by decide +kernel
theorem dX2_best_1 : decode cX2_best 1 = .ok (.iconst (-1), 1) := by decide +kernel
theorem dX2_best_2 : decode cX2_best 2 = .ok (.if_icmp .lt 14, 3) := by decide +kernel
theorem dX2_best_5 : decode cX2_best 5 = .ok (.iload_n 1, 1) := by decide +kernel
theorem dX2_best_6 : decode cX2_best 6 = .ok (.aload_n 0, 1) := by decide +kernel
theorem dX2_best_7 : decode cX2_best 7 = .ok (.getfield 12, 3) := by decide +kernel
theorem dX2_best_10 : decode cX2_best 10 = .ok (.getfield 110, 3) := by decide +kernel
theorem dX2_best_13 : decode cX2_best 13 = .ok (.if_icmp .lt 6, 3) := by decide +kernel
theorem dX2_best_16 : decode cX2_best 16 = .ok (.ldc 152, 2) := by decide +kernel
theorem dX2_best_18 : decode cX2_best 18 = .ok (.ireturn, 1) := by decide +kernel
theorem dX2_best_19 : decode cX2_best 19 = .ok (.aload_n 0, 1) := by decide +kernel
theorem dX2_best_20 : decode cX2_best 20 = .ok (.getfield 16, 3) := by decide +kernel
theorem dX2_best_23 : decode cX2_best 23 = .ok (.aload_n 0, 1) := by decide +kernel
theorem dX2_best_24 : decode cX2_best 24 = .ok (.getfield 12, 3) := by decide +kernel
theorem dX2_best_27 : decode cX2_best 27 = .ok (.invokevirtual 59, 3) := by decide +kernel
theorem dX2_best_30 : decode cX2_best 30 = .ok (.iconst 0, 1) := by decide +kernel
theorem dX2_best_31 : decode cX2_best 31 = .ok (.istore_n 2, 1) := by decide +kernel
theorem dX2_best_32 : decode cX2_best 32 = .ok (.iload_n 2, 1) := by decide +kernel
theorem dX2_best_33 : decode cX2_best 33 = .ok (.aload_n 0, 1) := by decide +kernel
theorem dX2_best_34 : decode cX2_best 34 = .ok (.getfield 16, 3) := by decide +kernel
theorem dX2_best_37 : decode cX2_best 37 = .ok (.getfield 110, 3) := by decide +kernel
theorem dX2_best_40 : decode cX2_best 40 = .ok (.if_icmp .ge 23, 3) := by decide +kernel
theorem dX2_best_43 : decode cX2_best 43 = .ok (.aload_n 0, 1) := by decide +kernel
theorem dX2_best_44 : decode cX2_best 44 = .ok (.getfield 16, 3) := by decide +kernel
theorem dX2_best_47 : decode cX2_best 47 = .ok (.getfield 77, 3) := by decide +kernel
theorem dX2_best_50 : decode cX2_best 50 = .ok (.iload_n 2, 1) := by decide +kernel
theorem dX2_best_51 : decode cX2_best 51 = .ok (.aload_n 0, 1) := by decide +kernel
theorem dX2_best_52 : decode cX2_best 52 = .ok (.iload_n 2, 1) := by decide +kernel
theorem dX2_best_53 : decode cX2_best 53 = .ok (.invokevirtual 156, 3) := by decide +kernel
theorem dX2_best_56 : decode cX2_best 56 = .ok (.iastore, 1) := by decide +kernel
theorem dX2_best_57 : decode cX2_best 57 = .ok (.iinc 2 1, 3) := by decide +kernel
theorem dX2_best_60 : decode cX2_best 60 = .ok (.goto (-28), 3) := by decide +kernel
theorem dX2_best_63 : decode cX2_best 63 = .ok (.iload_n 1, 1) := by decide +kernel
theorem dX2_best_64 : decode cX2_best 64 = .ok (.ifCond .ge 13, 3) := by decide +kernel
theorem dX2_best_67 : decode cX2_best 67 = .ok (.aload_n 0, 1) := by decide +kernel
theorem dX2_best_68 : decode cX2_best 68 = .ok (.getfield 16, 3) := by decide +kernel
theorem dX2_best_71 : decode cX2_best 71 = .ok (.invokevirtual 153, 3) := by decide +kernel
theorem dX2_best_74 : decode cX2_best 74 = .ok (.goto 12, 3) := by decide +kernel
theorem dX2_best_77 : decode cX2_best 77 = .ok (.aload_n 0, 1) := by decide +kernel
theorem dX2_best_78 : decode cX2_best 78 = .ok (.getfield 16, 3) := by decide +kernel
theorem dX2_best_81 : decode cX2_best 81 = .ok (.getfield 77, 3) := by decide +kernel
theorem dX2_best_84 : decode cX2_best 84 = .ok (.iload_n 1, 1) := by decide +kernel
theorem dX2_best_85 : decode cX2_best 85 = .ok (.iaload, 1) := by decide +kernel
theorem dX2_best_86 : decode cX2_best 86 = .ok (.ireturn, 1) := by decide +kernel
theorem dX2_laws_0 : decode cX2_laws 0 = .ok (.iload_n 1, 1) := by decide +kernel
theorem dX2_laws_1 : decode cX2_laws 1 = .ok (.iconst (-1), 1) := by decide +kernel
theorem dX2_laws_2 : decode cX2_laws 2 = .ok (.if_icmp .lt 8, 3) := by decide +kernel
theorem dX2_laws_5 : decode cX2_laws 5 = .ok (.iload_n 1, 1) := by decide +kernel
theorem dX2_laws_6 : decode cX2_laws 6 = .ok (.iconst 3, 1) := by decide +kernel
theorem dX2_laws_7 : decode cX2_laws 7 = .ok (.if_icmp .lt 6, 3) := by decide +kernel
theorem dX2_laws_10 : decode cX2_laws 10 = .ok (.ldc 152, 2) := by decide +kernel
theorem dX2_laws_12 : decode cX2_laws 12 = .ok (.ireturn, 1) := by decide +kernel
theorem dX2_laws_13 : decode cX2_laws 13 = .ok (.iload_n 1, 1) := by decide +kernel
theorem dX2_laws_14 : decode cX2_laws 14 = .ok (.ifCond .ge 10, 3) := by decide +kernel
theorem dX2_laws_17 : decode cX2_laws 17 = .ok (.aload_n 0, 1) := by decide +kernel
theorem dX2_laws_18 : decode cX2_laws 18 = .ok (.invokevirtual 159, 3) := by decide +kernel
theorem dX2_laws_21 : decode cX2_laws 21 = .ok (.goto 8, 3) := by decide +kernel
theorem dX2_laws_24 : decode cX2_laws 24 = .ok (.aload_n 0, 1) := by decide +kernel
theorem dX2_laws_25 : decode cX2_laws 25 = .ok (.iload_n 1, 1) := by decide +kernel
theorem dX2_laws_26 : decode cX2_laws 26 = .ok (.invokevirtual 162, 3) := by decide +kernel
theorem dX2_laws_29 : decode cX2_laws 29 = .ok (.ireturn, 1) := by decide +kernel
theorem dX2_pays_0 : decode cX2_pays 0 = .ok (.aload_n 0, 1) := by decide +kernel
theorem dX2_pays_1 : decode cX2_pays 1 = .ok (.iload_n 1, 1) := by decide +kernel
theorem dX2_pays_2 : decode cX2_pays 2 = .ok (.invokevirtual 165, 3) := by decide +kernel
theorem dX2_pays_5 : decode cX2_pays 5 = .ok (.ifCond .ne 6, 3) := by decide +kernel
theorem dX2_pays_8 : decode cX2_pays 8 = .ok (.ldc 152, 2) := by decide +kernel
theorem dX2_pays_10 : decode cX2_pays 10 = .ok (.ireturn, 1) := by decide +kernel
theorem dX2_pays_11 : decode cX2_pays 11 = .ok (.aload_n 0, 1) := by decide +kernel
theorem dX2_pays_12 : decode cX2_pays 12 = .ok (.iload_n 1, 1) := by decide +kernel
theorem dX2_pays_13 : decode cX2_pays 13 = .ok (.invokevirtual 168, 3) := by decide +kernel
theorem dX2_pays_16 : decode cX2_pays 16 = .ok (.aload_n 0, 1) := by decide +kernel
theorem dX2_pays_17 : decode cX2_pays 17 = .ok (.iload_n 1, 1) := by decide +kernel
theorem dX2_pays_18 : decode cX2_pays 18 = .ok (.invokevirtual 171, 3) := by decide +kernel
theorem dX2_pays_21 : decode cX2_pays 21 = .ok (.isub, 1) := by decide +kernel
theorem dX2_pays_22 : decode cX2_pays 22 = .ok (.ireturn, 1) := by decide +kernel
theorem dX2_price_0 : decode cX2_price 0 = .ok (.aload_n 0, 1) := by decide +kernel
theorem dX2_price_1 : decode cX2_price 1 = .ok (.iload_n 1, 1) := by decide +kernel
theorem dX2_price_2 : decode cX2_price 2 = .ok (.invokevirtual 165, 3) := by decide +kernel
theorem dX2_price_5 : decode cX2_price 5 = .ok (.ifCond .ne 6, 3) := by decide +kernel
theorem dX2_price_8 : decode cX2_price 8 = .ok (.ldc 152, 2) := by decide +kernel
theorem dX2_price_10 : decode cX2_price 10 = .ok (.ireturn, 1) := by decide +kernel
theorem dX2_price_11 : decode cX2_price 11 = .ok (.aload_n 0, 1) := by decide +kernel
theorem dX2_price_12 : decode cX2_price 12 = .ok (.iload_n 1, 1) := by decide +kernel
theorem dX2_price_13 : decode cX2_price 13 = .ok (.invokevirtual 168, 3) := by decide +kernel
theorem dX2_price_16 : decode cX2_price 16 = .ok (.aload_n 0, 1) := by decide +kernel
theorem dX2_price_17 : decode cX2_price 17 = .ok (.iload_n 1, 1) := by decide +kernel
theorem dX2_price_18 : decode cX2_price 18 = .ok (.invokevirtual 171, 3) := by decide +kernel
theorem dX2_price_21 : decode cX2_price 21 = .ok (.iadd, 1) := by decide +kernel
theorem dX2_price_22 : decode cX2_price 22 = .ok (.iconst 2, 1) := by decide +kernel
theorem dX2_price_23 : decode cX2_price 23 = .ok (.idiv, 1) := by decide +kernel
theorem dX2_price_24 : decode cX2_price 24 = .ok (.ireturn, 1) := by decide +kernel
theorem dX2_order_0 : decode cX2_order 0 = .ok (.iload_n 1, 1) := by decide +kernel
theorem dX2_order_1 : decode cX2_order 1 = .ok (.ifCond .lt 25, 3) := by decide +kernel
theorem dX2_order_4 : decode cX2_order 4 = .ok (.iload_n 1, 1) := by decide +kernel
theorem dX2_order_5 : decode cX2_order 5 = .ok (.bipush 9, 2) := by decide +kernel
theorem dX2_order_7 : decode cX2_order 7 = .ok (.if_icmp .gt 19, 3) := by decide +kernel
theorem dX2_order_10 : decode cX2_order 10 = .ok (.iload_n 2, 1) := by decide +kernel
theorem dX2_order_11 : decode cX2_order 11 = .ok (.iconst (-1), 1) := by decide +kernel
theorem dX2_order_12 : decode cX2_order 12 = .ok (.if_icmp .lt 14, 3) := by decide +kernel
theorem dX2_order_15 : decode cX2_order 15 = .ok (.iload_n 2, 1) := by decide +kernel
theorem dX2_order_16 : decode cX2_order 16 = .ok (.aload_n 0, 1) := by decide +kernel
theorem dX2_order_17 : decode cX2_order 17 = .ok (.getfield 12, 3) := by decide +kernel
theorem dX2_order_20 : decode cX2_order 20 = .ok (.getfield 110, 3) := by decide +kernel
theorem dX2_order_23 : decode cX2_order 23 = .ok (.if_icmp .lt 6, 3) := by decide +kernel
theorem dX2_order_26 : decode cX2_order 26 = .ok (.ldc 152, 2) := by decide +kernel
theorem dX2_order_28 : decode cX2_order 28 = .ok (.ireturn, 1) := by decide +kernel
theorem dX2_order_29 : decode cX2_order 29 = .ok (.aload_n 0, 1) := by decide +kernel
theorem dX2_order_30 : decode cX2_order 30 = .ok (.getfield 12, 3) := by decide +kernel
theorem dX2_order_33 : decode cX2_order 33 = .ok (.getfield 110, 3) := by decide +kernel
theorem dX2_order_36 : decode cX2_order 36 = .ok (.bipush 6, 2) := by decide +kernel
theorem dX2_order_38 : decode cX2_order 38 = .ok (.if_icmp .le 6, 3) := by decide +kernel
theorem dX2_order_41 : decode cX2_order 41 = .ok (.ldc 174, 2) := by decide +kernel
theorem dX2_order_43 : decode cX2_order 43 = .ok (.ireturn, 1) := by decide +kernel
theorem dX2_order_44 : decode cX2_order 44 = .ok (.aload_n 0, 1) := by decide +kernel
theorem dX2_order_45 : decode cX2_order 45 = .ok (.iload_n 1, 1) := by decide +kernel
theorem dX2_order_46 : decode cX2_order 46 = .ok (.invokevirtual 175, 3) := by decide +kernel
theorem dX2_order_49 : decode cX2_order 49 = .ok (.istore_n 3, 1) := by decide +kernel
theorem dX2_order_50 : decode cX2_order 50 = .ok (.iload_n 2, 1) := by decide +kernel
theorem dX2_order_51 : decode cX2_order 51 = .ok (.ifCond .ge 7, 3) := by decide +kernel
theorem dX2_order_54 : decode cX2_order 54 = .ok (.iload_n 3, 1) := by decide +kernel
theorem dX2_order_55 : decode cX2_order 55 = .ok (.goto 9, 3) := by decide +kernel
theorem dX2_order_58 : decode cX2_order 58 = .ok (.aload_n 0, 1) := by decide +kernel
theorem dX2_order_59 : decode cX2_order 59 = .ok (.getfield 36, 3) := by decide +kernel
theorem dX2_order_62 : decode cX2_order 62 = .ok (.iload_n 2, 1) := by decide +kernel
theorem dX2_order_63 : decode cX2_order 63 = .ok (.iaload, 1) := by decide +kernel
theorem dX2_order_64 : decode cX2_order 64 = .ok (.ireturn, 1) := by decide +kernel
theorem dX2_swap_0 : decode cX2_swap 0 = .ok (.iload_n 1, 1) := by decide +kernel
theorem dX2_swap_1 : decode cX2_swap 1 = .ok (.invokestatic 135, 3) := by decide +kernel
theorem dX2_swap_4 : decode cX2_swap 4 = .ok (.ifCond .ne 5, 3) := by decide +kernel
theorem dX2_swap_7 : decode cX2_swap 7 = .ok (.iconst (-1), 1) := by decide +kernel
theorem dX2_swap_8 : decode cX2_swap 8 = .ok (.ireturn, 1) := by decide +kernel
theorem dX2_swap_9 : decode cX2_swap 9 = .ok (.aload_n 0, 1) := by decide +kernel
theorem dX2_swap_10 : decode cX2_swap 10 = .ok (.iload_n 1, 1) := by decide +kernel
theorem dX2_swap_11 : decode cX2_swap 11 = .ok (.invokevirtual 178, 3) := by decide +kernel
theorem dX2_swap_14 : decode cX2_swap 14 = .ok (.istore_n 2, 1) := by decide +kernel
theorem dX2_swap_15 : decode cX2_swap 15 = .ok (.bipush (-4), 2) := by decide +kernel
theorem dX2_swap_17 : decode cX2_swap 17 = .ok (.istore_n 3, 1) := by decide +kernel
theorem dX2_swap_18 : decode cX2_swap 18 = .ok (.iconst 0, 1) := by decide +kernel
theorem dX2_swap_19 : decode cX2_swap 19 = .ok (.istore 4, 2) := by decide +kernel
theorem dX2_swap_21 : decode cX2_swap 21 = .ok (.iload 4, 2) := by decide +kernel
theorem dX2_swap_23 : decode cX2_swap 23 = .ok (.aload_n 0, 1) := by decide +kernel
theorem dX2_swap_24 : decode cX2_swap 24 = .ok (.getfield 12, 3) := by decide +kernel
theorem dX2_swap_27 : decode cX2_swap 27 = .ok (.getfield 110, 3) := by decide +kernel
theorem dX2_swap_30 : decode cX2_swap 30 = .ok (.if_icmp .ge 62, 3) := by decide +kernel
theorem dX2_swap_33 : decode cX2_swap 33 = .ok (.iload 4, 2) := by decide +kernel
theorem dX2_swap_35 : decode cX2_swap 35 = .ok (.iconst 1, 1) := by decide +kernel
theorem dX2_swap_36 : decode cX2_swap 36 = .ok (.iadd, 1) := by decide +kernel
theorem dX2_swap_37 : decode cX2_swap 37 = .ok (.istore 5, 2) := by decide +kernel
theorem dX2_swap_39 : decode cX2_swap 39 = .ok (.iload 5, 2) := by decide +kernel
theorem dX2_swap_41 : decode cX2_swap 41 = .ok (.aload_n 0, 1) := by decide +kernel
theorem dX2_swap_42 : decode cX2_swap 42 = .ok (.getfield 12, 3) := by decide +kernel
theorem dX2_swap_45 : decode cX2_swap 45 = .ok (.getfield 110, 3) := by decide +kernel
theorem dX2_swap_48 : decode cX2_swap 48 = .ok (.if_icmp .ge 38, 3) := by decide +kernel
theorem dX2_swap_51 : decode cX2_swap 51 = .ok (.aload_n 0, 1) := by decide +kernel
theorem dX2_swap_52 : decode cX2_swap 52 = .ok (.iload 4, 2) := by decide +kernel
theorem dX2_swap_54 : decode cX2_swap 54 = .ok (.iload 5, 2) := by decide +kernel
theorem dX2_swap_56 : decode cX2_swap 56 = .ok (.iload_n 1, 1) := by decide +kernel
theorem dX2_swap_57 : decode cX2_swap 57 = .ok (.invokevirtual 181, 3) := by decide +kernel
theorem dX2_swap_60 : decode cX2_swap 60 = .ok (.istore 6, 2) := by decide +kernel
theorem dX2_swap_62 : decode cX2_swap 62 = .ok (.iload 6, 2) := by decide +kernel
theorem dX2_swap_64 : decode cX2_swap 64 = .ok (.iload_n 2, 1) := by decide +kernel
theorem dX2_swap_65 : decode cX2_swap 65 = .ok (.if_icmp .le 15, 3) := by decide +kernel
theorem dX2_swap_68 : decode cX2_swap 68 = .ok (.iload 6, 2) := by decide +kernel
theorem dX2_swap_70 : decode cX2_swap 70 = .ok (.istore_n 2, 1) := by decide +kernel
theorem dX2_swap_71 : decode cX2_swap 71 = .ok (.bipush 10, 2) := by decide +kernel
theorem dX2_swap_73 : decode cX2_swap 73 = .ok (.iload 4, 2) := by decide +kernel
theorem dX2_swap_75 : decode cX2_swap 75 = .ok (.imul, 1) := by decide +kernel
theorem dX2_swap_76 : decode cX2_swap 76 = .ok (.iload 5, 2) := by decide +kernel
theorem dX2_swap_78 : decode cX2_swap 78 = .ok (.iadd, 1) := by decide +kernel
theorem dX2_swap_79 : decode cX2_swap 79 = .ok (.istore_n 3, 1) := by decide +kernel
theorem dX2_swap_80 : decode cX2_swap 80 = .ok (.iinc 5 1, 3) := by decide +kernel
theorem dX2_swap_83 : decode cX2_swap 83 = .ok (.goto (-44), 3) := by decide +kernel
theorem dX2_swap_86 : decode cX2_swap 86 = .ok (.iinc 4 1, 3) := by decide +kernel
theorem dX2_swap_89 : decode cX2_swap 89 = .ok (.goto (-68), 3) := by decide +kernel
theorem dX2_swap_92 : decode cX2_swap 92 = .ok (.iload_n 3, 1) := by decide +kernel
theorem dX2_swap_93 : decode cX2_swap 93 = .ok (.ireturn, 1) := by decide +kernel
theorem dX2_stops_0 : decode cX2_stops 0 = .ok (.iload_n 1, 1) := by decide +kernel
theorem dX2_stops_1 : decode cX2_stops 1 = .ok (.iconst 1, 1) := by decide +kernel
theorem dX2_stops_2 : decode cX2_stops 2 = .ok (.if_icmp .lt 9, 3) := by decide +kernel
theorem dX2_stops_5 : decode cX2_stops 5 = .ok (.iload_n 1, 1) := by decide +kernel
theorem dX2_stops_6 : decode cX2_stops 6 = .ok (.bipush 60, 2) := by decide +kernel
theorem dX2_stops_8 : decode cX2_stops 8 = .ok (.if_icmp .le 5, 3) := by decide +kernel
theorem dX2_stops_11 : decode cX2_stops 11 = .ok (.iconst (-1), 1) := by decide +kernel
theorem dX2_stops_12 : decode cX2_stops 12 = .ok (.ireturn, 1) := by decide +kernel
theorem dX2_stops_13 : decode cX2_stops 13 = .ok (.iconst 1, 1) := by decide +kernel
theorem dX2_stops_14 : decode cX2_stops 14 = .ok (.aload_n 0, 1) := by decide +kernel
theorem dX2_stops_15 : decode cX2_stops 15 = .ok (.getfield 12, 3) := by decide +kernel
theorem dX2_stops_18 : decode cX2_stops 18 = .ok (.getfield 110, 3) := by decide +kernel
theorem dX2_stops_21 : decode cX2_stops 21 = .ok (.ishl, 1) := by decide +kernel
theorem dX2_stops_22 : decode cX2_stops 22 = .ok (.iconst 1, 1) := by decide +kernel
theorem dX2_stops_23 : decode cX2_stops 23 = .ok (.isub, 1) := by decide +kernel
theorem dX2_stops_24 : decode cX2_stops 24 = .ok (.istore_n 2, 1) := by decide +kernel
theorem dX2_stops_25 : decode cX2_stops 25 = .ok (.iload_n 2, 1) := by decide +kernel
theorem dX2_stops_26 : decode cX2_stops 26 = .ok (.istore_n 3, 1) := by decide +kernel
theorem dX2_stops_27 : decode cX2_stops 27 = .ok (.aload_n 0, 1) := by decide +kernel
theorem dX2_stops_28 : decode cX2_stops 28 = .ok (.getfield 12, 3) := by decide +kernel
theorem dX2_stops_31 : decode cX2_stops 31 = .ok (.getfield 110, 3) := by decide +kernel
theorem dX2_stops_34 : decode cX2_stops 34 = .ok (.istore 4, 2) := by decide +kernel
theorem dX2_stops_36 : decode cX2_stops 36 = .ok (.iconst 0, 1) := by decide +kernel
theorem dX2_stops_37 : decode cX2_stops 37 = .ok (.istore 5, 2) := by decide +kernel
theorem dX2_stops_39 : decode cX2_stops 39 = .ok (.iload 5, 2) := by decide +kernel
theorem dX2_stops_41 : decode cX2_stops 41 = .ok (.iload_n 2, 1) := by decide +kernel
theorem dX2_stops_42 : decode cX2_stops 42 = .ok (.if_icmp .ge 40, 3) := by decide +kernel
theorem dX2_stops_45 : decode cX2_stops 45 = .ok (.iload 5, 2) := by decide +kernel
theorem dX2_stops_47 : decode cX2_stops 47 = .ok (.invokestatic 185, 3) := by decide +kernel
theorem dX2_stops_50 : decode cX2_stops 50 = .ok (.istore 6, 2) := by decide +kernel
theorem dX2_stops_52 : decode cX2_stops 52 = .ok (.iload 6, 2) := by decide +kernel
theorem dX2_stops_54 : decode cX2_stops 54 = .ok (.iload 4, 2) := by decide +kernel
theorem dX2_stops_56 : decode cX2_stops 56 = .ok (.if_icmp .ge 20, 3) := by decide +kernel
theorem dX2_stops_59 : decode cX2_stops 59 = .ok (.aload_n 0, 1) := by decide +kernel
theorem dX2_stops_60 : decode cX2_stops 60 = .ok (.iload 5, 2) := by decide +kernel
theorem dX2_stops_62 : decode cX2_stops 62 = .ok (.iload_n 1, 1) := by decide +kernel
theorem dX2_stops_63 : decode cX2_stops 63 = .ok (.invokevirtual 190, 3) := by decide +kernel
theorem dX2_stops_66 : decode cX2_stops 66 = .ok (.ifCond .eq 10, 3) := by decide +kernel
theorem dX2_stops_69 : decode cX2_stops 69 = .ok (.iload 6, 2) := by decide +kernel
theorem dX2_stops_71 : decode cX2_stops 71 = .ok (.istore 4, 2) := by decide +kernel
theorem dX2_stops_73 : decode cX2_stops 73 = .ok (.iload 5, 2) := by decide +kernel
theorem dX2_stops_75 : decode cX2_stops 75 = .ok (.istore_n 3, 1) := by decide +kernel
theorem dX2_stops_76 : decode cX2_stops 76 = .ok (.iinc 5 1, 3) := by decide +kernel
theorem dX2_stops_79 : decode cX2_stops 79 = .ok (.goto (-40), 3) := by decide +kernel
theorem dX2_stops_82 : decode cX2_stops 82 = .ok (.iload_n 3, 1) := by decide +kernel
theorem dX2_stops_83 : decode cX2_stops 83 = .ok (.ireturn, 1) := by decide +kernel
theorem dX2_ask_0 : decode cX2_ask 0 = .ok (.iload_n 1, 1) := by decide +kernel
theorem dX2_ask_1 : decode cX2_ask 1 = .ok (.invokestatic 135, 3) := by decide +kernel
theorem dX2_ask_4 : decode cX2_ask 4 = .ok (.ifCond .ne 5, 3) := by decide +kernel
theorem dX2_ask_7 : decode cX2_ask 7 = .ok (.iconst (-1), 1) := by decide +kernel
theorem dX2_ask_8 : decode cX2_ask 8 = .ok (.ireturn, 1) := by decide +kernel
theorem dX2_ask_9 : decode cX2_ask 9 = .ok (.bipush (-4), 2) := by decide +kernel
theorem dX2_ask_11 : decode cX2_ask 11 = .ok (.istore_n 2, 1) := by decide +kernel
theorem dX2_ask_12 : decode cX2_ask 12 = .ok (.iconst 0, 1) := by decide +kernel
theorem dX2_ask_13 : decode cX2_ask 13 = .ok (.istore_n 3, 1) := by decide +kernel
theorem dX2_ask_14 : decode cX2_ask 14 = .ok (.iconst 0, 1) := by decide +kernel
theorem dX2_ask_15 : decode cX2_ask 15 = .ok (.istore 4, 2) := by decide +kernel
theorem dX2_ask_17 : decode cX2_ask 17 = .ok (.iload 4, 2) := by decide +kernel
theorem dX2_ask_19 : decode cX2_ask 19 = .ok (.aload_n 0, 1) := by decide +kernel
theorem dX2_ask_20 : decode cX2_ask 20 = .ok (.getfield 12, 3) := by decide +kernel
theorem dX2_ask_23 : decode cX2_ask 23 = .ok (.getfield 110, 3) := by decide +kernel
theorem dX2_ask_26 : decode cX2_ask 26 = .ok (.if_icmp .ge 45, 3) := by decide +kernel
theorem dX2_ask_29 : decode cX2_ask 29 = .ok (.aload_n 0, 1) := by decide +kernel
theorem dX2_ask_30 : decode cX2_ask 30 = .ok (.iconst 1, 1) := by decide +kernel
theorem dX2_ask_31 : decode cX2_ask 31 = .ok (.iload 4, 2) := by decide +kernel
theorem dX2_ask_33 : decode cX2_ask 33 = .ok (.ishl, 1) := by decide +kernel
theorem dX2_ask_34 : decode cX2_ask 34 = .ok (.iload_n 1, 1) := by decide +kernel
theorem dX2_ask_35 : decode cX2_ask 35 = .ok (.invokevirtual 148, 3) := by decide +kernel
theorem dX2_ask_38 : decode cX2_ask 38 = .ok (.aload_n 0, 1) := by decide +kernel
theorem dX2_ask_39 : decode cX2_ask 39 = .ok (.getfield 16, 3) := by decide +kernel
theorem dX2_ask_42 : decode cX2_ask 42 = .ok (.invokevirtual 153, 3) := by decide +kernel
theorem dX2_ask_45 : decode cX2_ask 45 = .ok (.istore 5, 2) := by decide +kernel
theorem dX2_ask_47 : decode cX2_ask 47 = .ok (.iload_n 2, 1) := by decide +kernel
theorem dX2_ask_48 : decode cX2_ask 48 = .ok (.bipush (-4), 2) := by decide +kernel
theorem dX2_ask_50 : decode cX2_ask 50 = .ok (.if_icmp .eq 9, 3) := by decide +kernel
theorem dX2_ask_53 : decode cX2_ask 53 = .ok (.iload 5, 2) := by decide +kernel
theorem dX2_ask_55 : decode cX2_ask 55 = .ok (.iload_n 3, 1) := by decide +kernel
theorem dX2_ask_56 : decode cX2_ask 56 = .ok (.if_icmp .le 9, 3) := by decide +kernel
theorem dX2_ask_59 : decode cX2_ask 59 = .ok (.iload 5, 2) := by decide +kernel
theorem dX2_ask_61 : decode cX2_ask 61 = .ok (.istore_n 3, 1) := by decide +kernel
theorem dX2_ask_62 : decode cX2_ask 62 = .ok (.iload 4, 2) := by decide +kernel
theorem dX2_ask_64 : decode cX2_ask 64 = .ok (.istore_n 2, 1) := by decide +kernel
theorem dX2_ask_65 : decode cX2_ask 65 = .ok (.iinc 4 1, 3) := by decide +kernel
theorem dX2_ask_68 : decode cX2_ask 68 = .ok (.goto (-51), 3) := by decide +kernel
theorem dX2_ask_71 : decode cX2_ask 71 = .ok (.iload_n 2, 1) := by decide +kernel
theorem dX2_ask_72 : decode cX2_ask 72 = .ok (.ireturn, 1) := by decide +kernel
theorem dX2_bestHour_0 : decode cX2_bestHour 0 = .ok (.iload_n 1, 1) := by decide +kernel
theorem dX2_bestHour_1 : decode cX2_bestHour 1 = .ok (.invokestatic 135, 3) := by decide +kernel
theorem dX2_bestHour_4 : decode cX2_bestHour 4 = .ok (.ifCond .ne 5, 3) := by decide +kernel
theorem dX2_bestHour_7 : decode cX2_bestHour 7 = .ok (.iconst (-1), 1) := by decide +kernel
theorem dX2_bestHour_8 : decode cX2_bestHour 8 = .ok (.ireturn, 1) := by decide +kernel
theorem dX2_bestHour_9 : decode cX2_bestHour 9 = .ok (.iconst 0, 1) := by decide +kernel
theorem dX2_bestHour_10 : decode cX2_bestHour 10 = .ok (.istore_n 2, 1) := by decide +kernel
theorem dX2_bestHour_11 : decode cX2_bestHour 11 = .ok (.aload_n 0, 1) := by decide +kernel
theorem dX2_bestHour_12 : decode cX2_bestHour 12 = .ok (.iconst 0, 1) := by decide +kernel
theorem dX2_bestHour_13 : decode cX2_bestHour 13 = .ok (.iload_n 1, 1) := by decide +kernel
theorem dX2_bestHour_14 : decode cX2_bestHour 14 = .ok (.invokevirtual 193, 3) := by decide +kernel
theorem dX2_bestHour_17 : decode cX2_bestHour 17 = .ok (.istore_n 3, 1) := by decide +kernel
theorem dX2_bestHour_18 : decode cX2_bestHour 18 = .ok (.iconst 1, 1) := by decide +kernel
theorem dX2_bestHour_19 : decode cX2_bestHour 19 = .ok (.istore 4, 2) := by decide +kernel
theorem dX2_bestHour_21 : decode cX2_bestHour 21 = .ok (.iload 4, 2) := by decide +kernel
theorem dX2_bestHour_23 : decode cX2_bestHour 23 = .ok (.bipush 24, 2) := by decide +kernel
theorem dX2_bestHour_25 : decode cX2_bestHour 25 = .ok (.if_icmp .ge 30, 3) := by decide +kernel
theorem dX2_bestHour_28 : decode cX2_bestHour 28 = .ok (.aload_n 0, 1) := by decide +kernel
theorem dX2_bestHour_29 : decode cX2_bestHour 29 = .ok (.iload 4, 2) := by decide +kernel
theorem dX2_bestHour_31 : decode cX2_bestHour 31 = .ok (.iload_n 1, 1) := by decide +kernel
theorem dX2_bestHour_32 : decode cX2_bestHour 32 = .ok (.invokevirtual 193, 3) := by decide +kernel
theorem dX2_bestHour_35 : decode cX2_bestHour 35 = .ok (.istore 5, 2) := by decide +kernel
theorem dX2_bestHour_37 : decode cX2_bestHour 37 = .ok (.iload 5, 2) := by decide +kernel
theorem dX2_bestHour_39 : decode cX2_bestHour 39 = .ok (.iload_n 3, 1) := by decide +kernel
theorem dX2_bestHour_40 : decode cX2_bestHour 40 = .ok (.if_icmp .le 9, 3) := by decide +kernel
theorem dX2_bestHour_43 : decode cX2_bestHour 43 = .ok (.iload 5, 2) := by decide +kernel
theorem dX2_bestHour_45 : decode cX2_bestHour 45 = .ok (.istore_n 3, 1) := by decide +kernel
theorem dX2_bestHour_46 : decode cX2_bestHour 46 = .ok (.iload 4, 2) := by decide +kernel
theorem dX2_bestHour_48 : decode cX2_bestHour 48 = .ok (.istore_n 2, 1) := by decide +kernel
theorem dX2_bestHour_49 : decode cX2_bestHour 49 = .ok (.iinc 4 1, 3) := by decide +kernel
theorem dX2_bestHour_52 : decode cX2_bestHour 52 = .ok (.goto (-31), 3) := by decide +kernel
theorem dX2_bestHour_55 : decode cX2_bestHour 55 = .ok (.iload_n 2, 1) := by decide +kernel
theorem dX2_bestHour_56 : decode cX2_bestHour 56 = .ok (.ireturn, 1) := by decide +kernel
theorem dX2_two_0 : decode cX2_two 0 = .ok (.aload_n 0, 1) := by decide +kernel
theorem dX2_two_1 : decode cX2_two 1 = .ok (.iload_n 1, 1) := by decide +kernel
theorem dX2_two_2 : decode cX2_two 2 = .ok (.invokevirtual 165, 3) := by decide +kernel
theorem dX2_two_5 : decode cX2_two 5 = .ok (.ifCond .ne 5, 3) := by decide +kernel
theorem dX2_two_8 : decode cX2_two 8 = .ok (.iconst (-1), 1) := by decide +kernel
theorem dX2_two_9 : decode cX2_two 9 = .ok (.ireturn, 1) := by decide +kernel
theorem dX2_two_10 : decode cX2_two 10 = .ok (.aload_n 0, 1) := by decide +kernel
theorem dX2_two_11 : decode cX2_two 11 = .ok (.getfield 16, 3) := by decide +kernel
theorem dX2_two_14 : decode cX2_two 14 = .ok (.aload_n 0, 1) := by decide +kernel
theorem dX2_two_15 : decode cX2_two 15 = .ok (.getfield 12, 3) := by decide +kernel
theorem dX2_two_18 : decode cX2_two 18 = .ok (.invokevirtual 59, 3) := by decide +kernel
theorem dX2_two_21 : decode cX2_two 21 = .ok (.iconst 0, 1) := by decide +kernel
theorem dX2_two_22 : decode cX2_two 22 = .ok (.istore_n 2, 1) := by decide +kernel
theorem dX2_two_23 : decode cX2_two 23 = .ok (.iload_n 2, 1) := by decide +kernel
theorem dX2_two_24 : decode cX2_two 24 = .ok (.iconst 2, 1) := by decide +kernel
theorem dX2_two_25 : decode cX2_two 25 = .ok (.if_icmp .ge 39, 3) := by decide +kernel
theorem dX2_two_28 : decode cX2_two 28 = .ok (.iconst 0, 1) := by decide +kernel
theorem dX2_two_29 : decode cX2_two 29 = .ok (.istore_n 3, 1) := by decide +kernel
theorem dX2_two_30 : decode cX2_two 30 = .ok (.iload_n 3, 1) := by decide +kernel
theorem dX2_two_31 : decode cX2_two 31 = .ok (.iconst 2, 1) := by decide +kernel
theorem dX2_two_32 : decode cX2_two 32 = .ok (.if_icmp .ge 26, 3) := by decide +kernel
theorem dX2_two_35 : decode cX2_two 35 = .ok (.aload_n 0, 1) := by decide +kernel
theorem dX2_two_36 : decode cX2_two 36 = .ok (.iload_n 1, 1) := by decide +kernel
theorem dX2_two_37 : decode cX2_two 37 = .ok (.iload_n 2, 1) := by decide +kernel
theorem dX2_two_38 : decode cX2_two 38 = .ok (.iload_n 3, 1) := by decide +kernel
theorem dX2_two_39 : decode cX2_two 39 = .ok (.invokevirtual 196, 3) := by decide +kernel
theorem dX2_two_42 : decode cX2_two 42 = .ok (.ifCond .eq 10, 3) := by decide +kernel
theorem dX2_two_45 : decode cX2_two 45 = .ok (.bipush 10, 2) := by decide +kernel
theorem dX2_two_47 : decode cX2_two 47 = .ok (.iload_n 2, 1) := by decide +kernel
theorem dX2_two_48 : decode cX2_two 48 = .ok (.imul, 1) := by decide +kernel
theorem dX2_two_49 : decode cX2_two 49 = .ok (.iload_n 3, 1) := by decide +kernel
theorem dX2_two_50 : decode cX2_two 50 = .ok (.iadd, 1) := by decide +kernel
theorem dX2_two_51 : decode cX2_two 51 = .ok (.ireturn, 1) := by decide +kernel
theorem dX2_two_52 : decode cX2_two 52 = .ok (.iinc 3 1, 3) := by decide +kernel
theorem dX2_two_55 : decode cX2_two 55 = .ok (.goto (-25), 3) := by decide +kernel
theorem dX2_two_58 : decode cX2_two 58 = .ok (.iinc 2 1, 3) := by decide +kernel
theorem dX2_two_61 : decode cX2_two 61 = .ok (.goto (-38), 3) := by decide +kernel
theorem dX2_two_64 : decode cX2_two 64 = .ok (.bipush (-4), 2) := by decide +kernel
theorem dX2_two_66 : decode cX2_two 66 = .ok (.ireturn, 1) := by decide +kernel
theorem dX2_looksRound_0 : decode cX2_looksRound 0 = .ok (.iload_n 1, 1) := by decide +kernel
theorem dX2_looksRound_1 : decode cX2_looksRound 1 = .ok (.iconst 2, 1) := by decide +kernel
theorem dX2_looksRound_2 : decode cX2_looksRound 2 = .ok (.if_icmp .lt 28, 3) := by decide +kernel
theorem dX2_looksRound_5 : decode cX2_looksRound 5 = .ok (.iload_n 1, 1) := by decide +kernel
theorem dX2_looksRound_6 : decode cX2_looksRound 6 = .ok (.bipush 20, 2) := by decide +kernel
theorem dX2_looksRound_8 : decode cX2_looksRound 8 = .ok (.if_icmp .gt 22, 3) := by decide +kernel
theorem dX2_looksRound_11 : decode cX2_looksRound 11 = .ok (.iload_n 2, 1) := by decide +kernel
theorem dX2_looksRound_12 : decode cX2_looksRound 12 = .ok (.ifCond .lt 18, 3) := by decide +kernel
theorem dX2_looksRound_15 : decode cX2_looksRound 15 = .ok (.iload_n 2, 1) := by decide +kernel
theorem dX2_looksRound_16 : decode cX2_looksRound 16 = .ok (.bipush 80, 2) := by decide +kernel
theorem dX2_looksRound_18 : decode cX2_looksRound 18 = .ok (.if_icmp .gt 12, 3) := by decide +kernel
theorem dX2_looksRound_21 : decode cX2_looksRound 21 = .ok (.iload_n 3, 1) := by decide +kernel
theorem dX2_looksRound_22 : decode cX2_looksRound 22 = .ok (.ifCond .lt 8, 3) := by decide +kernel
theorem dX2_looksRound_25 : decode cX2_looksRound 25 = .ok (.iload_n 3, 1) := by decide +kernel
theorem dX2_looksRound_26 : decode cX2_looksRound 26 = .ok (.iconst 1, 1) := by decide +kernel
theorem dX2_looksRound_27 : decode cX2_looksRound 27 = .ok (.if_icmp .le 7, 3) := by decide +kernel
theorem dX2_looksRound_30 : decode cX2_looksRound 30 = .ok (.ldc2_w 200, 3) := by decide +kernel
theorem dX2_looksRound_33 : decode cX2_looksRound 33 = .ok (.lreturn, 1) := by decide +kernel
theorem dX2_looksRound_34 : decode cX2_looksRound 34 = .ok (.aload_n 0, 1) := by decide +kernel
theorem dX2_looksRound_35 : decode cX2_looksRound 35 = .ok (.iconst 1, 1) := by decide +kernel
theorem dX2_looksRound_36 : decode cX2_looksRound 36 = .ok (.invokevirtual 138, 3) := by decide +kernel
theorem dX2_looksRound_39 : decode cX2_looksRound 39 = .ok (.aload_n 0, 1) := by decide +kernel
theorem dX2_looksRound_40 : decode cX2_looksRound 40 = .ok (.getfield 39, 3) := by decide +kernel
theorem dX2_looksRound_43 : decode cX2_looksRound 43 = .ok (.lconst 0, 1) := by decide +kernel
theorem dX2_looksRound_44 : decode cX2_looksRound 44 = .ok (.invokestatic 202, 3) := by decide +kernel
theorem dX2_looksRound_47 : decode cX2_looksRound 47 = .ok (.aload_n 0, 1) := by decide +kernel
theorem dX2_looksRound_48 : decode cX2_looksRound 48 = .ok (.getfield 39, 3) := by decide +kernel
theorem dX2_looksRound_51 : decode cX2_looksRound 51 = .ok (.iconst 0, 1) := by decide +kernel
theorem dX2_looksRound_52 : decode cX2_looksRound 52 = .ok (.lconst 1, 1) := by decide +kernel
theorem dX2_looksRound_53 : decode cX2_looksRound 53 = .ok (.lastore, 1) := by decide +kernel
theorem dX2_looksRound_54 : decode cX2_looksRound 54 = .ok (.lconst 1, 1) := by decide +kernel
theorem dX2_looksRound_55 : decode cX2_looksRound 55 = .ok (.lstore 4, 2) := by decide +kernel
theorem dX2_looksRound_57 : decode cX2_looksRound 57 = .ok (.iconst 0, 1) := by decide +kernel
theorem dX2_looksRound_58 : decode cX2_looksRound 58 = .ok (.istore 6, 2) := by decide +kernel
theorem dX2_looksRound_60 : decode cX2_looksRound 60 = .ok (.iload 6, 2) := by decide +kernel
theorem dX2_looksRound_62 : decode cX2_looksRound 62 = .ok (.aload_n 0, 1) := by decide +kernel
theorem dX2_looksRound_63 : decode cX2_looksRound 63 = .ok (.getfield 16, 3) := by decide +kernel
theorem dX2_looksRound_66 : decode cX2_looksRound 66 = .ok (.getfield 110, 3) := by decide +kernel
theorem dX2_looksRound_69 : decode cX2_looksRound 69 = .ok (.if_icmp .ge 65, 3) := by decide +kernel
theorem dX2_looksRound_72 : decode cX2_looksRound 72 = .ok (.aload_n 0, 1) := by decide +kernel
theorem dX2_looksRound_73 : decode cX2_looksRound 73 = .ok (.getfield 16, 3) := by decide +kernel
theorem dX2_looksRound_76 : decode cX2_looksRound 76 = .ok (.iload 6, 2) := by decide +kernel
theorem dX2_looksRound_78 : decode cX2_looksRound 78 = .ok (.invokevirtual 208, 3) := by decide +kernel
theorem dX2_looksRound_81 : decode cX2_looksRound 81 = .ok (.ifCond .eq 31, 3) := by decide +kernel
theorem dX2_looksRound_84 : decode cX2_looksRound 84 = .ok (.lload 4, 2) := by decide +kernel
theorem dX2_looksRound_86 : decode cX2_looksRound 86 = .ok (.iload_n 1, 1) := by decide +kernel
theorem dX2_looksRound_87 : decode cX2_looksRound 87 = .ok (.i2l, 1) := by decide +kernel
theorem dX2_looksRound_88 : decode cX2_looksRound 88 = .ok (.lmul, 1) := by decide +kernel
theorem dX2_looksRound_89 : decode cX2_looksRound 89 = .ok (.lstore 4, 2) := by decide +kernel
theorem dX2_looksRound_91 : decode cX2_looksRound 91 = .ok (.aload_n 0, 1) := by decide +kernel
theorem dX2_looksRound_92 : decode cX2_looksRound 92 = .ok (.aload_n 0, 1) := by decide +kernel
theorem dX2_looksRound_93 : decode cX2_looksRound 93 = .ok (.getfield 16, 3) := by decide +kernel
theorem dX2_looksRound_96 : decode cX2_looksRound 96 = .ok (.getfield 77, 3) := by decide +kernel
theorem dX2_looksRound_99 : decode cX2_looksRound 99 = .ok (.iload 6, 2) := by decide +kernel
theorem dX2_looksRound_101 : decode cX2_looksRound 101 = .ok (.iaload, 1) := by decide +kernel
theorem dX2_looksRound_102 : decode cX2_looksRound 102 = .ok (.iconst 1, 1) := by decide +kernel
theorem dX2_looksRound_103 : decode cX2_looksRound 103 = .ok (.iload_n 1, 1) := by decide +kernel
theorem dX2_looksRound_104 : decode cX2_looksRound 104 = .ok (.iconst 1, 1) := by decide +kernel
theorem dX2_looksRound_105 : decode cX2_looksRound 105 = .ok (.isub, 1) := by decide +kernel
theorem dX2_looksRound_106 : decode cX2_looksRound 106 = .ok (.invokevirtual 211, 3) := by decide +kernel
theorem dX2_looksRound_109 : decode cX2_looksRound 109 = .ok (.goto 19, 3) := by decide +kernel
theorem dX2_looksRound_112 : decode cX2_looksRound 112 = .ok (.aload_n 0, 1) := by decide +kernel
theorem dX2_looksRound_113 : decode cX2_looksRound 113 = .ok (.aload_n 0, 1) := by decide +kernel
theorem dX2_looksRound_114 : decode cX2_looksRound 114 = .ok (.getfield 16, 3) := by decide +kernel
theorem dX2_looksRound_117 : decode cX2_looksRound 117 = .ok (.getfield 77, 3) := by decide +kernel
theorem dX2_looksRound_120 : decode cX2_looksRound 120 = .ok (.iload 6, 2) := by decide +kernel
theorem dX2_looksRound_122 : decode cX2_looksRound 122 = .ok (.iaload, 1) := by decide +kernel
theorem dX2_looksRound_123 : decode cX2_looksRound 123 = .ok (.iconst 0, 1) := by decide +kernel
theorem dX2_looksRound_124 : decode cX2_looksRound 124 = .ok (.iconst 1, 1) := by decide +kernel
theorem dX2_looksRound_125 : decode cX2_looksRound 125 = .ok (.invokevirtual 211, 3) := by decide +kernel
theorem dX2_looksRound_128 : decode cX2_looksRound 128 = .ok (.iinc 6 1, 3) := by decide +kernel
theorem dX2_looksRound_131 : decode cX2_looksRound 131 = .ok (.goto (-71), 3) := by decide +kernel
theorem dX2_looksRound_134 : decode cX2_looksRound 134 = .ok (.lconst 0, 1) := by decide +kernel
theorem dX2_looksRound_135 : decode cX2_looksRound 135 = .ok (.lstore 6, 2) := by decide +kernel
theorem dX2_looksRound_137 : decode cX2_looksRound 137 = .ok (.iconst 0, 1) := by decide +kernel
theorem dX2_looksRound_138 : decode cX2_looksRound 138 = .ok (.istore 8, 2) := by decide +kernel
theorem dX2_looksRound_140 : decode cX2_looksRound 140 = .ok (.iload 8, 2) := by decide +kernel
theorem dX2_looksRound_142 : decode cX2_looksRound 142 = .ok (.iload_n 2, 1) := by decide +kernel
theorem dX2_looksRound_143 : decode cX2_looksRound 143 = .ok (.if_icmp .gt 21, 3) := by decide +kernel
theorem dX2_looksRound_146 : decode cX2_looksRound 146 = .ok (.lload 6, 2) := by decide +kernel
theorem dX2_looksRound_148 : decode cX2_looksRound 148 = .ok (.aload_n 0, 1) := by decide +kernel
theorem dX2_looksRound_149 : decode cX2_looksRound 149 = .ok (.getfield 39, 3) := by decide +kernel
theorem dX2_looksRound_152 : decode cX2_looksRound 152 = .ok (.iload 8, 2) := by decide +kernel
theorem dX2_looksRound_154 : decode cX2_looksRound 154 = .ok (.laload, 1) := by decide +kernel
theorem dX2_looksRound_155 : decode cX2_looksRound 155 = .ok (.ladd, 1) := by decide +kernel
theorem dX2_looksRound_156 : decode cX2_looksRound 156 = .ok (.lstore 6, 2) := by decide +kernel
theorem dX2_looksRound_158 : decode cX2_looksRound 158 = .ok (.iinc 8 1, 3) := by decide +kernel
theorem dX2_looksRound_161 : decode cX2_looksRound 161 = .ok (.goto (-21), 3) := by decide +kernel
theorem dX2_looksRound_164 : decode cX2_looksRound 164 = .ok (.lload 6, 2) := by decide +kernel
theorem dX2_looksRound_166 : decode cX2_looksRound 166 = .ok (.lload 4, 2) := by decide +kernel
theorem dX2_looksRound_168 : decode cX2_looksRound 168 = .ok (.iload_n 3, 1) := by decide +kernel
theorem dX2_looksRound_169 : decode cX2_looksRound 169 = .ok (.invokestatic 215, 3) := by decide +kernel
theorem dX2_looksRound_172 : decode cX2_looksRound 172 = .ok (.lreturn, 1) := by decide +kernel
theorem dX2_whatIs_0 : decode cX2_whatIs 0 = .ok (.aload_n 0, 1) := by decide +kernel
theorem dX2_whatIs_1 : decode cX2_whatIs 1 = .ok (.iload_n 1, 1) := by decide +kernel
theorem dX2_whatIs_2 : decode cX2_whatIs 2 = .ok (.invokevirtual 44, 3) := by decide +kernel
theorem dX2_whatIs_5 : decode cX2_whatIs 5 = .ok (.astore 4, 2) := by decide +kernel
theorem dX2_whatIs_7 : decode cX2_whatIs 7 = .ok (.aload 4, 2) := by decide +kernel
theorem dX2_whatIs_9 : decode cX2_whatIs 9 = .ok (.ifnull 23, 3) := by decide +kernel
theorem dX2_whatIs_12 : decode cX2_whatIs 12 = .ok (.aload_n 0, 1) := by decide +kernel
theorem dX2_whatIs_13 : decode cX2_whatIs 13 = .ok (.getfield 12, 3) := by decide +kernel
theorem dX2_whatIs_16 : decode cX2_whatIs 16 = .ok (.iload_n 2, 1) := by decide +kernel
theorem dX2_whatIs_17 : decode cX2_whatIs 17 = .ok (.invokevirtual 67, 3) := by decide +kernel
theorem dX2_whatIs_20 : decode cX2_whatIs 20 = .ok (.ifCond .eq 12, 3) := by decide +kernel
theorem dX2_whatIs_23 : decode cX2_whatIs 23 = .ok (.iload_n 3, 1) := by decide +kernel
theorem dX2_whatIs_24 : decode cX2_whatIs 24 = .ok (.ifCond .lt 8, 3) := by decide +kernel
theorem dX2_whatIs_27 : decode cX2_whatIs 27 = .ok (.iload_n 3, 1) := by decide +kernel
theorem dX2_whatIs_28 : decode cX2_whatIs 28 = .ok (.iconst 1, 1) := by decide +kernel
theorem dX2_whatIs_29 : decode cX2_whatIs 29 = .ok (.if_icmp .le 5, 3) := by decide +kernel
theorem dX2_whatIs_32 : decode cX2_whatIs 32 = .ok (.iconst (-1), 1) := by decide +kernel
theorem dX2_whatIs_33 : decode cX2_whatIs 33 = .ok (.ireturn, 1) := by decide +kernel
theorem dX2_whatIs_34 : decode cX2_whatIs 34 = .ok (.aload 4, 2) := by decide +kernel
theorem dX2_whatIs_36 : decode cX2_whatIs 36 = .ok (.iconst 2, 1) := by decide +kernel
theorem dX2_whatIs_37 : decode cX2_whatIs 37 = .ok (.invokevirtual 97, 3) := by decide +kernel
theorem dX2_whatIs_40 : decode cX2_whatIs 40 = .ok (.istore 5, 2) := by decide +kernel
theorem dX2_whatIs_42 : decode cX2_whatIs 42 = .ok (.iload 5, 2) := by decide +kernel
theorem dX2_whatIs_44 : decode cX2_whatIs 44 = .ok (.ifCond .eq 6, 3) := by decide +kernel
theorem dX2_whatIs_47 : decode cX2_whatIs 47 = .ok (.iload 5, 2) := by decide +kernel
theorem dX2_whatIs_49 : decode cX2_whatIs 49 = .ok (.ireturn, 1) := by decide +kernel
theorem dX2_whatIs_50 : decode cX2_whatIs 50 = .ok (.iload_n 3, 1) := by decide +kernel
theorem dX2_whatIs_51 : decode cX2_whatIs 51 = .ok (.ifCond .ne 13, 3) := by decide +kernel
theorem dX2_whatIs_54 : decode cX2_whatIs 54 = .ok (.aload_n 0, 1) := by decide +kernel
theorem dX2_whatIs_55 : decode cX2_whatIs 55 = .ok (.aload 4, 2) := by decide +kernel
theorem dX2_whatIs_57 : decode cX2_whatIs 57 = .ok (.iload_n 2, 1) := by decide +kernel
theorem dX2_whatIs_58 : decode cX2_whatIs 58 = .ok (.invokevirtual 219, 3) := by decide +kernel
theorem dX2_whatIs_61 : decode cX2_whatIs 61 = .ok (.goto 10, 3) := by decide +kernel
theorem dX2_whatIs_64 : decode cX2_whatIs 64 = .ok (.aload_n 0, 1) := by decide +kernel
theorem dX2_whatIs_65 : decode cX2_whatIs 65 = .ok (.aload 4, 2) := by decide +kernel
theorem dX2_whatIs_67 : decode cX2_whatIs 67 = .ok (.iload_n 2, 1) := by decide +kernel
theorem dX2_whatIs_68 : decode cX2_whatIs 68 = .ok (.invokevirtual 223, 3) := by decide +kernel
theorem dX2_whatIs_71 : decode cX2_whatIs 71 = .ok (.ireturn, 1) := by decide +kernel
theorem dX2_mean_0 : decode cX2_mean 0 = .ok (.iload_n 1, 1) := by decide +kernel
theorem dX2_mean_1 : decode cX2_mean 1 = .ok (.ifCond .lt 8, 3) := by decide +kernel
theorem dX2_mean_4 : decode cX2_mean 4 = .ok (.iload_n 1, 1) := by decide +kernel
theorem dX2_mean_5 : decode cX2_mean 5 = .ok (.iconst 1, 1) := by decide +kernel
theorem dX2_mean_6 : decode cX2_mean 6 = .ok (.if_icmp .le 7, 3) := by decide +kernel
theorem dX2_mean_9 : decode cX2_mean 9 = .ok (.ldc2_w 200, 3) := by decide +kernel
theorem dX2_mean_12 : decode cX2_mean 12 = .ok (.lreturn, 1) := by decide +kernel
theorem dX2_mean_13 : decode cX2_mean 13 = .ok (.aload_n 0, 1) := by decide +kernel
theorem dX2_mean_14 : decode cX2_mean 14 = .ok (.getfield 12, 3) := by decide +kernel
theorem dX2_mean_17 : decode cX2_mean 17 = .ok (.getfield 110, 3) := by decide +kernel
theorem dX2_mean_20 : decode cX2_mean 20 = .ok (.ifCond .ne 12, 3) := by decide +kernel
theorem dX2_mean_23 : decode cX2_mean 23 = .ok (.lconst 0, 1) := by decide +kernel
theorem dX2_mean_24 : decode cX2_mean 24 = .ok (.lconst 1, 1) := by decide +kernel
theorem dX2_mean_25 : decode cX2_mean 25 = .ok (.iload_n 1, 1) := by decide +kernel
theorem dX2_mean_26 : decode cX2_mean 26 = .ok (.invokestatic 215, 3) := by decide +kernel
theorem dX2_mean_29 : decode cX2_mean 29 = .ok (.goto 23, 3) := by decide +kernel
theorem dX2_mean_32 : decode cX2_mean 32 = .ok (.aload_n 0, 1) := by decide +kernel
theorem dX2_mean_33 : decode cX2_mean 33 = .ok (.getfield 12, 3) := by decide +kernel
theorem dX2_mean_36 : decode cX2_mean 36 = .ok (.invokevirtual 226, 3) := by decide +kernel
theorem dX2_mean_39 : decode cX2_mean 39 = .ok (.i2l, 1) := by decide +kernel
theorem dX2_mean_40 : decode cX2_mean 40 = .ok (.aload_n 0, 1) := by decide +kernel
theorem dX2_mean_41 : decode cX2_mean 41 = .ok (.getfield 12, 3) := by decide +kernel
theorem dX2_mean_44 : decode cX2_mean 44 = .ok (.getfield 110, 3) := by decide +kernel
theorem dX2_mean_47 : decode cX2_mean 47 = .ok (.i2l, 1) := by decide +kernel
theorem dX2_mean_48 : decode cX2_mean 48 = .ok (.iload_n 1, 1) := by decide +kernel
theorem dX2_mean_49 : decode cX2_mean 49 = .ok (.invokestatic 215, 3) := by decide +kernel
theorem dX2_mean_52 : decode cX2_mean 52 = .ok (.lreturn, 1) := by decide +kernel
theorem dX2_tightest_0 : decode cX2_tightest 0 = .ok (.iload_n 1, 1) := by decide +kernel
theorem dX2_tightest_1 : decode cX2_tightest 1 = .ok (.ifCond .lt 8, 3) := by decide +kernel
theorem dX2_tightest_4 : decode cX2_tightest 4 = .ok (.iload_n 1, 1) := by decide +kernel
theorem dX2_tightest_5 : decode cX2_tightest 5 = .ok (.iconst 1, 1) := by decide +kernel
theorem dX2_tightest_6 : decode cX2_tightest 6 = .ok (.if_icmp .le 5, 3) := by decide +kernel
theorem dX2_tightest_9 : decode cX2_tightest 9 = .ok (.iconst (-1), 1) := by decide +kernel
theorem dX2_tightest_10 : decode cX2_tightest 10 = .ok (.ireturn, 1) := by decide +kernel
theorem dX2_tightest_11 : decode cX2_tightest 11 = .ok (.bipush (-4), 2) := by decide +kernel
theorem dX2_tightest_13 : decode cX2_tightest 13 = .ok (.istore_n 2, 1) := by decide +kernel
theorem dX2_tightest_14 : decode cX2_tightest 14 = .ok (.bipush (-4), 2) := by decide +kernel
theorem dX2_tightest_16 : decode cX2_tightest 16 = .ok (.istore_n 3, 1) := by decide +kernel
theorem dX2_tightest_17 : decode cX2_tightest 17 = .ok (.iconst 0, 1) := by decide +kernel
theorem dX2_tightest_18 : decode cX2_tightest 18 = .ok (.istore 4, 2) := by decide +kernel
theorem dX2_tightest_20 : decode cX2_tightest 20 = .ok (.iload 4, 2) := by decide +kernel
theorem dX2_tightest_22 : decode cX2_tightest 22 = .ok (.aload_n 0, 1) := by decide +kernel
theorem dX2_tightest_23 : decode cX2_tightest 23 = .ok (.getfield 12, 3) := by decide +kernel
theorem dX2_tightest_26 : decode cX2_tightest 26 = .ok (.getfield 110, 3) := by decide +kernel
theorem dX2_tightest_29 : decode cX2_tightest 29 = .ok (.if_icmp .ge 38, 3) := by decide +kernel
theorem dX2_tightest_32 : decode cX2_tightest 32 = .ok (.aload_n 0, 1) := by decide +kernel
theorem dX2_tightest_33 : decode cX2_tightest 33 = .ok (.getfield 12, 3) := by decide +kernel
theorem dX2_tightest_36 : decode cX2_tightest 36 = .ok (.iload 4, 2) := by decide +kernel
theorem dX2_tightest_38 : decode cX2_tightest 38 = .ok (.invokevirtual 94, 3) := by decide +kernel
theorem dX2_tightest_41 : decode cX2_tightest 41 = .ok (.istore 5, 2) := by decide +kernel
theorem dX2_tightest_43 : decode cX2_tightest 43 = .ok (.iload_n 2, 1) := by decide +kernel
theorem dX2_tightest_44 : decode cX2_tightest 44 = .ok (.bipush (-4), 2) := by decide +kernel
theorem dX2_tightest_46 : decode cX2_tightest 46 = .ok (.if_icmp .eq 9, 3) := by decide +kernel
theorem dX2_tightest_49 : decode cX2_tightest 49 = .ok (.iload 5, 2) := by decide +kernel
theorem dX2_tightest_51 : decode cX2_tightest 51 = .ok (.iload_n 3, 1) := by decide +kernel
theorem dX2_tightest_52 : decode cX2_tightest 52 = .ok (.if_icmp .ge 9, 3) := by decide +kernel
theorem dX2_tightest_55 : decode cX2_tightest 55 = .ok (.iload 5, 2) := by decide +kernel
theorem dX2_tightest_57 : decode cX2_tightest 57 = .ok (.istore_n 3, 1) := by decide +kernel
theorem dX2_tightest_58 : decode cX2_tightest 58 = .ok (.iload 4, 2) := by decide +kernel
theorem dX2_tightest_60 : decode cX2_tightest 60 = .ok (.istore_n 2, 1) := by decide +kernel
theorem dX2_tightest_61 : decode cX2_tightest 61 = .ok (.iinc 4 1, 3) := by decide +kernel
theorem dX2_tightest_64 : decode cX2_tightest 64 = .ok (.goto (-44), 3) := by decide +kernel
theorem dX2_tightest_67 : decode cX2_tightest 67 = .ok (.iload_n 1, 1) := by decide +kernel
theorem dX2_tightest_68 : decode cX2_tightest 68 = .ok (.ifCond .ne 7, 3) := by decide +kernel
theorem dX2_tightest_71 : decode cX2_tightest 71 = .ok (.iload_n 2, 1) := by decide +kernel
theorem dX2_tightest_72 : decode cX2_tightest 72 = .ok (.goto 4, 3) := by decide +kernel
theorem dX2_tightest_75 : decode cX2_tightest 75 = .ok (.iload_n 3, 1) := by decide +kernel
theorem dX2_tightest_76 : decode cX2_tightest 76 = .ok (.ireturn, 1) := by decide +kernel
theorem dX2_forged_0 : decode cX2_forged 0 = .ok (.aload_n 0, 1) := by decide +kernel
theorem dX2_forged_1 : decode cX2_forged 1 = .ok (.iload_n 1, 1) := by decide +kernel
theorem dX2_forged_2 : decode cX2_forged 2 = .ok (.invokevirtual 44, 3) := by decide +kernel
theorem dX2_forged_5 : decode cX2_forged 5 = .ok (.astore_n 2, 1) := by decide +kernel
theorem dX2_forged_6 : decode cX2_forged 6 = .ok (.aload_n 2, 1) := by decide +kernel
theorem dX2_forged_7 : decode cX2_forged 7 = .ok (.ifnonnull 5, 3) := by decide +kernel
theorem dX2_forged_10 : decode cX2_forged 10 = .ok (.iconst (-1), 1) := by decide +kernel
theorem dX2_forged_11 : decode cX2_forged 11 = .ok (.ireturn, 1) := by decide +kernel
theorem dX2_forged_12 : decode cX2_forged 12 = .ok (.aload_n 2, 1) := by decide +kernel
theorem dX2_forged_13 : decode cX2_forged 13 = .ok (.iconst 2, 1) := by decide +kernel
theorem dX2_forged_14 : decode cX2_forged 14 = .ok (.invokevirtual 97, 3) := by decide +kernel
theorem dX2_forged_17 : decode cX2_forged 17 = .ok (.istore_n 3, 1) := by decide +kernel
theorem dX2_forged_18 : decode cX2_forged 18 = .ok (.iload_n 3, 1) := by decide +kernel
theorem dX2_forged_19 : decode cX2_forged 19 = .ok (.ifCond .eq 5, 3) := by decide +kernel
theorem dX2_forged_22 : decode cX2_forged 22 = .ok (.iload_n 3, 1) := by decide +kernel
theorem dX2_forged_23 : decode cX2_forged 23 = .ok (.ireturn, 1) := by decide +kernel
theorem dX2_forged_24 : decode cX2_forged 24 = .ok (.iconst 0, 1) := by decide +kernel
theorem dX2_forged_25 : decode cX2_forged 25 = .ok (.istore 4, 2) := by decide +kernel
theorem dX2_forged_27 : decode cX2_forged 27 = .ok (.iload 4, 2) := by decide +kernel
theorem dX2_forged_29 : decode cX2_forged 29 = .ok (.aload_n 2, 1) := by decide +kernel
theorem dX2_forged_30 : decode cX2_forged 30 = .ok (.getfield 229, 3) := by decide +kernel
theorem dX2_forged_33 : decode cX2_forged 33 = .ok (.if_icmp .ge 52, 3) := by decide +kernel
theorem dX2_forged_36 : decode cX2_forged 36 = .ok (.aload_n 2, 1) := by decide +kernel
theorem dX2_forged_37 : decode cX2_forged 37 = .ok (.getfield 232, 3) := by decide +kernel
theorem dX2_forged_40 : decode cX2_forged 40 = .ok (.iload 4, 2) := by decide +kernel
theorem dX2_forged_42 : decode cX2_forged 42 = .ok (.iaload, 1) := by decide +kernel
theorem dX2_forged_43 : decode cX2_forged 43 = .ok (.istore 5, 2) := by decide +kernel
theorem dX2_forged_45 : decode cX2_forged 45 = .ok (.aload_n 0, 1) := by decide +kernel
theorem dX2_forged_46 : decode cX2_forged 46 = .ok (.getfield 12, 3) := by decide +kernel
theorem dX2_forged_49 : decode cX2_forged 49 = .ok (.iload 4, 2) := by decide +kernel
theorem dX2_forged_51 : decode cX2_forged 51 = .ok (.invokevirtual 67, 3) := by decide +kernel
theorem dX2_forged_54 : decode cX2_forged 54 = .ok (.ifCond .eq 22, 3) := by decide +kernel
theorem dX2_forged_57 : decode cX2_forged 57 = .ok (.iload 5, 2) := by decide +kernel
theorem dX2_forged_59 : decode cX2_forged 59 = .ok (.ifCond .lt 17, 3) := by decide +kernel
theorem dX2_forged_62 : decode cX2_forged 62 = .ok (.iload 5, 2) := by decide +kernel
theorem dX2_forged_64 : decode cX2_forged 64 = .ok (.aload_n 0, 1) := by decide +kernel
theorem dX2_forged_65 : decode cX2_forged 65 = .ok (.getfield 12, 3) := by decide +kernel
theorem dX2_forged_68 : decode cX2_forged 68 = .ok (.iload 4, 2) := by decide +kernel
theorem dX2_forged_70 : decode cX2_forged 70 = .ok (.invokevirtual 83, 3) := by decide +kernel
theorem dX2_forged_73 : decode cX2_forged 73 = .ok (.if_icmp .le 6, 3) := by decide +kernel
theorem dX2_forged_76 : decode cX2_forged 76 = .ok (.iload 4, 2) := by decide +kernel
theorem dX2_forged_78 : decode cX2_forged 78 = .ok (.ireturn, 1) := by decide +kernel
theorem dX2_forged_79 : decode cX2_forged 79 = .ok (.iinc 4 1, 3) := by decide +kernel
theorem dX2_forged_82 : decode cX2_forged 82 = .ok (.goto (-55), 3) := by decide +kernel
theorem dX2_forged_85 : decode cX2_forged 85 = .ok (.bipush (-4), 2) := by decide +kernel
theorem dX2_forged_87 : decode cX2_forged 87 = .ok (.ireturn, 1) := by decide +kernel
theorem dX2_judge_0 : decode cX2_judge 0 = .ok (.aload_n 0, 1) := by decide +kernel
theorem dX2_judge_1 : decode cX2_judge 1 = .ok (.iload_n 1, 1) := by decide +kernel
theorem dX2_judge_2 : decode cX2_judge 2 = .ok (.invokevirtual 44, 3) := by decide +kernel
theorem dX2_judge_5 : decode cX2_judge 5 = .ok (.astore_n 2, 1) := by decide +kernel
theorem dX2_judge_6 : decode cX2_judge 6 = .ok (.aload_n 2, 1) := by decide +kernel
theorem dX2_judge_7 : decode cX2_judge 7 = .ok (.ifnonnull 5, 3) := by decide +kernel
theorem dX2_judge_10 : decode cX2_judge 10 = .ok (.iconst (-1), 1) := by decide +kernel
theorem dX2_judge_11 : decode cX2_judge 11 = .ok (.ireturn, 1) := by decide +kernel
theorem dX2_judge_12 : decode cX2_judge 12 = .ok (.aload_n 2, 1) := by decide +kernel
theorem dX2_judge_13 : decode cX2_judge 13 = .ok (.iconst 2, 1) := by decide +kernel
theorem dX2_judge_14 : decode cX2_judge 14 = .ok (.invokevirtual 97, 3) := by decide +kernel
theorem dX2_judge_17 : decode cX2_judge 17 = .ok (.istore_n 3, 1) := by decide +kernel
theorem dX2_judge_18 : decode cX2_judge 18 = .ok (.iload_n 3, 1) := by decide +kernel
theorem dX2_judge_19 : decode cX2_judge 19 = .ok (.ifCond .eq 5, 3) := by decide +kernel
theorem dX2_judge_22 : decode cX2_judge 22 = .ok (.iload_n 3, 1) := by decide +kernel
theorem dX2_judge_23 : decode cX2_judge 23 = .ok (.ireturn, 1) := by decide +kernel
theorem dX2_judge_24 : decode cX2_judge 24 = .ok (.aload_n 0, 1) := by decide +kernel
theorem dX2_judge_25 : decode cX2_judge 25 = .ok (.getfield 16, 3) := by decide +kernel
theorem dX2_judge_28 : decode cX2_judge 28 = .ok (.aload_n 0, 1) := by decide +kernel
theorem dX2_judge_29 : decode cX2_judge 29 = .ok (.getfield 12, 3) := by decide +kernel
theorem dX2_judge_32 : decode cX2_judge 32 = .ok (.invokevirtual 59, 3) := by decide +kernel
theorem dX2_judge_35 : decode cX2_judge 35 = .ok (.iconst 0, 1) := by decide +kernel
theorem dX2_judge_36 : decode cX2_judge 36 = .ok (.istore 4, 2) := by decide +kernel
theorem dX2_judge_38 : decode cX2_judge 38 = .ok (.iload 4, 2) := by decide +kernel
theorem dX2_judge_40 : decode cX2_judge 40 = .ok (.aload_n 2, 1) := by decide +kernel
theorem dX2_judge_41 : decode cX2_judge 41 = .ok (.getfield 229, 3) := by decide +kernel
theorem dX2_judge_44 : decode cX2_judge 44 = .ok (.if_icmp .ge 52, 3) := by decide +kernel
theorem dX2_judge_47 : decode cX2_judge 47 = .ok (.iload 4, 2) := by decide +kernel
theorem dX2_judge_49 : decode cX2_judge 49 = .ok (.ifCond .le 12, 3) := by decide +kernel
theorem dX2_judge_52 : decode cX2_judge 52 = .ok (.aload_n 0, 1) := by decide +kernel
theorem dX2_judge_53 : decode cX2_judge 53 = .ok (.getfield 16, 3) := by decide +kernel
theorem dX2_judge_56 : decode cX2_judge 56 = .ok (.iconst 1, 1) := by decide +kernel
theorem dX2_judge_57 : decode cX2_judge 57 = .ok (.invokevirtual 142, 3) := by decide +kernel
theorem dX2_judge_60 : decode cX2_judge 60 = .ok (.pop, 1) := by decide +kernel
theorem dX2_judge_61 : decode cX2_judge 61 = .ok (.aload_n 2, 1) := by decide +kernel
theorem dX2_judge_62 : decode cX2_judge 62 = .ok (.iload 4, 2) := by decide +kernel
theorem dX2_judge_64 : decode cX2_judge 64 = .ok (.invokevirtual 235, 3) := by decide +kernel
theorem dX2_judge_67 : decode cX2_judge 67 = .ok (.ifCond .ne 23, 3) := by decide +kernel
theorem dX2_judge_70 : decode cX2_judge 70 = .ok (.aload_n 2, 1) := by decide +kernel
theorem dX2_judge_71 : decode cX2_judge 71 = .ok (.getfield 232, 3) := by decide +kernel
theorem dX2_judge_74 : decode cX2_judge 74 = .ok (.iload 4, 2) := by decide +kernel
theorem dX2_judge_76 : decode cX2_judge 76 = .ok (.iaload, 1) := by decide +kernel
theorem dX2_judge_77 : decode cX2_judge 77 = .ok (.aload_n 0, 1) := by decide +kernel
theorem dX2_judge_78 : decode cX2_judge 78 = .ok (.getfield 16, 3) := by decide +kernel
theorem dX2_judge_81 : decode cX2_judge 81 = .ok (.invokevirtual 131, 3) := by decide +kernel
theorem dX2_judge_84 : decode cX2_judge 84 = .ok (.if_icmp .eq 6, 3) := by decide +kernel
theorem dX2_judge_87 : decode cX2_judge 87 = .ok (.iload 4, 2) := by decide +kernel
theorem dX2_judge_89 : decode cX2_judge 89 = .ok (.ireturn, 1) := by decide +kernel
theorem dX2_judge_90 : decode cX2_judge 90 = .ok (.iinc 4 1, 3) := by decide +kernel
theorem dX2_judge_93 : decode cX2_judge 93 = .ok (.goto (-55), 3) := by decide +kernel
theorem dX2_judge_96 : decode cX2_judge 96 = .ok (.bipush (-4), 2) := by decide +kernel
theorem dX2_judge_98 : decode cX2_judge 98 = .ok (.ireturn, 1) := by decide +kernel
theorem dX2_trips_0 : decode cX2_trips 0 = .ok (.iload_n 1, 1) := by decide +kernel
theorem dX2_trips_1 : decode cX2_trips 1 = .ok (.iconst 1, 1) := by decide +kernel
theorem dX2_trips_2 : decode cX2_trips 2 = .ok (.if_icmp .lt 18, 3) := by decide +kernel
theorem dX2_trips_5 : decode cX2_trips 5 = .ok (.iload_n 1, 1) := by decide +kernel
theorem dX2_trips_6 : decode cX2_trips 6 = .ok (.bipush 20, 2) := by decide +kernel
theorem dX2_trips_8 : decode cX2_trips 8 = .ok (.if_icmp .gt 12, 3) := by decide +kernel
theorem dX2_trips_11 : decode cX2_trips 11 = .ok (.iload_n 3, 1) := by decide +kernel
theorem dX2_trips_12 : decode cX2_trips 12 = .ok (.ifCond .lt 8, 3) := by decide +kernel
theorem dX2_trips_15 : decode cX2_trips 15 = .ok (.iload_n 3, 1) := by decide +kernel
theorem dX2_trips_16 : decode cX2_trips 16 = .ok (.iconst 1, 1) := by decide +kernel
theorem dX2_trips_17 : decode cX2_trips 17 = .ok (.if_icmp .le 5, 3) := by decide +kernel
theorem dX2_trips_20 : decode cX2_trips 20 = .ok (.iconst (-1), 1) := by decide +kernel
theorem dX2_trips_21 : decode cX2_trips 21 = .ok (.ireturn, 1) := by decide +kernel
theorem dX2_trips_22 : decode cX2_trips 22 = .ok (.aload_n 0, 1) := by decide +kernel
theorem dX2_trips_23 : decode cX2_trips 23 = .ok (.getfield 12, 3) := by decide +kernel
theorem dX2_trips_26 : decode cX2_trips 26 = .ok (.getfield 110, 3) := by decide +kernel
theorem dX2_trips_29 : decode cX2_trips 29 = .ok (.ifCond .ne 6, 3) := by decide +kernel
theorem dX2_trips_32 : decode cX2_trips 32 = .ok (.bipush (-3), 2) := by decide +kernel
theorem dX2_trips_34 : decode cX2_trips 34 = .ok (.ireturn, 1) := by decide +kernel
theorem dX2_trips_35 : decode cX2_trips 35 = .ok (.aload_n 0, 1) := by decide +kernel
theorem dX2_trips_36 : decode cX2_trips 36 = .ok (.getfield 16, 3) := by decide +kernel
theorem dX2_trips_39 : decode cX2_trips 39 = .ok (.aload_n 0, 1) := by decide +kernel
theorem dX2_trips_40 : decode cX2_trips 40 = .ok (.getfield 12, 3) := by decide +kernel
theorem dX2_trips_43 : decode cX2_trips 43 = .ok (.invokevirtual 59, 3) := by decide +kernel
theorem dX2_trips_46 : decode cX2_trips 46 = .ok (.iload_n 2, 1) := by decide +kernel
theorem dX2_trips_47 : decode cX2_trips 47 = .ok (.istore 4, 2) := by decide +kernel
theorem dX2_trips_49 : decode cX2_trips 49 = .ok (.iconst 0, 1) := by decide +kernel
theorem dX2_trips_50 : decode cX2_trips 50 = .ok (.istore 5, 2) := by decide +kernel
theorem dX2_trips_52 : decode cX2_trips 52 = .ok (.iconst 0, 1) := by decide +kernel
theorem dX2_trips_53 : decode cX2_trips 53 = .ok (.istore 6, 2) := by decide +kernel
theorem dX2_trips_55 : decode cX2_trips 55 = .ok (.iload 6, 2) := by decide +kernel
theorem dX2_trips_57 : decode cX2_trips 57 = .ok (.iload_n 1, 1) := by decide +kernel
theorem dX2_trips_58 : decode cX2_trips 58 = .ok (.if_icmp .ge 55, 3) := by decide +kernel
theorem dX2_trips_61 : decode cX2_trips 61 = .ok (.aload_n 0, 1) := by decide +kernel
theorem dX2_trips_62 : decode cX2_trips 62 = .ok (.iload 4, 2) := by decide +kernel
theorem dX2_trips_64 : decode cX2_trips 64 = .ok (.invokevirtual 238, 3) := by decide +kernel
theorem dX2_trips_67 : decode cX2_trips 67 = .ok (.istore 4, 2) := by decide +kernel
theorem dX2_trips_69 : decode cX2_trips 69 = .ok (.aload_n 0, 1) := by decide +kernel
theorem dX2_trips_70 : decode cX2_trips 70 = .ok (.getfield 16, 3) := by decide +kernel
theorem dX2_trips_73 : decode cX2_trips 73 = .ok (.iconst 5, 1) := by decide +kernel
theorem dX2_trips_74 : decode cX2_trips 74 = .ok (.invokevirtual 142, 3) := by decide +kernel
theorem dX2_trips_77 : decode cX2_trips 77 = .ok (.pop, 1) := by decide +kernel
theorem dX2_trips_78 : decode cX2_trips 78 = .ok (.iload 5, 2) := by decide +kernel
theorem dX2_trips_80 : decode cX2_trips 80 = .ok (.iload_n 3, 1) := by decide +kernel
theorem dX2_trips_81 : decode cX2_trips 81 = .ok (.ifCond .ne 13, 3) := by decide +kernel
theorem dX2_trips_84 : decode cX2_trips 84 = .ok (.aload_n 0, 1) := by decide +kernel
theorem dX2_trips_85 : decode cX2_trips 85 = .ok (.getfield 16, 3) := by decide +kernel
theorem dX2_trips_88 : decode cX2_trips 88 = .ok (.invokevirtual 131, 3) := by decide +kernel
theorem dX2_trips_91 : decode cX2_trips 91 = .ok (.goto 13, 3) := by decide +kernel
theorem dX2_trips_94 : decode cX2_trips 94 = .ok (.aload_n 0, 1) := by decide +kernel
theorem dX2_trips_95 : decode cX2_trips 95 = .ok (.getfield 16, 3) := by decide +kernel
theorem dX2_trips_98 : decode cX2_trips 98 = .ok (.invokevirtual 241, 3) := by decide +kernel
theorem dX2_trips_101 : decode cX2_trips 101 = .ok (.invokestatic 185, 3) := by decide +kernel
theorem dX2_trips_104 : decode cX2_trips 104 = .ok (.iadd, 1) := by decide +kernel
theorem dX2_trips_105 : decode cX2_trips 105 = .ok (.istore 5, 2) := by decide +kernel
theorem dX2_trips_107 : decode cX2_trips 107 = .ok (.iinc 6 1, 3) := by decide +kernel
theorem dX2_trips_110 : decode cX2_trips 110 = .ok (.goto (-55), 3) := by decide +kernel
theorem dX2_trips_113 : decode cX2_trips 113 = .ok (.iload 5, 2) := by decide +kernel
theorem dX2_trips_115 : decode cX2_trips 115 = .ok (.ireturn, 1) := by decide +kernel
theorem dX2_image_0 : decode cX2_image 0 = .ok (.aload_n 0, 1) := by decide +kernel
theorem dX2_image_1 : decode cX2_image 1 = .ok (.getfield 19, 3) := by decide +kernel
theorem dX2_image_4 : decode cX2_image 4 = .ok (.aload_n 0, 1) := by decide +kernel
theorem dX2_image_5 : decode cX2_image 5 = .ok (.getfield 12, 3) := by decide +kernel
theorem dX2_image_8 : decode cX2_image 8 = .ok (.invokevirtual 59, 3) := by decide +kernel
theorem dX2_image_11 : decode cX2_image 11 = .ok (.aload_n 0, 1) := by decide +kernel
theorem dX2_image_12 : decode cX2_image 12 = .ok (.iconst 1, 1) := by decide +kernel
theorem dX2_image_13 : decode cX2_image 13 = .ok (.putfield 22, 3) := by decide +kernel
theorem dX2_image_16 : decode cX2_image 16 = .ok (.aload_n 0, 1) := by decide +kernel
theorem dX2_image_17 : decode cX2_image 17 = .ok (.getfield 12, 3) := by decide +kernel
theorem dX2_image_20 : decode cX2_image 20 = .ok (.getfield 244, 3) := by decide +kernel
theorem dX2_image_23 : decode cX2_image 23 = .ok (.ireturn, 1) := by decide +kernel
theorem dX2_restore_0 : decode cX2_restore 0 = .ok (.aload_n 0, 1) := by decide +kernel
theorem dX2_restore_1 : decode cX2_restore 1 = .ok (.getfield 22, 3) := by decide +kernel
theorem dX2_restore_4 : decode cX2_restore 4 = .ok (.ifCond .ne 6, 3) := by decide +kernel
theorem dX2_restore_7 : decode cX2_restore 7 = .ok (.bipush (-3), 2) := by decide +kernel
theorem dX2_restore_9 : decode cX2_restore 9 = .ok (.ireturn, 1) := by decide +kernel
theorem dX2_restore_10 : decode cX2_restore 10 = .ok (.aload_n 0, 1) := by decide +kernel
theorem dX2_restore_11 : decode cX2_restore 11 = .ok (.getfield 12, 3) := by decide +kernel
theorem dX2_restore_14 : decode cX2_restore 14 = .ok (.aload_n 0, 1) := by decide +kernel
theorem dX2_restore_15 : decode cX2_restore 15 = .ok (.getfield 19, 3) := by decide +kernel
theorem dX2_restore_18 : decode cX2_restore 18 = .ok (.invokevirtual 59, 3) := by decide +kernel
theorem dX2_restore_21 : decode cX2_restore 21 = .ok (.aload_n 0, 1) := by decide +kernel
theorem dX2_restore_22 : decode cX2_restore 22 = .ok (.getfield 12, 3) := by decide +kernel
theorem dX2_restore_25 : decode cX2_restore 25 = .ok (.getfield 244, 3) := by decide +kernel
theorem dX2_restore_28 : decode cX2_restore 28 = .ok (.ireturn, 1) := by decide +kernel
theorem dX2_count_0 : decode cX2_count 0 = .ok (.iload_n 1, 1) := by decide +kernel
theorem dX2_count_1 : decode cX2_count 1 = .ok (.tableswitch 99 0 6 #[43, 51, 59, 67, 75, 83, 91], 43) := by decide +kernel
theorem dX2_count_44 : decode cX2_count 44 = .ok (.aload_n 0, 1) := by decide +kernel
theorem dX2_count_45 : decode cX2_count 45 = .ok (.getfield 12, 3) := by decide +kernel
theorem dX2_count_48 : decode cX2_count 48 = .ok (.getfield 110, 3) := by decide +kernel
theorem dX2_count_51 : decode cX2_count 51 = .ok (.ireturn, 1) := by decide +kernel
theorem dX2_count_52 : decode cX2_count 52 = .ok (.aload_n 0, 1) := by decide +kernel
theorem dX2_count_53 : decode cX2_count 53 = .ok (.getfield 12, 3) := by decide +kernel
theorem dX2_count_56 : decode cX2_count 56 = .ok (.getfield 119, 3) := by decide +kernel
theorem dX2_count_59 : decode cX2_count 59 = .ok (.ireturn, 1) := by decide +kernel
theorem dX2_count_60 : decode cX2_count 60 = .ok (.aload_n 0, 1) := by decide +kernel
theorem dX2_count_61 : decode cX2_count 61 = .ok (.getfield 12, 3) := by decide +kernel
theorem dX2_count_64 : decode cX2_count 64 = .ok (.getfield 244, 3) := by decide +kernel
theorem dX2_count_67 : decode cX2_count 67 = .ok (.ireturn, 1) := by decide +kernel
theorem dX2_count_68 : decode cX2_count 68 = .ok (.aload_n 0, 1) := by decide +kernel
theorem dX2_count_69 : decode cX2_count 69 = .ok (.getfield 12, 3) := by decide +kernel
theorem dX2_count_72 : decode cX2_count 72 = .ok (.invokevirtual 131, 3) := by decide +kernel
theorem dX2_count_75 : decode cX2_count 75 = .ok (.ireturn, 1) := by decide +kernel
theorem dX2_count_76 : decode cX2_count 76 = .ok (.aload_n 0, 1) := by decide +kernel
theorem dX2_count_77 : decode cX2_count 77 = .ok (.getfield 12, 3) := by decide +kernel
theorem dX2_count_80 : decode cX2_count 80 = .ok (.getfield 247, 3) := by decide +kernel
theorem dX2_count_83 : decode cX2_count 83 = .ok (.ireturn, 1) := by decide +kernel
theorem dX2_count_84 : decode cX2_count 84 = .ok (.aload_n 0, 1) := by decide +kernel
theorem dX2_count_85 : decode cX2_count 85 = .ok (.getfield 12, 3) := by decide +kernel
theorem dX2_count_88 : decode cX2_count 88 = .ok (.invokevirtual 226, 3) := by decide +kernel
theorem dX2_count_91 : decode cX2_count 91 = .ok (.ireturn, 1) := by decide +kernel
theorem dX2_count_92 : decode cX2_count 92 = .ok (.aload_n 0, 1) := by decide +kernel
theorem dX2_count_93 : decode cX2_count 93 = .ok (.getfield 12, 3) := by decide +kernel
theorem dX2_count_96 : decode cX2_count 96 = .ok (.invokevirtual 241, 3) := by decide +kernel
theorem dX2_count_99 : decode cX2_count 99 = .ok (.ireturn, 1) := by decide +kernel
theorem dX2_count_100 : decode cX2_count 100 = .ok (.iconst (-1), 1) := by decide +kernel
theorem dX2_count_101 : decode cX2_count 101 = .ok (.ireturn, 1) := by decide +kernel
theorem dX2_keep_0 : decode cX2_keep 0 = .ok (.aload_n 0, 1) := by decide +kernel
theorem dX2_keep_1 : decode cX2_keep 1 = .ok (.iload_n 1, 1) := by decide +kernel
theorem dX2_keep_2 : decode cX2_keep 2 = .ok (.invokevirtual 44, 3) := by decide +kernel
theorem dX2_keep_5 : decode cX2_keep 5 = .ok (.astore 5, 2) := by decide +kernel
theorem dX2_keep_7 : decode cX2_keep 7 = .ok (.aload 5, 2) := by decide +kernel
theorem dX2_keep_9 : decode cX2_keep 9 = .ok (.ifnull 12, 3) := by decide +kernel
theorem dX2_keep_12 : decode cX2_keep 12 = .ok (.iload_n 2, 1) := by decide +kernel
theorem dX2_keep_13 : decode cX2_keep 13 = .ok (.ifCond .lt 8, 3) := by decide +kernel
theorem dX2_keep_16 : decode cX2_keep 16 = .ok (.iload_n 2, 1) := by decide +kernel
theorem dX2_keep_17 : decode cX2_keep 17 = .ok (.iconst 1, 1) := by decide +kernel
theorem dX2_keep_18 : decode cX2_keep 18 = .ok (.if_icmp .le 5, 3) := by decide +kernel
theorem dX2_keep_21 : decode cX2_keep 21 = .ok (.iconst (-1), 1) := by decide +kernel
theorem dX2_keep_22 : decode cX2_keep 22 = .ok (.ireturn, 1) := by decide +kernel
theorem dX2_keep_23 : decode cX2_keep 23 = .ok (.iload_n 2, 1) := by decide +kernel
theorem dX2_keep_24 : decode cX2_keep 24 = .ok (.ifCond .ne 11, 3) := by decide +kernel
theorem dX2_keep_27 : decode cX2_keep 27 = .ok (.aload 5, 2) := by decide +kernel
theorem dX2_keep_29 : decode cX2_keep 29 = .ok (.iconst 0, 1) := by decide +kernel
theorem dX2_keep_30 : decode cX2_keep 30 = .ok (.putfield 48, 3) := by decide +kernel
theorem dX2_keep_33 : decode cX2_keep 33 = .ok (.iconst 0, 1) := by decide +kernel
theorem dX2_keep_34 : decode cX2_keep 34 = .ok (.ireturn, 1) := by decide +kernel
theorem dX2_keep_35 : decode cX2_keep 35 = .ok (.iload_n 3, 1) := by decide +kernel
theorem dX2_keep_36 : decode cX2_keep 36 = .ok (.ifCond .lt 21, 3) := by decide +kernel
theorem dX2_keep_39 : decode cX2_keep 39 = .ok (.iload_n 3, 1) := by decide +kernel
theorem dX2_keep_40 : decode cX2_keep 40 = .ok (.bipush 8, 2) := by decide +kernel
theorem dX2_keep_42 : decode cX2_keep 42 = .ok (.if_icmp .ge 15, 3) := by decide +kernel
theorem dX2_keep_45 : decode cX2_keep 45 = .ok (.iload 4, 2) := by decide +kernel
theorem dX2_keep_47 : decode cX2_keep 47 = .ok (.ifCond .lt 10, 3) := by decide +kernel
theorem dX2_keep_50 : decode cX2_keep 50 = .ok (.iload 4, 2) := by decide +kernel
theorem dX2_keep_52 : decode cX2_keep 52 = .ok (.bipush 10, 2) := by decide +kernel
theorem dX2_keep_54 : decode cX2_keep 54 = .ok (.if_icmp .lt 5, 3) := by decide +kernel
theorem dX2_keep_57 : decode cX2_keep 57 = .ok (.iconst (-1), 1) := by decide +kernel
theorem dX2_keep_58 : decode cX2_keep 58 = .ok (.ireturn, 1) := by decide +kernel
theorem dX2_keep_59 : decode cX2_keep 59 = .ok (.aload 5, 2) := by decide +kernel
theorem dX2_keep_61 : decode cX2_keep 61 = .ok (.iconst 1, 1) := by decide +kernel
theorem dX2_keep_62 : decode cX2_keep 62 = .ok (.putfield 48, 3) := by decide +kernel
theorem dX2_keep_65 : decode cX2_keep 65 = .ok (.aload 5, 2) := by decide +kernel
theorem dX2_keep_67 : decode cX2_keep 67 = .ok (.iload_n 3, 1) := by decide +kernel
theorem dX2_keep_68 : decode cX2_keep 68 = .ok (.putfield 100, 3) := by decide +kernel
theorem dX2_keep_71 : decode cX2_keep 71 = .ok (.aload 5, 2) := by decide +kernel
theorem dX2_keep_73 : decode cX2_keep 73 = .ok (.iload 4, 2) := by decide +kernel
theorem dX2_keep_75 : decode cX2_keep 75 = .ok (.putfield 103, 3) := by decide +kernel
theorem dX2_keep_78 : decode cX2_keep 78 = .ok (.iconst 0, 1) := by decide +kernel
theorem dX2_keep_79 : decode cX2_keep 79 = .ok (.ireturn, 1) := by decide +kernel
theorem dX2_row_0 : decode cX2_row 0 = .ok (.aload_n 0, 1) := by decide +kernel
theorem dX2_row_1 : decode cX2_row 1 = .ok (.iload_n 1, 1) := by decide +kernel
theorem dX2_row_2 : decode cX2_row 2 = .ok (.invokevirtual 44, 3) := by decide +kernel
theorem dX2_row_5 : decode cX2_row 5 = .ok (.astore 4, 2) := by decide +kernel
theorem dX2_row_7 : decode cX2_row 7 = .ok (.aload 4, 2) := by decide +kernel
theorem dX2_row_9 : decode cX2_row 9 = .ok (.ifnull 18, 3) := by decide +kernel
theorem dX2_row_12 : decode cX2_row 12 = .ok (.iload_n 2, 1) := by decide +kernel
theorem dX2_row_13 : decode cX2_row 13 = .ok (.ifCond .lt 14, 3) := by decide +kernel
theorem dX2_row_16 : decode cX2_row 16 = .ok (.iload_n 2, 1) := by decide +kernel
theorem dX2_row_17 : decode cX2_row 17 = .ok (.iconst 2, 1) := by decide +kernel
theorem dX2_row_18 : decode cX2_row 18 = .ok (.if_icmp .gt 9, 3) := by decide +kernel
theorem dX2_row_21 : decode cX2_row 21 = .ok (.iload_n 3, 1) := by decide +kernel
theorem dX2_row_22 : decode cX2_row 22 = .ok (.bipush 100, 2) := by decide +kernel
theorem dX2_row_24 : decode cX2_row 24 = .ok (.if_icmp .le 5, 3) := by decide +kernel
theorem dX2_row_27 : decode cX2_row 27 = .ok (.iconst (-1), 1) := by decide +kernel
theorem dX2_row_28 : decode cX2_row 28 = .ok (.ireturn, 1) := by decide +kernel
theorem dX2_row_29 : decode cX2_row 29 = .ok (.iload_n 3, 1) := by decide +kernel
theorem dX2_row_30 : decode cX2_row 30 = .ok (.ifCond .ge 6, 3) := by decide +kernel
theorem dX2_row_33 : decode cX2_row 33 = .ok (.bipush (-14), 2) := by decide +kernel
theorem dX2_row_35 : decode cX2_row 35 = .ok (.ireturn, 1) := by decide +kernel
theorem dX2_row_36 : decode cX2_row 36 = .ok (.aload 4, 2) := by decide +kernel
theorem dX2_row_38 : decode cX2_row 38 = .ok (.iconst 2, 1) := by decide +kernel
theorem dX2_row_39 : decode cX2_row 39 = .ok (.putfield 48, 3) := by decide +kernel
theorem dX2_row_42 : decode cX2_row 42 = .ok (.aload 4, 2) := by decide +kernel
theorem dX2_row_44 : decode cX2_row 44 = .ok (.iload_n 2, 1) := by decide +kernel
theorem dX2_row_45 : decode cX2_row 45 = .ok (.putfield 52, 3) := by decide +kernel
theorem dX2_row_48 : decode cX2_row 48 = .ok (.aload 4, 2) := by decide +kernel
theorem dX2_row_50 : decode cX2_row 50 = .ok (.iload_n 3, 1) := by decide +kernel
theorem dX2_row_51 : decode cX2_row 51 = .ok (.putfield 229, 3) := by decide +kernel
theorem dX2_row_54 : decode cX2_row 54 = .ok (.aload 4, 2) := by decide +kernel
theorem dX2_row_56 : decode cX2_row 56 = .ok (.getfield 232, 3) := by decide +kernel
theorem dX2_row_59 : decode cX2_row 59 = .ok (.iconst 0, 1) := by decide +kernel
theorem dX2_row_60 : decode cX2_row 60 = .ok (.invokestatic 250, 3) := by decide +kernel
theorem dX2_row_63 : decode cX2_row 63 = .ok (.iconst 0, 1) := by decide +kernel
theorem dX2_row_64 : decode cX2_row 64 = .ok (.ireturn, 1) := by decide +kernel
theorem dX2_put_0 : decode cX2_put 0 = .ok (.aload_n 0, 1) := by decide +kernel
theorem dX2_put_1 : decode cX2_put 1 = .ok (.iload_n 1, 1) := by decide +kernel
theorem dX2_put_2 : decode cX2_put 2 = .ok (.invokevirtual 44, 3) := by decide +kernel
theorem dX2_put_5 : decode cX2_put 5 = .ok (.astore 4, 2) := by decide +kernel
theorem dX2_put_7 : decode cX2_put 7 = .ok (.aload 4, 2) := by decide +kernel
theorem dX2_put_9 : decode cX2_put 9 = .ok (.ifnonnull 5, 3) := by decide +kernel
theorem dX2_put_12 : decode cX2_put 12 = .ok (.iconst (-1), 1) := by decide +kernel
theorem dX2_put_13 : decode cX2_put 13 = .ok (.ireturn, 1) := by decide +kernel
theorem dX2_put_14 : decode cX2_put 14 = .ok (.aload 4, 2) := by decide +kernel
theorem dX2_put_16 : decode cX2_put 16 = .ok (.iconst 2, 1) := by decide +kernel
theorem dX2_put_17 : decode cX2_put 17 = .ok (.invokevirtual 97, 3) := by decide +kernel
theorem dX2_put_20 : decode cX2_put 20 = .ok (.istore 5, 2) := by decide +kernel
theorem dX2_put_22 : decode cX2_put 22 = .ok (.iload 5, 2) := by decide +kernel
theorem dX2_put_24 : decode cX2_put 24 = .ok (.ifCond .eq 6, 3) := by decide +kernel
theorem dX2_put_27 : decode cX2_put 27 = .ok (.iload 5, 2) := by decide +kernel
theorem dX2_put_29 : decode cX2_put 29 = .ok (.ireturn, 1) := by decide +kernel
theorem dX2_put_30 : decode cX2_put 30 = .ok (.aload 4, 2) := by decide +kernel
theorem dX2_put_32 : decode cX2_put 32 = .ok (.iload_n 2, 1) := by decide +kernel
theorem dX2_put_33 : decode cX2_put 33 = .ok (.invokevirtual 253, 3) := by decide +kernel
theorem dX2_put_36 : decode cX2_put 36 = .ok (.ifCond .ne 6, 3) := by decide +kernel
theorem dX2_put_39 : decode cX2_put 39 = .ok (.bipush (-13), 2) := by decide +kernel
theorem dX2_put_41 : decode cX2_put 41 = .ok (.ireturn, 1) := by decide +kernel
theorem dX2_put_42 : decode cX2_put 42 = .ok (.aload 4, 2) := by decide +kernel
theorem dX2_put_44 : decode cX2_put 44 = .ok (.getfield 232, 3) := by decide +kernel
theorem dX2_put_47 : decode cX2_put 47 = .ok (.iload_n 2, 1) := by decide +kernel
theorem dX2_put_48 : decode cX2_put 48 = .ok (.aload 4, 2) := by decide +kernel
theorem dX2_put_50 : decode cX2_put 50 = .ok (.getfield 52, 3) := by decide +kernel
theorem dX2_put_53 : decode cX2_put 53 = .ok (.iload_n 3, 1) := by decide +kernel
theorem dX2_put_54 : decode cX2_put 54 = .ok (.invokestatic 256, 3) := by decide +kernel
theorem dX2_put_57 : decode cX2_put 57 = .ok (.iastore, 1) := by decide +kernel
theorem dX2_put_58 : decode cX2_put 58 = .ok (.iconst 0, 1) := by decide +kernel
theorem dX2_put_59 : decode cX2_put 59 = .ok (.ireturn, 1) := by decide +kernel
theorem dX2_element_0 : decode cX2_element 0 = .ok (.aload_n 0, 1) := by decide +kernel
theorem dX2_element_1 : decode cX2_element 1 = .ok (.iload_n 1, 1) := by decide +kernel
theorem dX2_element_2 : decode cX2_element 2 = .ok (.invokevirtual 44, 3) := by decide +kernel
theorem dX2_element_5 : decode cX2_element 5 = .ok (.astore_n 3, 1) := by decide +kernel
theorem dX2_element_6 : decode cX2_element 6 = .ok (.aload_n 3, 1) := by decide +kernel
theorem dX2_element_7 : decode cX2_element 7 = .ok (.ifnonnull 14, 3) := by decide +kernel
theorem dX2_element_10 : decode cX2_element 10 = .ok (.new 259, 3) := by decide +kernel
theorem dX2_element_13 : decode cX2_element 13 = .ok (.dup, 1) := by decide +kernel
theorem dX2_element_14 : decode cX2_element 14 = .ok (.ldc_w 261, 3) := by decide +kernel
theorem dX2_element_17 : decode cX2_element 17 = .ok (.invokespecial 263, 3) := by decide +kernel
theorem dX2_element_20 : decode cX2_element 20 = .ok (.athrow, 1) := by decide +kernel
theorem dX2_element_21 : decode cX2_element 21 = .ok (.aload_n 3, 1) := by decide +kernel
theorem dX2_element_22 : decode cX2_element 22 = .ok (.getfield 48, 3) := by decide +kernel
theorem dX2_element_25 : decode cX2_element 25 = .ok (.iconst 2, 1) := by decide +kernel
theorem dX2_element_26 : decode cX2_element 26 = .ok (.if_icmp .eq 14, 3) := by decide +kernel
theorem dX2_element_29 : decode cX2_element 29 = .ok (.new 266, 3) := by decide +kernel
theorem dX2_element_32 : decode cX2_element 32 = .ok (.dup, 1) := by decide +kernel
theorem dX2_element_33 : decode cX2_element 33 = .ok (.ldc_w 268, 3) := by decide +kernel
theorem dX2_element_36 : decode cX2_element 36 = .ok (.invokespecial 270, 3) := by decide +kernel
theorem dX2_element_39 : decode cX2_element 39 = .ok (.athrow, 1) := by decide +kernel
theorem dX2_element_40 : decode cX2_element 40 = .ok (.aload_n 3, 1) := by decide +kernel
theorem dX2_element_41 : decode cX2_element 41 = .ok (.iload_n 2, 1) := by decide +kernel
theorem dX2_element_42 : decode cX2_element 42 = .ok (.invokevirtual 253, 3) := by decide +kernel
theorem dX2_element_45 : decode cX2_element 45 = .ok (.ifCond .ne 14, 3) := by decide +kernel
theorem dX2_element_48 : decode cX2_element 48 = .ok (.new 266, 3) := by decide +kernel
theorem dX2_element_51 : decode cX2_element 51 = .ok (.dup, 1) := by decide +kernel
theorem dX2_element_52 : decode cX2_element 52 = .ok (.ldc_w 271, 3) := by decide +kernel
theorem dX2_element_55 : decode cX2_element 55 = .ok (.invokespecial 270, 3) := by decide +kernel
theorem dX2_element_58 : decode cX2_element 58 = .ok (.athrow, 1) := by decide +kernel
theorem dX2_element_59 : decode cX2_element 59 = .ok (.aload_n 3, 1) := by decide +kernel
theorem dX2_element_60 : decode cX2_element 60 = .ok (.getfield 232, 3) := by decide +kernel
theorem dX2_element_63 : decode cX2_element 63 = .ok (.iload_n 2, 1) := by decide +kernel
theorem dX2_element_64 : decode cX2_element 64 = .ok (.iaload, 1) := by decide +kernel
theorem dX2_element_65 : decode cX2_element 65 = .ok (.i2l, 1) := by decide +kernel
theorem dX2_element_66 : decode cX2_element 66 = .ok (.lreturn, 1) := by decide +kernel
theorem dX2_copy_0 : decode cX2_copy 0 = .ok (.aload_n 0, 1) := by decide +kernel
theorem dX2_copy_1 : decode cX2_copy 1 = .ok (.iload_n 1, 1) := by decide +kernel
theorem dX2_copy_2 : decode cX2_copy 2 = .ok (.invokevirtual 44, 3) := by decide +kernel
theorem dX2_copy_5 : decode cX2_copy 5 = .ok (.astore 6, 2) := by decide +kernel
theorem dX2_copy_7 : decode cX2_copy 7 = .ok (.aload_n 0, 1) := by decide +kernel
theorem dX2_copy_8 : decode cX2_copy 8 = .ok (.iload_n 3, 1) := by decide +kernel
theorem dX2_copy_9 : decode cX2_copy 9 = .ok (.invokevirtual 44, 3) := by decide +kernel
theorem dX2_copy_12 : decode cX2_copy 12 = .ok (.astore 7, 2) := by decide +kernel
theorem dX2_copy_14 : decode cX2_copy 14 = .ok (.aload 6, 2) := by decide +kernel
theorem dX2_copy_16 : decode cX2_copy 16 = .ok (.ifnull 8, 3) := by decide +kernel
theorem dX2_copy_19 : decode cX2_copy 19 = .ok (.aload 7, 2) := by decide +kernel
theorem dX2_copy_21 : decode cX2_copy 21 = .ok (.ifnonnull 5, 3) := by decide +kernel
theorem dX2_copy_24 : decode cX2_copy 24 = .ok (.iconst (-1), 1) := by decide +kernel
theorem dX2_copy_25 : decode cX2_copy 25 = .ok (.ireturn, 1) := by decide +kernel
theorem dX2_copy_26 : decode cX2_copy 26 = .ok (.aload 6, 2) := by decide +kernel
theorem dX2_copy_28 : decode cX2_copy 28 = .ok (.getfield 48, 3) := by decide +kernel
theorem dX2_copy_31 : decode cX2_copy 31 = .ok (.ifCond .eq 11, 3) := by decide +kernel
theorem dX2_copy_34 : decode cX2_copy 34 = .ok (.aload 7, 2) := by decide +kernel
theorem dX2_copy_36 : decode cX2_copy 36 = .ok (.getfield 48, 3) := by decide +kernel
theorem dX2_copy_39 : decode cX2_copy 39 = .ok (.ifCond .ne 6, 3) := by decide +kernel
theorem dX2_copy_42 : decode cX2_copy 42 = .ok (.bipush (-11), 2) := by decide +kernel
theorem dX2_copy_44 : decode cX2_copy 44 = .ok (.ireturn, 1) := by decide +kernel
theorem dX2_copy_45 : decode cX2_copy 45 = .ok (.aload 6, 2) := by decide +kernel
theorem dX2_copy_47 : decode cX2_copy 47 = .ok (.getfield 48, 3) := by decide +kernel
theorem dX2_copy_50 : decode cX2_copy 50 = .ok (.iconst 2, 1) := by decide +kernel
theorem dX2_copy_51 : decode cX2_copy 51 = .ok (.if_icmp .ne 25, 3) := by decide +kernel
theorem dX2_copy_54 : decode cX2_copy 54 = .ok (.aload 7, 2) := by decide +kernel
theorem dX2_copy_56 : decode cX2_copy 56 = .ok (.getfield 48, 3) := by decide +kernel
theorem dX2_copy_59 : decode cX2_copy 59 = .ok (.iconst 2, 1) := by decide +kernel
theorem dX2_copy_60 : decode cX2_copy 60 = .ok (.if_icmp .ne 16, 3) := by decide +kernel
theorem dX2_copy_63 : decode cX2_copy 63 = .ok (.aload 6, 2) := by decide +kernel
theorem dX2_copy_65 : decode cX2_copy 65 = .ok (.getfield 52, 3) := by decide +kernel
theorem dX2_copy_68 : decode cX2_copy 68 = .ok (.aload 7, 2) := by decide +kernel
theorem dX2_copy_70 : decode cX2_copy 70 = .ok (.getfield 52, 3) := by decide +kernel
theorem dX2_copy_73 : decode cX2_copy 73 = .ok (.if_icmp .eq 6, 3) := by decide +kernel
theorem dX2_copy_76 : decode cX2_copy 76 = .ok (.bipush (-12), 2) := by decide +kernel
theorem dX2_copy_78 : decode cX2_copy 78 = .ok (.ireturn, 1) := by decide +kernel
theorem dX2_copy_79 : decode cX2_copy 79 = .ok (.aload 6, 2) := by decide +kernel
theorem dX2_copy_81 : decode cX2_copy 81 = .ok (.iload_n 2, 1) := by decide +kernel
theorem dX2_copy_82 : decode cX2_copy 82 = .ok (.iload 5, 2) := by decide +kernel
theorem dX2_copy_84 : decode cX2_copy 84 = .ok (.invokevirtual 273, 3) := by decide +kernel
theorem dX2_copy_87 : decode cX2_copy 87 = .ok (.ifCond .eq 15, 3) := by decide +kernel
theorem dX2_copy_90 : decode cX2_copy 90 = .ok (.aload 7, 2) := by decide +kernel
theorem dX2_copy_92 : decode cX2_copy 92 = .ok (.iload 4, 2) := by decide +kernel
theorem dX2_copy_94 : decode cX2_copy 94 = .ok (.iload 5, 2) := by decide +kernel
theorem dX2_copy_96 : decode cX2_copy 96 = .ok (.invokevirtual 273, 3) := by decide +kernel
theorem dX2_copy_99 : decode cX2_copy 99 = .ok (.ifCond .ne 6, 3) := by decide +kernel
theorem dX2_copy_102 : decode cX2_copy 102 = .ok (.bipush (-13), 2) := by decide +kernel
theorem dX2_copy_104 : decode cX2_copy 104 = .ok (.ireturn, 1) := by decide +kernel
theorem dX2_copy_105 : decode cX2_copy 105 = .ok (.aload 6, 2) := by decide +kernel
theorem dX2_copy_107 : decode cX2_copy 107 = .ok (.getfield 232, 3) := by decide +kernel
theorem dX2_copy_110 : decode cX2_copy 110 = .ok (.iload_n 2, 1) := by decide +kernel
theorem dX2_copy_111 : decode cX2_copy 111 = .ok (.aload 7, 2) := by decide +kernel
theorem dX2_copy_113 : decode cX2_copy 113 = .ok (.getfield 232, 3) := by decide +kernel
theorem dX2_copy_116 : decode cX2_copy 116 = .ok (.iload 4, 2) := by decide +kernel
theorem dX2_copy_118 : decode cX2_copy 118 = .ok (.iload 5, 2) := by decide +kernel
theorem dX2_copy_120 : decode cX2_copy 120 = .ok (.invokestatic 276, 3) := by decide +kernel
theorem dX2_copy_123 : decode cX2_copy 123 = .ok (.iload 5, 2) := by decide +kernel
theorem dX2_copy_125 : decode cX2_copy 125 = .ok (.ireturn, 1) := by decide +kernel
theorem dX2_cost_0 : decode cX2_cost 0 = .ok (.aload_n 0, 1) := by decide +kernel
theorem dX2_cost_1 : decode cX2_cost 1 = .ok (.iload_n 1, 1) := by decide +kernel
theorem dX2_cost_2 : decode cX2_cost 2 = .ok (.invokevirtual 44, 3) := by decide +kernel
theorem dX2_cost_5 : decode cX2_cost 5 = .ok (.astore_n 2, 1) := by decide +kernel
theorem dX2_cost_6 : decode cX2_cost 6 = .ok (.aload_n 2, 1) := by decide +kernel
theorem dX2_cost_7 : decode cX2_cost 7 = .ok (.ifnonnull 5, 3) := by decide +kernel
theorem dX2_cost_10 : decode cX2_cost 10 = .ok (.iconst (-1), 1) := by decide +kernel
theorem dX2_cost_11 : decode cX2_cost 11 = .ok (.ireturn, 1) := by decide +kernel
theorem dX2_cost_12 : decode cX2_cost 12 = .ok (.aload_n 2, 1) := by decide +kernel
theorem dX2_cost_13 : decode cX2_cost 13 = .ok (.iconst 1, 1) := by decide +kernel
theorem dX2_cost_14 : decode cX2_cost 14 = .ok (.invokevirtual 97, 3) := by decide +kernel
theorem dX2_cost_17 : decode cX2_cost 17 = .ok (.istore_n 3, 1) := by decide +kernel
theorem dX2_cost_18 : decode cX2_cost 18 = .ok (.iload_n 3, 1) := by decide +kernel
theorem dX2_cost_19 : decode cX2_cost 19 = .ok (.ifCond .eq 7, 3) := by decide +kernel
theorem dX2_cost_22 : decode cX2_cost 22 = .ok (.iload_n 3, 1) := by decide +kernel
theorem dX2_cost_23 : decode cX2_cost 23 = .ok (.goto 14, 3) := by decide +kernel
theorem dX2_cost_26 : decode cX2_cost 26 = .ok (.aload_n 2, 1) := by decide +kernel
theorem dX2_cost_27 : decode cX2_cost 27 = .ok (.getfield 100, 3) := by decide +kernel
theorem dX2_cost_30 : decode cX2_cost 30 = .ok (.aload_n 2, 1) := by decide +kernel
theorem dX2_cost_31 : decode cX2_cost 31 = .ok (.getfield 103, 3) := by decide +kernel
theorem dX2_cost_34 : decode cX2_cost 34 = .ok (.invokestatic 282, 3) := by decide +kernel
theorem dX2_cost_37 : decode cX2_cost 37 = .ok (.ireturn, 1) := by decide +kernel
theorem dX2_toss_0 : decode cX2_toss 0 = .ok (.aload_n 0, 1) := by decide +kernel
theorem dX2_toss_1 : decode cX2_toss 1 = .ok (.iload_n 1, 1) := by decide +kernel
theorem dX2_toss_2 : decode cX2_toss 2 = .ok (.invokevirtual 44, 3) := by decide +kernel
theorem dX2_toss_5 : decode cX2_toss 5 = .ok (.astore_n 2, 1) := by decide +kernel
theorem dX2_toss_6 : decode cX2_toss 6 = .ok (.aload_n 2, 1) := by decide +kernel
theorem dX2_toss_7 : decode cX2_toss 7 = .ok (.ifnonnull 5, 3) := by decide +kernel
theorem dX2_toss_10 : decode cX2_toss 10 = .ok (.iconst (-1), 1) := by decide +kernel
theorem dX2_toss_11 : decode cX2_toss 11 = .ok (.ireturn, 1) := by decide +kernel
theorem dX2_toss_12 : decode cX2_toss 12 = .ok (.aload_n 2, 1) := by decide +kernel
theorem dX2_toss_13 : decode cX2_toss 13 = .ok (.iconst 1, 1) := by decide +kernel
theorem dX2_toss_14 : decode cX2_toss 14 = .ok (.invokevirtual 97, 3) := by decide +kernel
theorem dX2_toss_17 : decode cX2_toss 17 = .ok (.istore_n 3, 1) := by decide +kernel
theorem dX2_toss_18 : decode cX2_toss 18 = .ok (.iload_n 3, 1) := by decide +kernel
theorem dX2_toss_19 : decode cX2_toss 19 = .ok (.ifCond .eq 5, 3) := by decide +kernel
theorem dX2_toss_22 : decode cX2_toss 22 = .ok (.iload_n 3, 1) := by decide +kernel
theorem dX2_toss_23 : decode cX2_toss 23 = .ok (.ireturn, 1) := by decide +kernel
theorem dX2_toss_24 : decode cX2_toss 24 = .ok (.aload_n 2, 1) := by decide +kernel
theorem dX2_toss_25 : decode cX2_toss 25 = .ok (.getfield 100, 3) := by decide +kernel
theorem dX2_toss_28 : decode cX2_toss 28 = .ok (.aload_n 2, 1) := by decide +kernel
theorem dX2_toss_29 : decode cX2_toss 29 = .ok (.getfield 103, 3) := by decide +kernel
theorem dX2_toss_32 : decode cX2_toss 32 = .ok (.invokestatic 285, 3) := by decide +kernel
theorem dX2_toss_35 : decode cX2_toss 35 = .ok (.goto 38, 3) := by decide +kernel
theorem dX2_toss_38 : decode cX2_toss 38 = .ok (.astore 4, 2) := by decide +kernel
theorem dX2_toss_40 : decode cX2_toss 40 = .ok (.sipush 200, 3) := by decide +kernel
theorem dX2_toss_43 : decode cX2_toss 43 = .ok (.aload_n 2, 1) := by decide +kernel
theorem dX2_toss_44 : decode cX2_toss 44 = .ok (.getfield 100, 3) := by decide +kernel
theorem dX2_toss_47 : decode cX2_toss 47 = .ok (.aload_n 2, 1) := by decide +kernel
theorem dX2_toss_48 : decode cX2_toss 48 = .ok (.getfield 103, 3) := by decide +kernel
theorem dX2_toss_51 : decode cX2_toss 51 = .ok (.invokestatic 282, 3) := by decide +kernel
theorem dX2_toss_54 : decode cX2_toss 54 = .ok (.iadd, 1) := by decide +kernel
theorem dX2_toss_55 : decode cX2_toss 55 = .ok (.ireturn, 1) := by decide +kernel
theorem dX2_toss_56 : decode cX2_toss 56 = .ok (.astore 4, 2) := by decide +kernel
theorem dX2_toss_58 : decode cX2_toss 58 = .ok (.bipush 100, 2) := by decide +kernel
theorem dX2_toss_60 : decode cX2_toss 60 = .ok (.aload_n 2, 1) := by decide +kernel
theorem dX2_toss_61 : decode cX2_toss 61 = .ok (.getfield 103, 3) := by decide +kernel
theorem dX2_toss_64 : decode cX2_toss 64 = .ok (.iadd, 1) := by decide +kernel
theorem dX2_toss_65 : decode cX2_toss 65 = .ok (.ireturn, 1) := by decide +kernel
theorem dX2_toss_66 : decode cX2_toss 66 = .ok (.astore 4, 2) := by decide +kernel
theorem dX2_toss_68 : decode cX2_toss 68 = .ok (.aload_n 2, 1) := by decide +kernel
theorem dX2_toss_69 : decode cX2_toss 69 = .ok (.getfield 103, 3) := by decide +kernel
theorem dX2_toss_72 : decode cX2_toss 72 = .ok (.ireturn, 1) := by decide +kernel
theorem dX2_toss_73 : decode cX2_toss 73 = .ok (.bipush (-15), 2) := by decide +kernel
theorem dX2_toss_75 : decode cX2_toss 75 = .ok (.ireturn, 1) := by decide +kernel
theorem dX2_shelfAt_0 : decode cX2_shelfAt 0 = .ok (.iload_n 1, 1) := by decide +kernel
theorem dX2_shelfAt_1 : decode cX2_shelfAt 1 = .ok (.ifCond .lt 21, 3) := by decide +kernel
theorem dX2_shelfAt_4 : decode cX2_shelfAt 4 = .ok (.iload_n 1, 1) := by decide +kernel
theorem dX2_shelfAt_5 : decode cX2_shelfAt 5 = .ok (.aload_n 0, 1) := by decide +kernel
theorem dX2_shelfAt_6 : decode cX2_shelfAt 6 = .ok (.getfield 28, 3) := by decide +kernel
theorem dX2_shelfAt_9 : decode cX2_shelfAt 9 = .ok (.arraylength, 1) := by decide +kernel
theorem dX2_shelfAt_10 : decode cX2_shelfAt 10 = .ok (.if_icmp .ge 12, 3) := by decide +kernel
theorem dX2_shelfAt_13 : decode cX2_shelfAt 13 = .ok (.aload_n 0, 1) := by decide +kernel
theorem dX2_shelfAt_14 : decode cX2_shelfAt 14 = .ok (.getfield 28, 3) := by decide +kernel
theorem dX2_shelfAt_17 : decode cX2_shelfAt 17 = .ok (.iload_n 1, 1) := by decide +kernel
theorem dX2_shelfAt_18 : decode cX2_shelfAt 18 = .ok (.aaload, 1) := by decide +kernel
theorem dX2_shelfAt_19 : decode cX2_shelfAt 19 = .ok (.goto 4, 3) := by decide +kernel
theorem dX2_shelfAt_22 : decode cX2_shelfAt 22 = .ok (.aconst_null, 1) := by decide +kernel
theorem dX2_shelfAt_23 : decode cX2_shelfAt 23 = .ok (.areturn, 1) := by decide +kernel
theorem dX2_isMindRounds_0 : decode cX2_isMindRounds 0 = .ok (.iload_n 0, 1) := by decide +kernel
theorem dX2_isMindRounds_1 : decode cX2_isMindRounds 1 = .ok (.ifCond .lt 13, 3) := by decide +kernel
theorem dX2_isMindRounds_4 : decode cX2_isMindRounds 4 = .ok (.iload_n 0, 1) := by decide +kernel
theorem dX2_isMindRounds_5 : decode cX2_isMindRounds 5 = .ok (.bipush 60, 2) := by decide +kernel
theorem dX2_isMindRounds_7 : decode cX2_isMindRounds 7 = .ok (.if_icmp .gt 7, 3) := by decide +kernel
theorem dX2_isMindRounds_10 : decode cX2_isMindRounds 10 = .ok (.iconst 1, 1) := by decide +kernel
theorem dX2_isMindRounds_11 : decode cX2_isMindRounds 11 = .ok (.goto 4, 3) := by decide +kernel
theorem dX2_isMindRounds_14 : decode cX2_isMindRounds 14 = .ok (.iconst 0, 1) := by decide +kernel
theorem dX2_isMindRounds_15 : decode cX2_isMindRounds 15 = .ok (.ireturn, 1) := by decide +kernel
theorem dX2_hasOneBehind_0 : decode cX2_hasOneBehind 0 = .ok (.aload_n 0, 1) := by decide +kernel
theorem dX2_hasOneBehind_1 : decode cX2_hasOneBehind 1 = .ok (.getfield 12, 3) := by decide +kernel
theorem dX2_hasOneBehind_4 : decode cX2_hasOneBehind 4 = .ok (.iload_n 1, 1) := by decide +kernel
theorem dX2_hasOneBehind_5 : decode cX2_hasOneBehind 5 = .ok (.invokevirtual 67, 3) := by decide +kernel
theorem dX2_hasOneBehind_8 : decode cX2_hasOneBehind 8 = .ok (.ifCond .eq 20, 3) := by decide +kernel
theorem dX2_hasOneBehind_11 : decode cX2_hasOneBehind 11 = .ok (.aload_n 0, 1) := by decide +kernel
theorem dX2_hasOneBehind_12 : decode cX2_hasOneBehind 12 = .ok (.getfield 12, 3) := by decide +kernel
theorem dX2_hasOneBehind_15 : decode cX2_hasOneBehind 15 = .ok (.iload_n 1, 1) := by decide +kernel
theorem dX2_hasOneBehind_16 : decode cX2_hasOneBehind 16 = .ok (.iconst 1, 1) := by decide +kernel
theorem dX2_hasOneBehind_17 : decode cX2_hasOneBehind 17 = .ok (.iadd, 1) := by decide +kernel
theorem dX2_hasOneBehind_18 : decode cX2_hasOneBehind 18 = .ok (.invokevirtual 67, 3) := by decide +kernel
theorem dX2_hasOneBehind_21 : decode cX2_hasOneBehind 21 = .ok (.ifCond .eq 7, 3) := by decide +kernel
theorem dX2_hasOneBehind_24 : decode cX2_hasOneBehind 24 = .ok (.iconst 1, 1) := by decide +kernel
theorem dX2_hasOneBehind_25 : decode cX2_hasOneBehind 25 = .ok (.goto 4, 3) := by decide +kernel
theorem dX2_hasOneBehind_28 : decode cX2_hasOneBehind 28 = .ok (.iconst 0, 1) := by decide +kernel
theorem dX2_hasOneBehind_29 : decode cX2_hasOneBehind 29 = .ok (.ireturn, 1) := by decide +kernel
theorem dX2_thinkOn_0 : decode cX2_thinkOn 0 = .ok (.aload_n 0, 1) := by decide +kernel
theorem dX2_thinkOn_1 : decode cX2_thinkOn 1 = .ok (.getfield 16, 3) := by decide +kernel
theorem dX2_thinkOn_4 : decode cX2_thinkOn 4 = .ok (.aload_n 0, 1) := by decide +kernel
theorem dX2_thinkOn_5 : decode cX2_thinkOn 5 = .ok (.getfield 12, 3) := by decide +kernel
theorem dX2_thinkOn_8 : decode cX2_thinkOn 8 = .ok (.invokevirtual 59, 3) := by decide +kernel
theorem dX2_thinkOn_11 : decode cX2_thinkOn 11 = .ok (.aload_n 0, 1) := by decide +kernel
theorem dX2_thinkOn_12 : decode cX2_thinkOn 12 = .ok (.getfield 16, 3) := by decide +kernel
theorem dX2_thinkOn_15 : decode cX2_thinkOn 15 = .ok (.iload_n 1, 1) := by decide +kernel
theorem dX2_thinkOn_16 : decode cX2_thinkOn 16 = .ok (.invokevirtual 142, 3) := by decide +kernel
theorem dX2_thinkOn_19 : decode cX2_thinkOn 19 = .ok (.pop, 1) := by decide +kernel
theorem dX2_thinkOn_20 : decode cX2_thinkOn 20 = .ok (.return_, 1) := by decide +kernel
theorem dX2_thinkOnBlocked_0 : decode cX2_thinkOnBlocked 0 = .ok (.aload_n 0, 1) := by decide +kernel
theorem dX2_thinkOnBlocked_1 : decode cX2_thinkOnBlocked 1 = .ok (.getfield 16, 3) := by decide +kernel
theorem dX2_thinkOnBlocked_4 : decode cX2_thinkOnBlocked 4 = .ok (.aload_n 0, 1) := by decide +kernel
theorem dX2_thinkOnBlocked_5 : decode cX2_thinkOnBlocked 5 = .ok (.getfield 12, 3) := by decide +kernel
theorem dX2_thinkOnBlocked_8 : decode cX2_thinkOnBlocked 8 = .ok (.invokevirtual 59, 3) := by decide +kernel
theorem dX2_thinkOnBlocked_11 : decode cX2_thinkOnBlocked 11 = .ok (.aload_n 0, 1) := by decide +kernel
theorem dX2_thinkOnBlocked_12 : decode cX2_thinkOnBlocked 12 = .ok (.getfield 16, 3) := by decide +kernel
theorem dX2_thinkOnBlocked_15 : decode cX2_thinkOnBlocked 15 = .ok (.iload_n 1, 1) := by decide +kernel
theorem dX2_thinkOnBlocked_16 : decode cX2_thinkOnBlocked 16 = .ok (.invokevirtual 290, 3) := by decide +kernel
theorem dX2_thinkOnBlocked_19 : decode cX2_thinkOnBlocked 19 = .ok (.aload_n 0, 1) := by decide +kernel
theorem dX2_thinkOnBlocked_20 : decode cX2_thinkOnBlocked 20 = .ok (.getfield 16, 3) := by decide +kernel
theorem dX2_thinkOnBlocked_23 : decode cX2_thinkOnBlocked 23 = .ok (.iload_n 2, 1) := by decide +kernel
theorem dX2_thinkOnBlocked_24 : decode cX2_thinkOnBlocked 24 = .ok (.invokevirtual 142, 3) := by decide +kernel
theorem dX2_thinkOnBlocked_27 : decode cX2_thinkOnBlocked 27 = .ok (.pop, 1) := by decide +kernel
theorem dX2_thinkOnBlocked_28 : decode cX2_thinkOnBlocked 28 = .ok (.return_, 1) := by decide +kernel
theorem dX2_firstWrongByte_0 : decode cX2_firstWrongByte 0 = .ok (.aload_n 0, 1) := by decide +kernel
theorem dX2_firstWrongByte_1 : decode cX2_firstWrongByte 1 = .ok (.getfield 229, 3) := by decide +kernel
theorem dX2_firstWrongByte_4 : decode cX2_firstWrongByte 4 = .ok (.ifCond .ne 5, 3) := by decide +kernel
theorem dX2_firstWrongByte_7 : decode cX2_firstWrongByte 7 = .ok (.iconst 0, 1) := by decide +kernel
theorem dX2_firstWrongByte_8 : decode cX2_firstWrongByte 8 = .ok (.ireturn, 1) := by decide +kernel
theorem dX2_firstWrongByte_9 : decode cX2_firstWrongByte 9 = .ok (.iconst 0, 1) := by decide +kernel
theorem dX2_firstWrongByte_10 : decode cX2_firstWrongByte 10 = .ok (.istore_n 1, 1) := by decide +kernel
theorem dX2_firstWrongByte_11 : decode cX2_firstWrongByte 11 = .ok (.iload_n 1, 1) := by decide +kernel
theorem dX2_firstWrongByte_12 : decode cX2_firstWrongByte 12 = .ok (.aload_n 0, 1) := by decide +kernel
theorem dX2_firstWrongByte_13 : decode cX2_firstWrongByte 13 = .ok (.getfield 229, 3) := by decide +kernel
theorem dX2_firstWrongByte_16 : decode cX2_firstWrongByte 16 = .ok (.if_icmp .ge 78, 3) := by decide +kernel
theorem dX2_firstWrongByte_19 : decode cX2_firstWrongByte 19 = .ok (.aload_n 0, 1) := by decide +kernel
theorem dX2_firstWrongByte_20 : decode cX2_firstWrongByte 20 = .ok (.iload_n 1, 1) := by decide +kernel
theorem dX2_firstWrongByte_21 : decode cX2_firstWrongByte 21 = .ok (.invokevirtual 293, 3) := by decide +kernel
theorem dX2_firstWrongByte_24 : decode cX2_firstWrongByte 24 = .ok (.invokestatic 296, 3) := by decide +kernel
theorem dX2_firstWrongByte_27 : decode cX2_firstWrongByte 27 = .ok (.istore_n 2, 1) := by decide +kernel
theorem dX2_firstWrongByte_28 : decode cX2_firstWrongByte 28 = .ok (.iload_n 2, 1) := by decide +kernel
theorem dX2_firstWrongByte_29 : decode cX2_firstWrongByte 29 = .ok (.ifCond .ge 5, 3) := by decide +kernel
theorem dX2_firstWrongByte_32 : decode cX2_firstWrongByte 32 = .ok (.iload_n 1, 1) := by decide +kernel
theorem dX2_firstWrongByte_33 : decode cX2_firstWrongByte 33 = .ok (.ireturn, 1) := by decide +kernel
theorem dX2_firstWrongByte_34 : decode cX2_firstWrongByte 34 = .ok (.iload_n 1, 1) := by decide +kernel
theorem dX2_firstWrongByte_35 : decode cX2_firstWrongByte 35 = .ok (.iconst 1, 1) := by decide +kernel
theorem dX2_firstWrongByte_36 : decode cX2_firstWrongByte 36 = .ok (.iadd, 1) := by decide +kernel
theorem dX2_firstWrongByte_37 : decode cX2_firstWrongByte 37 = .ok (.iload_n 2, 1) := by decide +kernel
theorem dX2_firstWrongByte_38 : decode cX2_firstWrongByte 38 = .ok (.iadd, 1) := by decide +kernel
theorem dX2_firstWrongByte_39 : decode cX2_firstWrongByte 39 = .ok (.istore_n 3, 1) := by decide +kernel
theorem dX2_firstWrongByte_40 : decode cX2_firstWrongByte 40 = .ok (.iinc 1 1, 3) := by decide +kernel
theorem dX2_firstWrongByte_43 : decode cX2_firstWrongByte 43 = .ok (.iload_n 1, 1) := by decide +kernel
theorem dX2_firstWrongByte_44 : decode cX2_firstWrongByte 44 = .ok (.iload_n 3, 1) := by decide +kernel
theorem dX2_firstWrongByte_45 : decode cX2_firstWrongByte 45 = .ok (.if_icmp .ge 31, 3) := by decide +kernel
theorem dX2_firstWrongByte_48 : decode cX2_firstWrongByte 48 = .ok (.aload_n 0, 1) := by decide +kernel
theorem dX2_firstWrongByte_49 : decode cX2_firstWrongByte 49 = .ok (.iload_n 1, 1) := by decide +kernel
theorem dX2_firstWrongByte_50 : decode cX2_firstWrongByte 50 = .ok (.invokevirtual 293, 3) := by decide +kernel
theorem dX2_firstWrongByte_53 : decode cX2_firstWrongByte 53 = .ok (.bipush 48, 2) := by decide +kernel
theorem dX2_firstWrongByte_55 : decode cX2_firstWrongByte 55 = .ok (.if_icmp .lt 13, 3) := by decide +kernel
theorem dX2_firstWrongByte_58 : decode cX2_firstWrongByte 58 = .ok (.aload_n 0, 1) := by decide +kernel
theorem dX2_firstWrongByte_59 : decode cX2_firstWrongByte 59 = .ok (.iload_n 1, 1) := by decide +kernel
theorem dX2_firstWrongByte_60 : decode cX2_firstWrongByte 60 = .ok (.invokevirtual 293, 3) := by decide +kernel
theorem dX2_firstWrongByte_63 : decode cX2_firstWrongByte 63 = .ok (.bipush 57, 2) := by decide +kernel
theorem dX2_firstWrongByte_65 : decode cX2_firstWrongByte 65 = .ok (.if_icmp .le 5, 3) := by decide +kernel
theorem dX2_firstWrongByte_68 : decode cX2_firstWrongByte 68 = .ok (.iload_n 1, 1) := by decide +kernel
theorem dX2_firstWrongByte_69 : decode cX2_firstWrongByte 69 = .ok (.ireturn, 1) := by decide +kernel
theorem dX2_firstWrongByte_70 : decode cX2_firstWrongByte 70 = .ok (.iinc 1 1, 3) := by decide +kernel
theorem dX2_firstWrongByte_73 : decode cX2_firstWrongByte 73 = .ok (.goto (-30), 3) := by decide +kernel
theorem dX2_firstWrongByte_76 : decode cX2_firstWrongByte 76 = .ok (.aload_n 0, 1) := by decide +kernel
theorem dX2_firstWrongByte_77 : decode cX2_firstWrongByte 77 = .ok (.iload_n 1, 1) := by decide +kernel
theorem dX2_firstWrongByte_78 : decode cX2_firstWrongByte 78 = .ok (.invokevirtual 293, 3) := by decide +kernel
theorem dX2_firstWrongByte_81 : decode cX2_firstWrongByte 81 = .ok (.bipush 59, 2) := by decide +kernel
theorem dX2_firstWrongByte_83 : decode cX2_firstWrongByte 83 = .ok (.if_icmp .eq 5, 3) := by decide +kernel
theorem dX2_firstWrongByte_86 : decode cX2_firstWrongByte 86 = .ok (.iload_n 1, 1) := by decide +kernel
theorem dX2_firstWrongByte_87 : decode cX2_firstWrongByte 87 = .ok (.ireturn, 1) := by decide +kernel
theorem dX2_firstWrongByte_88 : decode cX2_firstWrongByte 88 = .ok (.iinc 1 1, 3) := by decide +kernel
theorem dX2_firstWrongByte_91 : decode cX2_firstWrongByte 91 = .ok (.goto (-80), 3) := by decide +kernel
theorem dX2_firstWrongByte_94 : decode cX2_firstWrongByte 94 = .ok (.iconst (-1), 1) := by decide +kernel
theorem dX2_firstWrongByte_95 : decode cX2_firstWrongByte 95 = .ok (.ireturn, 1) := by decide +kernel
theorem dX2_digitsBehind_0 : decode cX2_digitsBehind 0 = .ok (.iload_n 0, 1) := by decide +kernel
theorem dX2_digitsBehind_1 : decode cX2_digitsBehind 1 = .ok (.lookupswitch 65 #[(98, 59), (104, 61), (112, 61), (114, 61), (116, 63), (120, 61)], 59) := by decide +kernel
theorem dX2_digitsBehind_60 : decode cX2_digitsBehind 60 = .ok (.iconst 1, 1) := by decide +kernel
theorem dX2_digitsBehind_61 : decode cX2_digitsBehind 61 = .ok (.ireturn, 1) := by decide +kernel
theorem dX2_digitsBehind_62 : decode cX2_digitsBehind 62 = .ok (.iconst 2, 1) := by decide +kernel
theorem dX2_digitsBehind_63 : decode cX2_digitsBehind 63 = .ok (.ireturn, 1) := by decide +kernel
theorem dX2_digitsBehind_64 : decode cX2_digitsBehind 64 = .ok (.iconst 3, 1) := by decide +kernel
theorem dX2_digitsBehind_65 : decode cX2_digitsBehind 65 = .ok (.ireturn, 1) := by decide +kernel
theorem dX2_digitsBehind_66 : decode cX2_digitsBehind 66 = .ok (.iconst (-1), 1) := by decide +kernel
theorem dX2_digitsBehind_67 : decode cX2_digitsBehind 67 = .ok (.ireturn, 1) := by decide +kernel
theorem dX2_doStatements_0 : decode cX2_doStatements 0 = .ok (.iconst 0, 1) := by decide +kernel
theorem dX2_doStatements_1 : decode cX2_doStatements 1 = .ok (.istore_n 2, 1) := by decide +kernel
theorem dX2_doStatements_2 : decode cX2_doStatements 2 = .ok (.iconst 0, 1) := by decide +kernel
theorem dX2_doStatements_3 : decode cX2_doStatements 3 = .ok (.istore_n 3, 1) := by decide +kernel
theorem dX2_doStatements_4 : decode cX2_doStatements 4 = .ok (.iconst 0, 1) := by decide +kernel
theorem dX2_doStatements_5 : decode cX2_doStatements 5 = .ok (.istore 4, 2) := by decide +kernel
theorem dX2_doStatements_7 : decode cX2_doStatements 7 = .ok (.iload 4, 2) := by decide +kernel
theorem dX2_doStatements_9 : decode cX2_doStatements 9 = .ok (.aload_n 1, 1) := by decide +kernel
theorem dX2_doStatements_10 : decode cX2_doStatements 10 = .ok (.getfield 229, 3) := by decide +kernel
theorem dX2_doStatements_13 : decode cX2_doStatements 13 = .ok (.if_icmp .ge 43, 3) := by decide +kernel
theorem dX2_doStatements_16 : decode cX2_doStatements 16 = .ok (.aload_n 1, 1) := by decide +kernel
theorem dX2_doStatements_17 : decode cX2_doStatements 17 = .ok (.iload 4, 2) := by decide +kernel
theorem dX2_doStatements_19 : decode cX2_doStatements 19 = .ok (.invokevirtual 293, 3) := by decide +kernel
theorem dX2_doStatements_22 : decode cX2_doStatements 22 = .ok (.bipush 59, 2) := by decide +kernel
theorem dX2_doStatements_24 : decode cX2_doStatements 24 = .ok (.if_icmp .ne 26, 3) := by decide +kernel
theorem dX2_doStatements_27 : decode cX2_doStatements 27 = .ok (.aload_n 0, 1) := by decide +kernel
theorem dX2_doStatements_28 : decode cX2_doStatements 28 = .ok (.aload_n 1, 1) := by decide +kernel
theorem dX2_doStatements_29 : decode cX2_doStatements 29 = .ok (.iload_n 3, 1) := by decide +kernel
theorem dX2_doStatements_30 : decode cX2_doStatements 30 = .ok (.invokestatic 299, 3) := by decide +kernel
theorem dX2_doStatements_33 : decode cX2_doStatements 33 = .ok (.ifCond .ne 9, 3) := by decide +kernel
theorem dX2_doStatements_36 : decode cX2_doStatements 36 = .ok (.sipush (-2000), 3) := by decide +kernel
theorem dX2_doStatements_39 : decode cX2_doStatements 39 = .ok (.iload_n 3, 1) := by decide +kernel
theorem dX2_doStatements_40 : decode cX2_doStatements 40 = .ok (.isub, 1) := by decide +kernel
theorem dX2_doStatements_41 : decode cX2_doStatements 41 = .ok (.ireturn, 1) := by decide +kernel
theorem dX2_doStatements_42 : decode cX2_doStatements 42 = .ok (.iload 4, 2) := by decide +kernel
theorem dX2_doStatements_44 : decode cX2_doStatements 44 = .ok (.iconst 1, 1) := by decide +kernel
theorem dX2_doStatements_45 : decode cX2_doStatements 45 = .ok (.iadd, 1) := by decide +kernel
theorem dX2_doStatements_46 : decode cX2_doStatements 46 = .ok (.istore_n 3, 1) := by decide +kernel
theorem dX2_doStatements_47 : decode cX2_doStatements 47 = .ok (.iinc 2 1, 3) := by decide +kernel
theorem dX2_doStatements_50 : decode cX2_doStatements 50 = .ok (.iinc 4 1, 3) := by decide +kernel
theorem dX2_doStatements_53 : decode cX2_doStatements 53 = .ok (.goto (-46), 3) := by decide +kernel
theorem dX2_doStatements_56 : decode cX2_doStatements 56 = .ok (.iload_n 2, 1) := by decide +kernel
theorem dX2_doStatements_57 : decode cX2_doStatements 57 = .ok (.ireturn, 1) := by decide +kernel
theorem dX2_doStatement_0 : decode cX2_doStatement 0 = .ok (.aload_n 1, 1) := by decide +kernel
theorem dX2_doStatement_1 : decode cX2_doStatement 1 = .ok (.iload_n 2, 1) := by decide +kernel
theorem dX2_doStatement_2 : decode cX2_doStatement 2 = .ok (.iconst 1, 1) := by decide +kernel
theorem dX2_doStatement_3 : decode cX2_doStatement 3 = .ok (.iadd, 1) := by decide +kernel
theorem dX2_doStatement_4 : decode cX2_doStatement 4 = .ok (.invokevirtual 303, 3) := by decide +kernel
theorem dX2_doStatement_7 : decode cX2_doStatement 7 = .ok (.istore_n 3, 1) := by decide +kernel
theorem dX2_doStatement_8 : decode cX2_doStatement 8 = .ok (.aload_n 1, 1) := by decide +kernel
theorem dX2_doStatement_9 : decode cX2_doStatement 9 = .ok (.iload_n 2, 1) := by decide +kernel
theorem dX2_doStatement_10 : decode cX2_doStatement 10 = .ok (.iconst 2, 1) := by decide +kernel
theorem dX2_doStatement_11 : decode cX2_doStatement 11 = .ok (.iadd, 1) := by decide +kernel
theorem dX2_doStatement_12 : decode cX2_doStatement 12 = .ok (.invokevirtual 303, 3) := by decide +kernel
theorem dX2_doStatement_15 : decode cX2_doStatement 15 = .ok (.istore 4, 2) := by decide +kernel
theorem dX2_doStatement_17 : decode cX2_doStatement 17 = .ok (.aload_n 1, 1) := by decide +kernel
theorem dX2_doStatement_18 : decode cX2_doStatement 18 = .ok (.iload_n 2, 1) := by decide +kernel
theorem dX2_doStatement_19 : decode cX2_doStatement 19 = .ok (.invokevirtual 293, 3) := by decide +kernel
theorem dX2_doStatement_22 : decode cX2_doStatement 22 = .ok (.lookupswitch 123 #[(98, 85), (104, 91), (112, 58), (114, 103), (116, 66), (120, 115)], 58) := by decide +kernel
theorem dX2_doStatement_80 : decode cX2_doStatement 80 = .ok (.aload_n 0, 1) := by decide +kernel
theorem dX2_doStatement_81 : decode cX2_doStatement 81 = .ok (.iload_n 3, 1) := by decide +kernel
theorem dX2_doStatement_82 : decode cX2_doStatement 82 = .ok (.iload 4, 2) := by decide +kernel
theorem dX2_doStatement_84 : decode cX2_doStatement 84 = .ok (.invokevirtual 106, 3) := by decide +kernel
theorem dX2_doStatement_87 : decode cX2_doStatement 87 = .ok (.ireturn, 1) := by decide +kernel
theorem dX2_doStatement_88 : decode cX2_doStatement 88 = .ok (.aload_n 0, 1) := by decide +kernel
theorem dX2_doStatement_89 : decode cX2_doStatement 89 = .ok (.iload_n 3, 1) := by decide +kernel
theorem dX2_doStatement_90 : decode cX2_doStatement 90 = .ok (.bipush 10, 2) := by decide +kernel
theorem dX2_doStatement_92 : decode cX2_doStatement 92 = .ok (.iload 4, 2) := by decide +kernel
theorem dX2_doStatement_94 : decode cX2_doStatement 94 = .ok (.imul, 1) := by decide +kernel
theorem dX2_doStatement_95 : decode cX2_doStatement 95 = .ok (.aload_n 1, 1) := by decide +kernel
theorem dX2_doStatement_96 : decode cX2_doStatement 96 = .ok (.iload_n 2, 1) := by decide +kernel
theorem dX2_doStatement_97 : decode cX2_doStatement 97 = .ok (.iconst 3, 1) := by decide +kernel
theorem dX2_doStatement_98 : decode cX2_doStatement 98 = .ok (.iadd, 1) := by decide +kernel
theorem dX2_doStatement_99 : decode cX2_doStatement 99 = .ok (.invokevirtual 303, 3) := by decide +kernel
theorem dX2_doStatement_102 : decode cX2_doStatement 102 = .ok (.iadd, 1) := by decide +kernel
theorem dX2_doStatement_103 : decode cX2_doStatement 103 = .ok (.invokevirtual 113, 3) := by decide +kernel
theorem dX2_doStatement_106 : decode cX2_doStatement 106 = .ok (.ireturn, 1) := by decide +kernel
theorem dX2_doStatement_107 : decode cX2_doStatement 107 = .ok (.aload_n 0, 1) := by decide +kernel
theorem dX2_doStatement_108 : decode cX2_doStatement 108 = .ok (.iload_n 3, 1) := by decide +kernel
theorem dX2_doStatement_109 : decode cX2_doStatement 109 = .ok (.invokevirtual 116, 3) := by decide +kernel
theorem dX2_doStatement_112 : decode cX2_doStatement 112 = .ok (.ireturn, 1) := by decide +kernel
theorem dX2_doStatement_113 : decode cX2_doStatement 113 = .ok (.aload_n 0, 1) := by decide +kernel
theorem dX2_doStatement_114 : decode cX2_doStatement 114 = .ok (.bipush 10, 2) := by decide +kernel
theorem dX2_doStatement_116 : decode cX2_doStatement 116 = .ok (.iload_n 3, 1) := by decide +kernel
theorem dX2_doStatement_117 : decode cX2_doStatement 117 = .ok (.imul, 1) := by decide +kernel
theorem dX2_doStatement_118 : decode cX2_doStatement 118 = .ok (.iload 4, 2) := by decide +kernel
theorem dX2_doStatement_120 : decode cX2_doStatement 120 = .ok (.iadd, 1) := by decide +kernel
theorem dX2_doStatement_121 : decode cX2_doStatement 121 = .ok (.invokevirtual 122, 3) := by decide +kernel
theorem dX2_doStatement_124 : decode cX2_doStatement 124 = .ok (.ireturn, 1) := by decide +kernel
theorem dX2_doStatement_125 : decode cX2_doStatement 125 = .ok (.aload_n 0, 1) := by decide +kernel
theorem dX2_doStatement_126 : decode cX2_doStatement 126 = .ok (.bipush 10, 2) := by decide +kernel
theorem dX2_doStatement_128 : decode cX2_doStatement 128 = .ok (.iload_n 3, 1) := by decide +kernel
theorem dX2_doStatement_129 : decode cX2_doStatement 129 = .ok (.imul, 1) := by decide +kernel
theorem dX2_doStatement_130 : decode cX2_doStatement 130 = .ok (.iload 4, 2) := by decide +kernel
theorem dX2_doStatement_132 : decode cX2_doStatement 132 = .ok (.iadd, 1) := by decide +kernel
theorem dX2_doStatement_133 : decode cX2_doStatement 133 = .ok (.invokevirtual 128, 3) := by decide +kernel
theorem dX2_doStatement_136 : decode cX2_doStatement 136 = .ok (.ireturn, 1) := by decide +kernel
theorem dX2_doStatement_137 : decode cX2_doStatement 137 = .ok (.aload_n 0, 1) := by decide +kernel
theorem dX2_doStatement_138 : decode cX2_doStatement 138 = .ok (.iload_n 3, 1) := by decide +kernel
theorem dX2_doStatement_139 : decode cX2_doStatement 139 = .ok (.iload 4, 2) := by decide +kernel
theorem dX2_doStatement_141 : decode cX2_doStatement 141 = .ok (.invokevirtual 125, 3) := by decide +kernel
theorem dX2_doStatement_144 : decode cX2_doStatement 144 = .ok (.ireturn, 1) := by decide +kernel
theorem dX2_doStatement_145 : decode cX2_doStatement 145 = .ok (.iconst 0, 1) := by decide +kernel
theorem dX2_doStatement_146 : decode cX2_doStatement 146 = .ok (.ireturn, 1) := by decide +kernel
theorem dX2_bestTip_0 : decode cX2_bestTip 0 = .ok (.aload_n 0, 1) := by decide +kernel
theorem dX2_bestTip_1 : decode cX2_bestTip 1 = .ok (.getfield 12, 3) := by decide +kernel
theorem dX2_bestTip_4 : decode cX2_bestTip 4 = .ok (.iload_n 1, 1) := by decide +kernel
theorem dX2_bestTip_5 : decode cX2_bestTip 5 = .ok (.iconst 1, 1) := by decide +kernel
theorem dX2_bestTip_6 : decode cX2_bestTip 6 = .ok (.iadd, 1) := by decide +kernel
theorem dX2_bestTip_7 : decode cX2_bestTip 7 = .ok (.invokevirtual 67, 3) := by decide +kernel
theorem dX2_bestTip_10 : decode cX2_bestTip 10 = .ok (.ifCond .eq 28, 3) := by decide +kernel
theorem dX2_bestTip_13 : decode cX2_bestTip 13 = .ok (.aload_n 0, 1) := by decide +kernel
theorem dX2_bestTip_14 : decode cX2_bestTip 14 = .ok (.getfield 12, 3) := by decide +kernel
theorem dX2_bestTip_17 : decode cX2_bestTip 17 = .ok (.iload_n 1, 1) := by decide +kernel
theorem dX2_bestTip_18 : decode cX2_bestTip 18 = .ok (.invokevirtual 91, 3) := by decide +kernel
theorem dX2_bestTip_21 : decode cX2_bestTip 21 = .ok (.aload_n 0, 1) := by decide +kernel
theorem dX2_bestTip_22 : decode cX2_bestTip 22 = .ok (.getfield 12, 3) := by decide +kernel
theorem dX2_bestTip_25 : decode cX2_bestTip 25 = .ok (.iload_n 1, 1) := by decide +kernel
theorem dX2_bestTip_26 : decode cX2_bestTip 26 = .ok (.iconst 1, 1) := by decide +kernel
theorem dX2_bestTip_27 : decode cX2_bestTip 27 = .ok (.iadd, 1) := by decide +kernel
theorem dX2_bestTip_28 : decode cX2_bestTip 28 = .ok (.invokevirtual 91, 3) := by decide +kernel
theorem dX2_bestTip_31 : decode cX2_bestTip 31 = .ok (.if_icmp .le 7, 3) := by decide +kernel
theorem dX2_bestTip_34 : decode cX2_bestTip 34 = .ok (.iconst 1, 1) := by decide +kernel
theorem dX2_bestTip_35 : decode cX2_bestTip 35 = .ok (.goto 4, 3) := by decide +kernel
theorem dX2_bestTip_38 : decode cX2_bestTip 38 = .ok (.iconst 0, 1) := by decide +kernel
theorem dX2_bestTip_39 : decode cX2_bestTip 39 = .ok (.istore_n 2, 1) := by decide +kernel
theorem dX2_bestTip_40 : decode cX2_bestTip 40 = .ok (.iload_n 2, 1) := by decide +kernel
theorem dX2_bestTip_41 : decode cX2_bestTip 41 = .ok (.ifCond .eq 14, 3) := by decide +kernel
theorem dX2_bestTip_44 : decode cX2_bestTip 44 = .ok (.aload_n 0, 1) := by decide +kernel
theorem dX2_bestTip_45 : decode cX2_bestTip 45 = .ok (.getfield 12, 3) := by decide +kernel
theorem dX2_bestTip_48 : decode cX2_bestTip 48 = .ok (.iload_n 1, 1) := by decide +kernel
theorem dX2_bestTip_49 : decode cX2_bestTip 49 = .ok (.invokevirtual 83, 3) := by decide +kernel
theorem dX2_bestTip_52 : decode cX2_bestTip 52 = .ok (.goto 4, 3) := by decide +kernel
theorem dX2_bestTip_55 : decode cX2_bestTip 55 = .ok (.iconst 0, 1) := by decide +kernel
theorem dX2_bestTip_56 : decode cX2_bestTip 56 = .ok (.ireturn, 1) := by decide +kernel
theorem dX2_joyByLaw_0 : decode cX2_joyByLaw 0 = .ok (.aload_n 0, 1) := by decide +kernel
theorem dX2_joyByLaw_1 : decode cX2_joyByLaw 1 = .ok (.getfield 16, 3) := by decide +kernel
theorem dX2_joyByLaw_4 : decode cX2_joyByLaw 4 = .ok (.aload_n 0, 1) := by decide +kernel
theorem dX2_joyByLaw_5 : decode cX2_joyByLaw 5 = .ok (.getfield 12, 3) := by decide +kernel
theorem dX2_joyByLaw_8 : decode cX2_joyByLaw 8 = .ok (.invokevirtual 59, 3) := by decide +kernel
theorem dX2_joyByLaw_11 : decode cX2_joyByLaw 11 = .ok (.iload_n 1, 1) := by decide +kernel
theorem dX2_joyByLaw_12 : decode cX2_joyByLaw 12 = .ok (.ifCond .ne 16, 3) := by decide +kernel
theorem dX2_joyByLaw_15 : decode cX2_joyByLaw 15 = .ok (.aload_n 0, 1) := by decide +kernel
theorem dX2_joyByLaw_16 : decode cX2_joyByLaw 16 = .ok (.getfield 16, 3) := by decide +kernel
theorem dX2_joyByLaw_19 : decode cX2_joyByLaw 19 = .ok (.bipush 60, 2) := by decide +kernel
theorem dX2_joyByLaw_21 : decode cX2_joyByLaw 21 = .ok (.invokevirtual 142, 3) := by decide +kernel
theorem dX2_joyByLaw_24 : decode cX2_joyByLaw 24 = .ok (.pop, 1) := by decide +kernel
theorem dX2_joyByLaw_25 : decode cX2_joyByLaw 25 = .ok (.goto 48, 3) := by decide +kernel
theorem dX2_joyByLaw_28 : decode cX2_joyByLaw 28 = .ok (.iconst 0, 1) := by decide +kernel
theorem dX2_joyByLaw_29 : decode cX2_joyByLaw 29 = .ok (.istore_n 2, 1) := by decide +kernel
theorem dX2_joyByLaw_30 : decode cX2_joyByLaw 30 = .ok (.iload_n 2, 1) := by decide +kernel
theorem dX2_joyByLaw_31 : decode cX2_joyByLaw 31 = .ok (.aload_n 0, 1) := by decide +kernel
theorem dX2_joyByLaw_32 : decode cX2_joyByLaw 32 = .ok (.getfield 16, 3) := by decide +kernel
theorem dX2_joyByLaw_35 : decode cX2_joyByLaw 35 = .ok (.getfield 110, 3) := by decide +kernel
theorem dX2_joyByLaw_38 : decode cX2_joyByLaw 38 = .ok (.if_icmp .ge 35, 3) := by decide +kernel
theorem dX2_joyByLaw_41 : decode cX2_joyByLaw 41 = .ok (.aload_n 0, 1) := by decide +kernel
theorem dX2_joyByLaw_42 : decode cX2_joyByLaw 42 = .ok (.getfield 16, 3) := by decide +kernel
theorem dX2_joyByLaw_45 : decode cX2_joyByLaw 45 = .ok (.getfield 77, 3) := by decide +kernel
theorem dX2_joyByLaw_48 : decode cX2_joyByLaw 48 = .ok (.iload_n 2, 1) := by decide +kernel
theorem dX2_joyByLaw_49 : decode cX2_joyByLaw 49 = .ok (.iload_n 1, 1) := by decide +kernel
theorem dX2_joyByLaw_50 : decode cX2_joyByLaw 50 = .ok (.iconst 1, 1) := by decide +kernel
theorem dX2_joyByLaw_51 : decode cX2_joyByLaw 51 = .ok (.if_icmp .ne 7, 3) := by decide +kernel
theorem dX2_joyByLaw_54 : decode cX2_joyByLaw 54 = .ok (.iconst 0, 1) := by decide +kernel
theorem dX2_joyByLaw_55 : decode cX2_joyByLaw 55 = .ok (.goto 11, 3) := by decide +kernel
theorem dX2_joyByLaw_58 : decode cX2_joyByLaw 58 = .ok (.aload_n 0, 1) := by decide +kernel
theorem dX2_joyByLaw_59 : decode cX2_joyByLaw 59 = .ok (.getfield 16, 3) := by decide +kernel
theorem dX2_joyByLaw_62 : decode cX2_joyByLaw 62 = .ok (.iload_n 2, 1) := by decide +kernel
theorem dX2_joyByLaw_63 : decode cX2_joyByLaw 63 = .ok (.invokevirtual 83, 3) := by decide +kernel
theorem dX2_joyByLaw_66 : decode cX2_joyByLaw 66 = .ok (.iastore, 1) := by decide +kernel
theorem dX2_joyByLaw_67 : decode cX2_joyByLaw 67 = .ok (.iinc 2 1, 3) := by decide +kernel
theorem dX2_joyByLaw_70 : decode cX2_joyByLaw 70 = .ok (.goto (-40), 3) := by decide +kernel
theorem dX2_joyByLaw_73 : decode cX2_joyByLaw 73 = .ok (.aload_n 0, 1) := by decide +kernel
theorem dX2_joyByLaw_74 : decode cX2_joyByLaw 74 = .ok (.getfield 16, 3) := by decide +kernel
theorem dX2_joyByLaw_77 : decode cX2_joyByLaw 77 = .ok (.invokevirtual 153, 3) := by decide +kernel
theorem dX2_joyByLaw_80 : decode cX2_joyByLaw 80 = .ok (.ireturn, 1) := by decide +kernel
theorem dX2_lawWithMostJoy_0 : decode cX2_lawWithMostJoy 0 = .ok (.iconst 0, 1) := by decide +kernel
theorem dX2_lawWithMostJoy_1 : decode cX2_lawWithMostJoy 1 = .ok (.istore_n 1, 1) := by decide +kernel
theorem dX2_lawWithMostJoy_2 : decode cX2_lawWithMostJoy 2 = .ok (.aload_n 0, 1) := by decide +kernel
theorem dX2_lawWithMostJoy_3 : decode cX2_lawWithMostJoy 3 = .ok (.iconst 0, 1) := by decide +kernel
theorem dX2_lawWithMostJoy_4 : decode cX2_lawWithMostJoy 4 = .ok (.invokevirtual 162, 3) := by decide +kernel
theorem dX2_lawWithMostJoy_7 : decode cX2_lawWithMostJoy 7 = .ok (.istore_n 2, 1) := by decide +kernel
theorem dX2_lawWithMostJoy_8 : decode cX2_lawWithMostJoy 8 = .ok (.iconst 1, 1) := by decide +kernel
theorem dX2_lawWithMostJoy_9 : decode cX2_lawWithMostJoy 9 = .ok (.istore_n 3, 1) := by decide +kernel
theorem dX2_lawWithMostJoy_10 : decode cX2_lawWithMostJoy 10 = .ok (.iload_n 3, 1) := by decide +kernel
theorem dX2_lawWithMostJoy_11 : decode cX2_lawWithMostJoy 11 = .ok (.iconst 3, 1) := by decide +kernel
theorem dX2_lawWithMostJoy_12 : decode cX2_lawWithMostJoy 12 = .ok (.if_icmp .ge 27, 3) := by decide +kernel
theorem dX2_lawWithMostJoy_15 : decode cX2_lawWithMostJoy 15 = .ok (.aload_n 0, 1) := by decide +kernel
theorem dX2_lawWithMostJoy_16 : decode cX2_lawWithMostJoy 16 = .ok (.iload_n 3, 1) := by decide +kernel
theorem dX2_lawWithMostJoy_17 : decode cX2_lawWithMostJoy 17 = .ok (.invokevirtual 162, 3) := by decide +kernel
theorem dX2_lawWithMostJoy_20 : decode cX2_lawWithMostJoy 20 = .ok (.istore 4, 2) := by decide +kernel
theorem dX2_lawWithMostJoy_22 : decode cX2_lawWithMostJoy 22 = .ok (.iload 4, 2) := by decide +kernel
theorem dX2_lawWithMostJoy_24 : decode cX2_lawWithMostJoy 24 = .ok (.iload_n 2, 1) := by decide +kernel
theorem dX2_lawWithMostJoy_25 : decode cX2_lawWithMostJoy 25 = .ok (.if_icmp .le 8, 3) := by decide +kernel
theorem dX2_lawWithMostJoy_28 : decode cX2_lawWithMostJoy 28 = .ok (.iload 4, 2) := by decide +kernel
theorem dX2_lawWithMostJoy_30 : decode cX2_lawWithMostJoy 30 = .ok (.istore_n 2, 1) := by decide +kernel
theorem dX2_lawWithMostJoy_31 : decode cX2_lawWithMostJoy 31 = .ok (.iload_n 3, 1) := by decide +kernel
theorem dX2_lawWithMostJoy_32 : decode cX2_lawWithMostJoy 32 = .ok (.istore_n 1, 1) := by decide +kernel
theorem dX2_lawWithMostJoy_33 : decode cX2_lawWithMostJoy 33 = .ok (.iinc 3 1, 3) := by decide +kernel
theorem dX2_lawWithMostJoy_36 : decode cX2_lawWithMostJoy 36 = .ok (.goto (-26), 3) := by decide +kernel
theorem dX2_lawWithMostJoy_39 : decode cX2_lawWithMostJoy 39 = .ok (.iload_n 1, 1) := by decide +kernel
theorem dX2_lawWithMostJoy_40 : decode cX2_lawWithMostJoy 40 = .ok (.ireturn, 1) := by decide +kernel
theorem dX2_wonBehind_0 : decode cX2_wonBehind 0 = .ok (.aload_n 0, 1) := by decide +kernel
theorem dX2_wonBehind_1 : decode cX2_wonBehind 1 = .ok (.getfield 12, 3) := by decide +kernel
theorem dX2_wonBehind_4 : decode cX2_wonBehind 4 = .ok (.getfield 77, 3) := by decide +kernel
theorem dX2_wonBehind_7 : decode cX2_wonBehind 7 = .ok (.iload_n 1, 1) := by decide +kernel
theorem dX2_wonBehind_8 : decode cX2_wonBehind 8 = .ok (.iaload, 1) := by decide +kernel
theorem dX2_wonBehind_9 : decode cX2_wonBehind 9 = .ok (.aload_n 0, 1) := by decide +kernel
theorem dX2_wonBehind_10 : decode cX2_wonBehind 10 = .ok (.getfield 12, 3) := by decide +kernel
theorem dX2_wonBehind_13 : decode cX2_wonBehind 13 = .ok (.iload_n 1, 1) := by decide +kernel
theorem dX2_wonBehind_14 : decode cX2_wonBehind 14 = .ok (.iconst 1, 1) := by decide +kernel
theorem dX2_wonBehind_15 : decode cX2_wonBehind 15 = .ok (.iadd, 1) := by decide +kernel
theorem dX2_wonBehind_16 : decode cX2_wonBehind 16 = .ok (.invokevirtual 91, 3) := by decide +kernel
theorem dX2_wonBehind_19 : decode cX2_wonBehind 19 = .ok (.imul, 1) := by decide +kernel
theorem dX2_wonBehind_20 : decode cX2_wonBehind 20 = .ok (.ireturn, 1) := by decide +kernel
theorem dX2_lostAhead_0 : decode cX2_lostAhead 0 = .ok (.aload_n 0, 1) := by decide +kernel
theorem dX2_lostAhead_1 : decode cX2_lostAhead 1 = .ok (.getfield 12, 3) := by decide +kernel
theorem dX2_lostAhead_4 : decode cX2_lostAhead 4 = .ok (.getfield 77, 3) := by decide +kernel
theorem dX2_lostAhead_7 : decode cX2_lostAhead 7 = .ok (.iload_n 1, 1) := by decide +kernel
theorem dX2_lostAhead_8 : decode cX2_lostAhead 8 = .ok (.iaload, 1) := by decide +kernel
theorem dX2_lostAhead_9 : decode cX2_lostAhead 9 = .ok (.aload_n 0, 1) := by decide +kernel
theorem dX2_lostAhead_10 : decode cX2_lostAhead 10 = .ok (.getfield 12, 3) := by decide +kernel
theorem dX2_lostAhead_13 : decode cX2_lostAhead 13 = .ok (.iload_n 1, 1) := by decide +kernel
theorem dX2_lostAhead_14 : decode cX2_lostAhead 14 = .ok (.invokevirtual 91, 3) := by decide +kernel
theorem dX2_lostAhead_17 : decode cX2_lostAhead 17 = .ok (.imul, 1) := by decide +kernel
theorem dX2_lostAhead_18 : decode cX2_lostAhead 18 = .ok (.ireturn, 1) := by decide +kernel
