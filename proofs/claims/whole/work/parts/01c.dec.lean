theorem dX0_init_0 : decode cX0_init 0 = .ok (.aload_n 0, 1) := by decide +kernel
theorem dX0_init_1 : decode cX0_init 1 = .ok (.invokespecial 3, 3) := by decide +kernel
theorem dX0_init_4 : decode cX0_init 4 = .ok (.aload_n 0, 1) := by decide +kernel
theorem dX0_init_5 : decode cX0_init 5 = .ok (.bipush 8, 2) := by decide +kernel
theorem dX0_init_7 : decode cX0_init 7 = .ok (.anewarray 9, 3) := by decide +kernel
theorem dX0_init_10 : decode cX0_init 10 = .ok (.putfield 11, 3) := by decide +kernel
theorem dX0_init_13 : decode cX0_init 13 = .ok (.aload_n 0, 1) := by decide +kernel
theorem dX0_init_14 : decode cX0_init 14 = .ok (.iconst (-1), 1) := by decide +kernel
theorem dX0_init_15 : decode cX0_init 15 = .ok (.putfield 17, 3) := by decide +kernel
theorem dX0_init_18 : decode cX0_init 18 = .ok (.aload_n 0, 1) := by decide +kernel
theorem dX0_init_19 : decode cX0_init 19 = .ok (.iconst (-1), 1) := by decide +kernel
theorem dX0_init_20 : decode cX0_init 20 = .ok (.putfield 21, 3) := by decide +kernel
theorem dX0_init_23 : decode cX0_init 23 = .ok (.aload_n 0, 1) := by decide +kernel
theorem dX0_init_24 : decode cX0_init 24 = .ok (.iconst (-1), 1) := by decide +kernel
theorem dX0_init_25 : decode cX0_init 25 = .ok (.putfield 24, 3) := by decide +kernel
theorem dX0_init_28 : decode cX0_init 28 = .ok (.aload_n 0, 1) := by decide +kernel
theorem dX0_init_29 : decode cX0_init 29 = .ok (.iconst (-1), 1) := by decide +kernel
theorem dX0_init_30 : decode cX0_init 30 = .ok (.putfield 27, 3) := by decide +kernel
theorem dX0_init_33 : decode cX0_init 33 = .ok (.iconst 0, 1) := by decide +kernel
theorem dX0_init_34 : decode cX0_init 34 = .ok (.istore_n 1, 1) := by decide +kernel
theorem dX0_init_35 : decode cX0_init 35 = .ok (.iload_n 1, 1) := by decide +kernel
theorem dX0_init_36 : decode cX0_init 36 = .ok (.bipush 8, 2) := by decide +kernel
theorem dX0_init_38 : decode cX0_init 38 = .ok (.if_icmp .ge 22, 3) := by decide +kernel
theorem dX0_init_41 : decode cX0_init 41 = .ok (.aload_n 0, 1) := by decide +kernel
theorem dX0_init_42 : decode cX0_init 42 = .ok (.getfield 11, 3) := by decide +kernel
theorem dX0_init_45 : decode cX0_init 45 = .ok (.iload_n 1, 1) := by decide +kernel
theorem dX0_init_46 : decode cX0_init 46 = .ok (.new 9, 3) := by decide +kernel
theorem dX0_init_49 : decode cX0_init 49 = .ok (.dup, 1) := by decide +kernel
theorem dX0_init_50 : decode cX0_init 50 = .ok (.invokespecial 30, 3) := by decide +kernel
theorem dX0_init_53 : decode cX0_init 53 = .ok (.aastore, 1) := by decide +kernel
theorem dX0_init_54 : decode cX0_init 54 = .ok (.iinc 1 1, 3) := by decide +kernel
theorem dX0_init_57 : decode cX0_init 57 = .ok (.goto (-22), 3) := by decide +kernel
theorem dX0_init_60 : decode cX0_init 60 = .ok (.return_, 1) := by decide +kernel
theorem dX0_copyFrom_0 : decode cX0_copyFrom 0 = .ok (.aload_n 0, 1) := by decide +kernel
theorem dX0_copyFrom_1 : decode cX0_copyFrom 1 = .ok (.aload_n 1, 1) := by decide +kernel
theorem dX0_copyFrom_2 : decode cX0_copyFrom 2 = .ok (.getfield 31, 3) := by decide +kernel
theorem dX0_copyFrom_5 : decode cX0_copyFrom 5 = .ok (.putfield 31, 3) := by decide +kernel
theorem dX0_copyFrom_8 : decode cX0_copyFrom 8 = .ok (.iconst 0, 1) := by decide +kernel
theorem dX0_copyFrom_9 : decode cX0_copyFrom 9 = .ok (.istore_n 2, 1) := by decide +kernel
theorem dX0_copyFrom_10 : decode cX0_copyFrom 10 = .ok (.iload_n 2, 1) := by decide +kernel
theorem dX0_copyFrom_11 : decode cX0_copyFrom 11 = .ok (.aload_n 0, 1) := by decide +kernel
theorem dX0_copyFrom_12 : decode cX0_copyFrom 12 = .ok (.getfield 31, 3) := by decide +kernel
theorem dX0_copyFrom_15 : decode cX0_copyFrom 15 = .ok (.if_icmp .ge 24, 3) := by decide +kernel
theorem dX0_copyFrom_18 : decode cX0_copyFrom 18 = .ok (.aload_n 0, 1) := by decide +kernel
theorem dX0_copyFrom_19 : decode cX0_copyFrom 19 = .ok (.getfield 11, 3) := by decide +kernel
theorem dX0_copyFrom_22 : decode cX0_copyFrom 22 = .ok (.iload_n 2, 1) := by decide +kernel
theorem dX0_copyFrom_23 : decode cX0_copyFrom 23 = .ok (.aaload, 1) := by decide +kernel
theorem dX0_copyFrom_24 : decode cX0_copyFrom 24 = .ok (.aload_n 1, 1) := by decide +kernel
theorem dX0_copyFrom_25 : decode cX0_copyFrom 25 = .ok (.getfield 11, 3) := by decide +kernel
theorem dX0_copyFrom_28 : decode cX0_copyFrom 28 = .ok (.iload_n 2, 1) := by decide +kernel
theorem dX0_copyFrom_29 : decode cX0_copyFrom 29 = .ok (.aaload, 1) := by decide +kernel
theorem dX0_copyFrom_30 : decode cX0_copyFrom 30 = .ok (.invokevirtual 34, 3) := by decide +kernel
theorem dX0_copyFrom_33 : decode cX0_copyFrom 33 = .ok (.iinc 2 1, 3) := by decide +kernel
theorem dX0_copyFrom_36 : decode cX0_copyFrom 36 = .ok (.goto (-26), 3) := by decide +kernel
theorem dX0_copyFrom_39 : decode cX0_copyFrom 39 = .ok (.aload_n 0, 1) := by decide +kernel
theorem dX0_copyFrom_40 : decode cX0_copyFrom 40 = .ok (.aload_n 1, 1) := by decide +kernel
theorem dX0_copyFrom_41 : decode cX0_copyFrom 41 = .ok (.getfield 38, 3) := by decide +kernel
theorem dX0_copyFrom_44 : decode cX0_copyFrom 44 = .ok (.putfield 38, 3) := by decide +kernel
theorem dX0_copyFrom_47 : decode cX0_copyFrom 47 = .ok (.aload_n 0, 1) := by decide +kernel
theorem dX0_copyFrom_48 : decode cX0_copyFrom 48 = .ok (.aload_n 1, 1) := by decide +kernel
theorem dX0_copyFrom_49 : decode cX0_copyFrom 49 = .ok (.getfield 17, 3) := by decide +kernel
theorem dX0_copyFrom_52 : decode cX0_copyFrom 52 = .ok (.putfield 17, 3) := by decide +kernel
theorem dX0_copyFrom_55 : decode cX0_copyFrom 55 = .ok (.aload_n 0, 1) := by decide +kernel
theorem dX0_copyFrom_56 : decode cX0_copyFrom 56 = .ok (.aload_n 1, 1) := by decide +kernel
theorem dX0_copyFrom_57 : decode cX0_copyFrom 57 = .ok (.getfield 21, 3) := by decide +kernel
theorem dX0_copyFrom_60 : decode cX0_copyFrom 60 = .ok (.putfield 21, 3) := by decide +kernel
theorem dX0_copyFrom_63 : decode cX0_copyFrom 63 = .ok (.aload_n 0, 1) := by decide +kernel
theorem dX0_copyFrom_64 : decode cX0_copyFrom 64 = .ok (.aload_n 1, 1) := by decide +kernel
theorem dX0_copyFrom_65 : decode cX0_copyFrom 65 = .ok (.getfield 24, 3) := by decide +kernel
theorem dX0_copyFrom_68 : decode cX0_copyFrom 68 = .ok (.putfield 24, 3) := by decide +kernel
theorem dX0_copyFrom_71 : decode cX0_copyFrom 71 = .ok (.aload_n 0, 1) := by decide +kernel
theorem dX0_copyFrom_72 : decode cX0_copyFrom 72 = .ok (.aload_n 1, 1) := by decide +kernel
theorem dX0_copyFrom_73 : decode cX0_copyFrom 73 = .ok (.getfield 27, 3) := by decide +kernel
theorem dX0_copyFrom_76 : decode cX0_copyFrom 76 = .ok (.putfield 27, 3) := by decide +kernel
theorem dX0_copyFrom_79 : decode cX0_copyFrom 79 = .ok (.aload_n 0, 1) := by decide +kernel
theorem dX0_copyFrom_80 : decode cX0_copyFrom 80 = .ok (.aload_n 1, 1) := by decide +kernel
theorem dX0_copyFrom_81 : decode cX0_copyFrom 81 = .ok (.getfield 41, 3) := by decide +kernel
theorem dX0_copyFrom_84 : decode cX0_copyFrom 84 = .ok (.putfield 41, 3) := by decide +kernel
theorem dX0_copyFrom_87 : decode cX0_copyFrom 87 = .ok (.aload_n 0, 1) := by decide +kernel
theorem dX0_copyFrom_88 : decode cX0_copyFrom 88 = .ok (.aload_n 1, 1) := by decide +kernel
theorem dX0_copyFrom_89 : decode cX0_copyFrom 89 = .ok (.getfield 44, 3) := by decide +kernel
theorem dX0_copyFrom_92 : decode cX0_copyFrom 92 = .ok (.putfield 44, 3) := by decide +kernel
theorem dX0_copyFrom_95 : decode cX0_copyFrom 95 = .ok (.return_, 1) := by decide +kernel
theorem dX0_furnish_0 : decode cX0_furnish 0 = .ok (.aload_n 0, 1) := by decide +kernel
theorem dX0_furnish_1 : decode cX0_furnish 1 = .ok (.iload_n 2, 1) := by decide +kernel
theorem dX0_furnish_2 : decode cX0_furnish 2 = .ok (.bipush 8, 2) := by decide +kernel
theorem dX0_furnish_4 : decode cX0_furnish 4 = .ok (.invokestatic 47, 3) := by decide +kernel
theorem dX0_furnish_7 : decode cX0_furnish 7 = .ok (.putfield 31, 3) := by decide +kernel
theorem dX0_furnish_10 : decode cX0_furnish 10 = .ok (.iload_n 1, 1) := by decide +kernel
theorem dX0_furnish_11 : decode cX0_furnish 11 = .ok (.istore_n 3, 1) := by decide +kernel
theorem dX0_furnish_12 : decode cX0_furnish 12 = .ok (.aload_n 0, 1) := by decide +kernel
theorem dX0_furnish_13 : decode cX0_furnish 13 = .ok (.getfield 31, 3) := by decide +kernel
theorem dX0_furnish_16 : decode cX0_furnish 16 = .ok (.iconst 1, 1) := by decide +kernel
theorem dX0_furnish_17 : decode cX0_furnish 17 = .ok (.isub, 1) := by decide +kernel
theorem dX0_furnish_18 : decode cX0_furnish 18 = .ok (.istore 4, 2) := by decide +kernel
theorem dX0_furnish_20 : decode cX0_furnish 20 = .ok (.iload 4, 2) := by decide +kernel
theorem dX0_furnish_22 : decode cX0_furnish 22 = .ok (.ifCond .lt 30, 3) := by decide +kernel
theorem dX0_furnish_25 : decode cX0_furnish 25 = .ok (.aload_n 0, 1) := by decide +kernel
theorem dX0_furnish_26 : decode cX0_furnish 26 = .ok (.getfield 11, 3) := by decide +kernel
theorem dX0_furnish_29 : decode cX0_furnish 29 = .ok (.iload 4, 2) := by decide +kernel
theorem dX0_furnish_31 : decode cX0_furnish 31 = .ok (.aaload, 1) := by decide +kernel
theorem dX0_furnish_32 : decode cX0_furnish 32 = .ok (.iload_n 3, 1) := by decide +kernel
theorem dX0_furnish_33 : decode cX0_furnish 33 = .ok (.bipush 10, 2) := by decide +kernel
theorem dX0_furnish_35 : decode cX0_furnish 35 = .ok (.irem, 1) := by decide +kernel
theorem dX0_furnish_36 : decode cX0_furnish 36 = .ok (.iconst 1, 1) := by decide +kernel
theorem dX0_furnish_37 : decode cX0_furnish 37 = .ok (.isub, 1) := by decide +kernel
theorem dX0_furnish_38 : decode cX0_furnish 38 = .ok (.putfield 53, 3) := by decide +kernel
theorem dX0_furnish_41 : decode cX0_furnish 41 = .ok (.iload_n 3, 1) := by decide +kernel
theorem dX0_furnish_42 : decode cX0_furnish 42 = .ok (.bipush 10, 2) := by decide +kernel
theorem dX0_furnish_44 : decode cX0_furnish 44 = .ok (.idiv, 1) := by decide +kernel
theorem dX0_furnish_45 : decode cX0_furnish 45 = .ok (.istore_n 3, 1) := by decide +kernel
theorem dX0_furnish_46 : decode cX0_furnish 46 = .ok (.iinc 4 (-1), 3) := by decide +kernel
theorem dX0_furnish_49 : decode cX0_furnish 49 = .ok (.goto (-29), 3) := by decide +kernel
theorem dX0_furnish_52 : decode cX0_furnish 52 = .ok (.return_, 1) := by decide +kernel
theorem dX0_chairAt_0 : decode cX0_chairAt 0 = .ok (.iload_n 1, 1) := by decide +kernel
theorem dX0_chairAt_1 : decode cX0_chairAt 1 = .ok (.ifCond .lt 20, 3) := by decide +kernel
theorem dX0_chairAt_4 : decode cX0_chairAt 4 = .ok (.iload_n 1, 1) := by decide +kernel
theorem dX0_chairAt_5 : decode cX0_chairAt 5 = .ok (.aload_n 0, 1) := by decide +kernel
theorem dX0_chairAt_6 : decode cX0_chairAt 6 = .ok (.getfield 31, 3) := by decide +kernel
theorem dX0_chairAt_9 : decode cX0_chairAt 9 = .ok (.if_icmp .ge 12, 3) := by decide +kernel
theorem dX0_chairAt_12 : decode cX0_chairAt 12 = .ok (.aload_n 0, 1) := by decide +kernel
theorem dX0_chairAt_13 : decode cX0_chairAt 13 = .ok (.getfield 11, 3) := by decide +kernel
theorem dX0_chairAt_16 : decode cX0_chairAt 16 = .ok (.iload_n 1, 1) := by decide +kernel
theorem dX0_chairAt_17 : decode cX0_chairAt 17 = .ok (.aaload, 1) := by decide +kernel
theorem dX0_chairAt_18 : decode cX0_chairAt 18 = .ok (.goto 4, 3) := by decide +kernel
theorem dX0_chairAt_21 : decode cX0_chairAt 21 = .ok (.aconst_null, 1) := by decide +kernel
theorem dX0_chairAt_22 : decode cX0_chairAt 22 = .ok (.areturn, 1) := by decide +kernel
theorem dX0_raiseSpirit_0 : decode cX0_raiseSpirit 0 = .ok (.aload_n 0, 1) := by decide +kernel
theorem dX0_raiseSpirit_1 : decode cX0_raiseSpirit 1 = .ok (.iconst 0, 1) := by decide +kernel
theorem dX0_raiseSpirit_2 : decode cX0_raiseSpirit 2 = .ok (.bipush 50, 2) := by decide +kernel
theorem dX0_raiseSpirit_4 : decode cX0_raiseSpirit 4 = .ok (.aload_n 0, 1) := by decide +kernel
theorem dX0_raiseSpirit_5 : decode cX0_raiseSpirit 5 = .ok (.getfield 38, 3) := by decide +kernel
theorem dX0_raiseSpirit_8 : decode cX0_raiseSpirit 8 = .ok (.iload_n 1, 1) := by decide +kernel
theorem dX0_raiseSpirit_9 : decode cX0_raiseSpirit 9 = .ok (.iadd, 1) := by decide +kernel
theorem dX0_raiseSpirit_10 : decode cX0_raiseSpirit 10 = .ok (.invokestatic 47, 3) := by decide +kernel
theorem dX0_raiseSpirit_13 : decode cX0_raiseSpirit 13 = .ok (.invokestatic 56, 3) := by decide +kernel
theorem dX0_raiseSpirit_16 : decode cX0_raiseSpirit 16 = .ok (.putfield 38, 3) := by decide +kernel
theorem dX0_raiseSpirit_19 : decode cX0_raiseSpirit 19 = .ok (.return_, 1) := by decide +kernel
theorem dX0_members_0 : decode cX0_members 0 = .ok (.iconst 0, 1) := by decide +kernel
theorem dX0_members_1 : decode cX0_members 1 = .ok (.istore_n 1, 1) := by decide +kernel
theorem dX0_members_2 : decode cX0_members 2 = .ok (.iconst 0, 1) := by decide +kernel
theorem dX0_members_3 : decode cX0_members 3 = .ok (.istore_n 2, 1) := by decide +kernel
theorem dX0_members_4 : decode cX0_members 4 = .ok (.iload_n 2, 1) := by decide +kernel
theorem dX0_members_5 : decode cX0_members 5 = .ok (.aload_n 0, 1) := by decide +kernel
theorem dX0_members_6 : decode cX0_members 6 = .ok (.getfield 31, 3) := by decide +kernel
theorem dX0_members_9 : decode cX0_members 9 = .ok (.if_icmp .ge 25, 3) := by decide +kernel
theorem dX0_members_12 : decode cX0_members 12 = .ok (.aload_n 0, 1) := by decide +kernel
theorem dX0_members_13 : decode cX0_members 13 = .ok (.getfield 11, 3) := by decide +kernel
theorem dX0_members_16 : decode cX0_members 16 = .ok (.iload_n 2, 1) := by decide +kernel
theorem dX0_members_17 : decode cX0_members 17 = .ok (.aaload, 1) := by decide +kernel
theorem dX0_members_18 : decode cX0_members 18 = .ok (.getfield 59, 3) := by decide +kernel
theorem dX0_members_21 : decode cX0_members 21 = .ok (.iconst (-1), 1) := by decide +kernel
theorem dX0_members_22 : decode cX0_members 22 = .ok (.if_icmp .eq 6, 3) := by decide +kernel
theorem dX0_members_25 : decode cX0_members 25 = .ok (.iinc 1 1, 3) := by decide +kernel
theorem dX0_members_28 : decode cX0_members 28 = .ok (.iinc 2 1, 3) := by decide +kernel
theorem dX0_members_31 : decode cX0_members 31 = .ok (.goto (-27), 3) := by decide +kernel
theorem dX0_members_34 : decode cX0_members 34 = .ok (.iload_n 1, 1) := by decide +kernel
theorem dX0_members_35 : decode cX0_members 35 = .ok (.ireturn, 1) := by decide +kernel
theorem dX0_ownSitting_0 : decode cX0_ownSitting 0 = .ok (.iconst 0, 1) := by decide +kernel
theorem dX0_ownSitting_1 : decode cX0_ownSitting 1 = .ok (.istore_n 1, 1) := by decide +kernel
theorem dX0_ownSitting_2 : decode cX0_ownSitting 2 = .ok (.iconst 0, 1) := by decide +kernel
theorem dX0_ownSitting_3 : decode cX0_ownSitting 3 = .ok (.istore_n 2, 1) := by decide +kernel
theorem dX0_ownSitting_4 : decode cX0_ownSitting 4 = .ok (.iload_n 2, 1) := by decide +kernel
theorem dX0_ownSitting_5 : decode cX0_ownSitting 5 = .ok (.aload_n 0, 1) := by decide +kernel
theorem dX0_ownSitting_6 : decode cX0_ownSitting 6 = .ok (.getfield 31, 3) := by decide +kernel
theorem dX0_ownSitting_9 : decode cX0_ownSitting 9 = .ok (.if_icmp .ge 24, 3) := by decide +kernel
theorem dX0_ownSitting_12 : decode cX0_ownSitting 12 = .ok (.aload_n 0, 1) := by decide +kernel
theorem dX0_ownSitting_13 : decode cX0_ownSitting 13 = .ok (.getfield 11, 3) := by decide +kernel
theorem dX0_ownSitting_16 : decode cX0_ownSitting 16 = .ok (.iload_n 2, 1) := by decide +kernel
theorem dX0_ownSitting_17 : decode cX0_ownSitting 17 = .ok (.aaload, 1) := by decide +kernel
theorem dX0_ownSitting_18 : decode cX0_ownSitting 18 = .ok (.invokevirtual 62, 3) := by decide +kernel
theorem dX0_ownSitting_21 : decode cX0_ownSitting 21 = .ok (.ifCond .eq 6, 3) := by decide +kernel
theorem dX0_ownSitting_24 : decode cX0_ownSitting 24 = .ok (.iinc 1 1, 3) := by decide +kernel
theorem dX0_ownSitting_27 : decode cX0_ownSitting 27 = .ok (.iinc 2 1, 3) := by decide +kernel
theorem dX0_ownSitting_30 : decode cX0_ownSitting 30 = .ok (.goto (-26), 3) := by decide +kernel
theorem dX0_ownSitting_33 : decode cX0_ownSitting 33 = .ok (.iload_n 1, 1) := by decide +kernel
theorem dX0_ownSitting_34 : decode cX0_ownSitting 34 = .ok (.ireturn, 1) := by decide +kernel
theorem dX0_deputiesSitting_0 : decode cX0_deputiesSitting 0 = .ok (.iconst 0, 1) := by decide +kernel
theorem dX0_deputiesSitting_1 : decode cX0_deputiesSitting 1 = .ok (.istore_n 1, 1) := by decide +kernel
theorem dX0_deputiesSitting_2 : decode cX0_deputiesSitting 2 = .ok (.iconst 0, 1) := by decide +kernel
theorem dX0_deputiesSitting_3 : decode cX0_deputiesSitting 3 = .ok (.istore_n 2, 1) := by decide +kernel
theorem dX0_deputiesSitting_4 : decode cX0_deputiesSitting 4 = .ok (.iload_n 2, 1) := by decide +kernel
theorem dX0_deputiesSitting_5 : decode cX0_deputiesSitting 5 = .ok (.aload_n 0, 1) := by decide +kernel
theorem dX0_deputiesSitting_6 : decode cX0_deputiesSitting 6 = .ok (.getfield 31, 3) := by decide +kernel
theorem dX0_deputiesSitting_9 : decode cX0_deputiesSitting 9 = .ok (.if_icmp .ge 24, 3) := by decide +kernel
theorem dX0_deputiesSitting_12 : decode cX0_deputiesSitting 12 = .ok (.aload_n 0, 1) := by decide +kernel
theorem dX0_deputiesSitting_13 : decode cX0_deputiesSitting 13 = .ok (.getfield 11, 3) := by decide +kernel
theorem dX0_deputiesSitting_16 : decode cX0_deputiesSitting 16 = .ok (.iload_n 2, 1) := by decide +kernel
theorem dX0_deputiesSitting_17 : decode cX0_deputiesSitting 17 = .ok (.aaload, 1) := by decide +kernel
theorem dX0_deputiesSitting_18 : decode cX0_deputiesSitting 18 = .ok (.invokevirtual 66, 3) := by decide +kernel
theorem dX0_deputiesSitting_21 : decode cX0_deputiesSitting 21 = .ok (.ifCond .eq 6, 3) := by decide +kernel
theorem dX0_deputiesSitting_24 : decode cX0_deputiesSitting 24 = .ok (.iinc 1 1, 3) := by decide +kernel
theorem dX0_deputiesSitting_27 : decode cX0_deputiesSitting 27 = .ok (.iinc 2 1, 3) := by decide +kernel
theorem dX0_deputiesSitting_30 : decode cX0_deputiesSitting 30 = .ok (.goto (-26), 3) := by decide +kernel
theorem dX0_deputiesSitting_33 : decode cX0_deputiesSitting 33 = .ok (.iload_n 1, 1) := by decide +kernel
theorem dX0_deputiesSitting_34 : decode cX0_deputiesSitting 34 = .ok (.ireturn, 1) := by decide +kernel
theorem dX0_emptyChairs_0 : decode cX0_emptyChairs 0 = .ok (.iconst 0, 1) := by decide +kernel
theorem dX0_emptyChairs_1 : decode cX0_emptyChairs 1 = .ok (.istore_n 1, 1) := by decide +kernel
theorem dX0_emptyChairs_2 : decode cX0_emptyChairs 2 = .ok (.iconst 0, 1) := by decide +kernel
theorem dX0_emptyChairs_3 : decode cX0_emptyChairs 3 = .ok (.istore_n 2, 1) := by decide +kernel
theorem dX0_emptyChairs_4 : decode cX0_emptyChairs 4 = .ok (.iload_n 2, 1) := by decide +kernel
theorem dX0_emptyChairs_5 : decode cX0_emptyChairs 5 = .ok (.aload_n 0, 1) := by decide +kernel
theorem dX0_emptyChairs_6 : decode cX0_emptyChairs 6 = .ok (.getfield 31, 3) := by decide +kernel
theorem dX0_emptyChairs_9 : decode cX0_emptyChairs 9 = .ok (.if_icmp .ge 24, 3) := by decide +kernel
theorem dX0_emptyChairs_12 : decode cX0_emptyChairs 12 = .ok (.aload_n 0, 1) := by decide +kernel
theorem dX0_emptyChairs_13 : decode cX0_emptyChairs 13 = .ok (.getfield 11, 3) := by decide +kernel
theorem dX0_emptyChairs_16 : decode cX0_emptyChairs 16 = .ok (.iload_n 2, 1) := by decide +kernel
theorem dX0_emptyChairs_17 : decode cX0_emptyChairs 17 = .ok (.aaload, 1) := by decide +kernel
theorem dX0_emptyChairs_18 : decode cX0_emptyChairs 18 = .ok (.invokevirtual 69, 3) := by decide +kernel
theorem dX0_emptyChairs_21 : decode cX0_emptyChairs 21 = .ok (.ifCond .eq 6, 3) := by decide +kernel
theorem dX0_emptyChairs_24 : decode cX0_emptyChairs 24 = .ok (.iinc 1 1, 3) := by decide +kernel
theorem dX0_emptyChairs_27 : decode cX0_emptyChairs 27 = .ok (.iinc 2 1, 3) := by decide +kernel
theorem dX0_emptyChairs_30 : decode cX0_emptyChairs 30 = .ok (.goto (-26), 3) := by decide +kernel
theorem dX0_emptyChairs_33 : decode cX0_emptyChairs 33 = .ok (.iload_n 1, 1) := by decide +kernel
theorem dX0_emptyChairs_34 : decode cX0_emptyChairs 34 = .ok (.ireturn, 1) := by decide +kernel
theorem dX0_isBetterThan_0 : decode cX0_isBetterThan 0 = .ok (.aload_n 0, 1) := by decide +kernel
theorem dX0_isBetterThan_1 : decode cX0_isBetterThan 1 = .ok (.getfield 17, 3) := by decide +kernel
theorem dX0_isBetterThan_4 : decode cX0_isBetterThan 4 = .ok (.aload_n 1, 1) := by decide +kernel
theorem dX0_isBetterThan_5 : decode cX0_isBetterThan 5 = .ok (.getfield 17, 3) := by decide +kernel
theorem dX0_isBetterThan_8 : decode cX0_isBetterThan 8 = .ok (.if_icmp .gt 25, 3) := by decide +kernel
theorem dX0_isBetterThan_11 : decode cX0_isBetterThan 11 = .ok (.aload_n 0, 1) := by decide +kernel
theorem dX0_isBetterThan_12 : decode cX0_isBetterThan 12 = .ok (.getfield 17, 3) := by decide +kernel
theorem dX0_isBetterThan_15 : decode cX0_isBetterThan 15 = .ok (.aload_n 1, 1) := by decide +kernel
theorem dX0_isBetterThan_16 : decode cX0_isBetterThan 16 = .ok (.getfield 17, 3) := by decide +kernel
theorem dX0_isBetterThan_19 : decode cX0_isBetterThan 19 = .ok (.if_icmp .ne 18, 3) := by decide +kernel
theorem dX0_isBetterThan_22 : decode cX0_isBetterThan 22 = .ok (.aload_n 0, 1) := by decide +kernel
theorem dX0_isBetterThan_23 : decode cX0_isBetterThan 23 = .ok (.getfield 24, 3) := by decide +kernel
theorem dX0_isBetterThan_26 : decode cX0_isBetterThan 26 = .ok (.aload_n 1, 1) := by decide +kernel
theorem dX0_isBetterThan_27 : decode cX0_isBetterThan 27 = .ok (.getfield 24, 3) := by decide +kernel
theorem dX0_isBetterThan_30 : decode cX0_isBetterThan 30 = .ok (.if_icmp .ge 7, 3) := by decide +kernel
theorem dX0_isBetterThan_33 : decode cX0_isBetterThan 33 = .ok (.iconst 1, 1) := by decide +kernel
theorem dX0_isBetterThan_34 : decode cX0_isBetterThan 34 = .ok (.goto 4, 3) := by decide +kernel
theorem dX0_isBetterThan_37 : decode cX0_isBetterThan 37 = .ok (.iconst 0, 1) := by decide +kernel
theorem dX0_isBetterThan_38 : decode cX0_isBetterThan 38 = .ok (.ireturn, 1) := by decide +kernel
theorem dX0_tell_0 : decode cX0_tell 0 = .ok (.iload_n 1, 1) := by decide +kernel
theorem dX0_tell_1 : decode cX0_tell 1 = .ok (.tableswitch 87 0 7 #[47, 52, 57, 62, 67, 72, 77, 82], 47) := by decide +kernel
theorem dX0_tell_48 : decode cX0_tell 48 = .ok (.aload_n 0, 1) := by decide +kernel
theorem dX0_tell_49 : decode cX0_tell 49 = .ok (.getfield 31, 3) := by decide +kernel
theorem dX0_tell_52 : decode cX0_tell 52 = .ok (.ireturn, 1) := by decide +kernel
theorem dX0_tell_53 : decode cX0_tell 53 = .ok (.aload_n 0, 1) := by decide +kernel
theorem dX0_tell_54 : decode cX0_tell 54 = .ok (.invokevirtual 72, 3) := by decide +kernel
theorem dX0_tell_57 : decode cX0_tell 57 = .ok (.ireturn, 1) := by decide +kernel
theorem dX0_tell_58 : decode cX0_tell 58 = .ok (.aload_n 0, 1) := by decide +kernel
theorem dX0_tell_59 : decode cX0_tell 59 = .ok (.getfield 38, 3) := by decide +kernel
theorem dX0_tell_62 : decode cX0_tell 62 = .ok (.ireturn, 1) := by decide +kernel
theorem dX0_tell_63 : decode cX0_tell 63 = .ok (.aload_n 0, 1) := by decide +kernel
theorem dX0_tell_64 : decode cX0_tell 64 = .ok (.getfield 17, 3) := by decide +kernel
theorem dX0_tell_67 : decode cX0_tell 67 = .ok (.ireturn, 1) := by decide +kernel
theorem dX0_tell_68 : decode cX0_tell 68 = .ok (.aload_n 0, 1) := by decide +kernel
theorem dX0_tell_69 : decode cX0_tell 69 = .ok (.getfield 21, 3) := by decide +kernel
theorem dX0_tell_72 : decode cX0_tell 72 = .ok (.ireturn, 1) := by decide +kernel
theorem dX0_tell_73 : decode cX0_tell 73 = .ok (.aload_n 0, 1) := by decide +kernel
theorem dX0_tell_74 : decode cX0_tell 74 = .ok (.getfield 24, 3) := by decide +kernel
theorem dX0_tell_77 : decode cX0_tell 77 = .ok (.ireturn, 1) := by decide +kernel
theorem dX0_tell_78 : decode cX0_tell 78 = .ok (.aload_n 0, 1) := by decide +kernel
theorem dX0_tell_79 : decode cX0_tell 79 = .ok (.getfield 27, 3) := by decide +kernel
theorem dX0_tell_82 : decode cX0_tell 82 = .ok (.ireturn, 1) := by decide +kernel
theorem dX0_tell_83 : decode cX0_tell 83 = .ok (.aload_n 0, 1) := by decide +kernel
theorem dX0_tell_84 : decode cX0_tell 84 = .ok (.getfield 41, 3) := by decide +kernel
theorem dX0_tell_87 : decode cX0_tell 87 = .ok (.ireturn, 1) := by decide +kernel
theorem dX0_tell_88 : decode cX0_tell 88 = .ok (.aload_n 0, 1) := by decide +kernel
theorem dX0_tell_89 : decode cX0_tell 89 = .ok (.getfield 44, 3) := by decide +kernel
theorem dX0_tell_92 : decode cX0_tell 92 = .ok (.ireturn, 1) := by decide +kernel
theorem dX0_outlook_0 : decode cX0_outlook 0 = .ok (.iload_n 1, 1) := by decide +kernel
theorem dX0_outlook_1 : decode cX0_outlook 1 = .ok (.tableswitch 42 0 2 #[27, 32, 37], 27) := by decide +kernel
theorem dX0_outlook_28 : decode cX0_outlook 28 = .ok (.aload_n 0, 1) := by decide +kernel
theorem dX0_outlook_29 : decode cX0_outlook 29 = .ok (.getfield 17, 3) := by decide +kernel
theorem dX0_outlook_32 : decode cX0_outlook 32 = .ok (.ireturn, 1) := by decide +kernel
theorem dX0_outlook_33 : decode cX0_outlook 33 = .ok (.aload_n 0, 1) := by decide +kernel
theorem dX0_outlook_34 : decode cX0_outlook 34 = .ok (.getfield 21, 3) := by decide +kernel
theorem dX0_outlook_37 : decode cX0_outlook 37 = .ok (.ireturn, 1) := by decide +kernel
theorem dX0_outlook_38 : decode cX0_outlook 38 = .ok (.aload_n 0, 1) := by decide +kernel
theorem dX0_outlook_39 : decode cX0_outlook 39 = .ok (.getfield 24, 3) := by decide +kernel
theorem dX0_outlook_42 : decode cX0_outlook 42 = .ok (.ireturn, 1) := by decide +kernel
theorem dX0_outlook_43 : decode cX0_outlook 43 = .ok (.aload_n 0, 1) := by decide +kernel
theorem dX0_outlook_44 : decode cX0_outlook 44 = .ok (.getfield 41, 3) := by decide +kernel
theorem dX0_outlook_47 : decode cX0_outlook 47 = .ok (.ireturn, 1) := by decide +kernel
theorem dX1_init_0 : decode cX1_init 0 = .ok (.aload_n 0, 1) := by decide +kernel
theorem dX1_init_1 : decode cX1_init 1 = .ok (.invokespecial 3, 3) := by decide +kernel
theorem dX1_init_4 : decode cX1_init 4 = .ok (.aload_n 0, 1) := by decide +kernel
theorem dX1_init_5 : decode cX1_init 5 = .ok (.iconst (-1), 1) := by decide +kernel
theorem dX1_init_6 : decode cX1_init 6 = .ok (.putfield 9, 3) := by decide +kernel
theorem dX1_init_9 : decode cX1_init 9 = .ok (.aload_n 0, 1) := by decide +kernel
theorem dX1_init_10 : decode cX1_init 10 = .ok (.iconst (-1), 1) := by decide +kernel
theorem dX1_init_11 : decode cX1_init 11 = .ok (.putfield 15, 3) := by decide +kernel
theorem dX1_init_14 : decode cX1_init 14 = .ok (.return_, 1) := by decide +kernel
theorem dX1_copyFrom_0 : decode cX1_copyFrom 0 = .ok (.aload_n 0, 1) := by decide +kernel
theorem dX1_copyFrom_1 : decode cX1_copyFrom 1 = .ok (.aload_n 1, 1) := by decide +kernel
theorem dX1_copyFrom_2 : decode cX1_copyFrom 2 = .ok (.getfield 18, 3) := by decide +kernel
theorem dX1_copyFrom_5 : decode cX1_copyFrom 5 = .ok (.putfield 18, 3) := by decide +kernel
theorem dX1_copyFrom_8 : decode cX1_copyFrom 8 = .ok (.aload_n 0, 1) := by decide +kernel
theorem dX1_copyFrom_9 : decode cX1_copyFrom 9 = .ok (.aload_n 1, 1) := by decide +kernel
theorem dX1_copyFrom_10 : decode cX1_copyFrom 10 = .ok (.getfield 9, 3) := by decide +kernel
theorem dX1_copyFrom_13 : decode cX1_copyFrom 13 = .ok (.putfield 9, 3) := by decide +kernel
theorem dX1_copyFrom_16 : decode cX1_copyFrom 16 = .ok (.aload_n 0, 1) := by decide +kernel
theorem dX1_copyFrom_17 : decode cX1_copyFrom 17 = .ok (.aload_n 1, 1) := by decide +kernel
theorem dX1_copyFrom_18 : decode cX1_copyFrom 18 = .ok (.getfield 15, 3) := by decide +kernel
theorem dX1_copyFrom_21 : decode cX1_copyFrom 21 = .ok (.putfield 15, 3) := by decide +kernel
theorem dX1_copyFrom_24 : decode cX1_copyFrom 24 = .ok (.return_, 1) := by decide +kernel
theorem dX1_isEmpty_0 : decode cX1_isEmpty 0 = .ok (.aload_n 0, 1) := by decide +kernel
theorem dX1_isEmpty_1 : decode cX1_isEmpty 1 = .ok (.getfield 15, 3) := by decide +kernel
theorem dX1_isEmpty_4 : decode cX1_isEmpty 4 = .ok (.iconst (-1), 1) := by decide +kernel
theorem dX1_isEmpty_5 : decode cX1_isEmpty 5 = .ok (.if_icmp .ne 7, 3) := by decide +kernel
theorem dX1_isEmpty_8 : decode cX1_isEmpty 8 = .ok (.iconst 1, 1) := by decide +kernel
theorem dX1_isEmpty_9 : decode cX1_isEmpty 9 = .ok (.goto 4, 3) := by decide +kernel
theorem dX1_isEmpty_12 : decode cX1_isEmpty 12 = .ok (.iconst 0, 1) := by decide +kernel
theorem dX1_isEmpty_13 : decode cX1_isEmpty 13 = .ok (.ireturn, 1) := by decide +kernel
theorem dX1_hasOwn_0 : decode cX1_hasOwn 0 = .ok (.aload_n 0, 1) := by decide +kernel
theorem dX1_hasOwn_1 : decode cX1_hasOwn 1 = .ok (.getfield 15, 3) := by decide +kernel
theorem dX1_hasOwn_4 : decode cX1_hasOwn 4 = .ok (.iconst (-1), 1) := by decide +kernel
theorem dX1_hasOwn_5 : decode cX1_hasOwn 5 = .ok (.if_icmp .eq 18, 3) := by decide +kernel
theorem dX1_hasOwn_8 : decode cX1_hasOwn 8 = .ok (.aload_n 0, 1) := by decide +kernel
theorem dX1_hasOwn_9 : decode cX1_hasOwn 9 = .ok (.getfield 15, 3) := by decide +kernel
theorem dX1_hasOwn_12 : decode cX1_hasOwn 12 = .ok (.aload_n 0, 1) := by decide +kernel
theorem dX1_hasOwn_13 : decode cX1_hasOwn 13 = .ok (.getfield 9, 3) := by decide +kernel
theorem dX1_hasOwn_16 : decode cX1_hasOwn 16 = .ok (.if_icmp .ne 7, 3) := by decide +kernel
theorem dX1_hasOwn_19 : decode cX1_hasOwn 19 = .ok (.iconst 1, 1) := by decide +kernel
theorem dX1_hasOwn_20 : decode cX1_hasOwn 20 = .ok (.goto 4, 3) := by decide +kernel
theorem dX1_hasOwn_23 : decode cX1_hasOwn 23 = .ok (.iconst 0, 1) := by decide +kernel
theorem dX1_hasOwn_24 : decode cX1_hasOwn 24 = .ok (.ireturn, 1) := by decide +kernel
theorem dX1_hasDeputy_0 : decode cX1_hasDeputy 0 = .ok (.aload_n 0, 1) := by decide +kernel
theorem dX1_hasDeputy_1 : decode cX1_hasDeputy 1 = .ok (.getfield 15, 3) := by decide +kernel
theorem dX1_hasDeputy_4 : decode cX1_hasDeputy 4 = .ok (.iconst (-1), 1) := by decide +kernel
theorem dX1_hasDeputy_5 : decode cX1_hasDeputy 5 = .ok (.if_icmp .eq 18, 3) := by decide +kernel
theorem dX1_hasDeputy_8 : decode cX1_hasDeputy 8 = .ok (.aload_n 0, 1) := by decide +kernel
theorem dX1_hasDeputy_9 : decode cX1_hasDeputy 9 = .ok (.getfield 15, 3) := by decide +kernel
theorem dX1_hasDeputy_12 : decode cX1_hasDeputy 12 = .ok (.aload_n 0, 1) := by decide +kernel
theorem dX1_hasDeputy_13 : decode cX1_hasDeputy 13 = .ok (.getfield 9, 3) := by decide +kernel
theorem dX1_hasDeputy_16 : decode cX1_hasDeputy 16 = .ok (.if_icmp .eq 7, 3) := by decide +kernel
theorem dX1_hasDeputy_19 : decode cX1_hasDeputy 19 = .ok (.iconst 1, 1) := by decide +kernel
theorem dX1_hasDeputy_20 : decode cX1_hasDeputy 20 = .ok (.goto 4, 3) := by decide +kernel
theorem dX1_hasDeputy_23 : decode cX1_hasDeputy 23 = .ok (.iconst 0, 1) := by decide +kernel
theorem dX1_hasDeputy_24 : decode cX1_hasDeputy 24 = .ok (.ireturn, 1) := by decide +kernel
theorem dX1_tell_0 : decode cX1_tell 0 = .ok (.iload_n 1, 1) := by decide +kernel
theorem dX1_tell_1 : decode cX1_tell 1 = .ok (.lookupswitch 37 #[(0, 27), (1, 32)], 27) := by decide +kernel
theorem dX1_tell_28 : decode cX1_tell 28 = .ok (.aload_n 0, 1) := by decide +kernel
theorem dX1_tell_29 : decode cX1_tell 29 = .ok (.getfield 18, 3) := by decide +kernel
theorem dX1_tell_32 : decode cX1_tell 32 = .ok (.ireturn, 1) := by decide +kernel
theorem dX1_tell_33 : decode cX1_tell 33 = .ok (.aload_n 0, 1) := by decide +kernel
theorem dX1_tell_34 : decode cX1_tell 34 = .ok (.getfield 9, 3) := by decide +kernel
theorem dX1_tell_37 : decode cX1_tell 37 = .ok (.ireturn, 1) := by decide +kernel
theorem dX1_tell_38 : decode cX1_tell 38 = .ok (.aload_n 0, 1) := by decide +kernel
theorem dX1_tell_39 : decode cX1_tell 39 = .ok (.getfield 15, 3) := by decide +kernel
theorem dX1_tell_42 : decode cX1_tell 42 = .ok (.ireturn, 1) := by decide +kernel
theorem dX2_init_0 : decode cX2_init 0 = .ok (.aload_n 0, 1) := by decide +kernel
theorem dX2_init_1 : decode cX2_init 1 = .ok (.invokespecial 3, 3) := by decide +kernel
theorem dX2_init_4 : decode cX2_init 4 = .ok (.aload_n 0, 1) := by decide +kernel
theorem dX2_init_5 : decode cX2_init 5 = .ok (.new 9, 3) := by decide +kernel
theorem dX2_init_8 : decode cX2_init 8 = .ok (.dup, 1) := by decide +kernel
theorem dX2_init_9 : decode cX2_init 9 = .ok (.invokespecial 11, 3) := by decide +kernel
theorem dX2_init_12 : decode cX2_init 12 = .ok (.putfield 12, 3) := by decide +kernel
theorem dX2_init_15 : decode cX2_init 15 = .ok (.return_, 1) := by decide +kernel
theorem dX2_hold_0 : decode cX2_hold 0 = .ok (.aload_n 0, 1) := by decide +kernel
theorem dX2_hold_1 : decode cX2_hold 1 = .ok (.invokevirtual 18, 3) := by decide +kernel
theorem dX2_hold_4 : decode cX2_hold 4 = .ok (.iconst 0, 1) := by decide +kernel
theorem dX2_hold_5 : decode cX2_hold 5 = .ok (.istore_n 1, 1) := by decide +kernel
theorem dX2_hold_6 : decode cX2_hold 6 = .ok (.iload_n 1, 1) := by decide +kernel
theorem dX2_hold_7 : decode cX2_hold 7 = .ok (.aload_n 0, 1) := by decide +kernel
theorem dX2_hold_8 : decode cX2_hold 8 = .ok (.getfield 12, 3) := by decide +kernel
theorem dX2_hold_11 : decode cX2_hold 11 = .ok (.getfield 21, 3) := by decide +kernel
theorem dX2_hold_14 : decode cX2_hold 14 = .ok (.if_icmp .ge 18, 3) := by decide +kernel
theorem dX2_hold_17 : decode cX2_hold 17 = .ok (.aload_n 0, 1) := by decide +kernel
theorem dX2_hold_18 : decode cX2_hold 18 = .ok (.aload_n 0, 1) := by decide +kernel
theorem dX2_hold_19 : decode cX2_hold 19 = .ok (.iload_n 1, 1) := by decide +kernel
theorem dX2_hold_20 : decode cX2_hold 20 = .ok (.invokevirtual 25, 3) := by decide +kernel
theorem dX2_hold_23 : decode cX2_hold 23 = .ok (.invokevirtual 29, 3) := by decide +kernel
theorem dX2_hold_26 : decode cX2_hold 26 = .ok (.iinc 1 1, 3) := by decide +kernel
theorem dX2_hold_29 : decode cX2_hold 29 = .ok (.goto (-23), 3) := by decide +kernel
theorem dX2_hold_32 : decode cX2_hold 32 = .ok (.aload_n 0, 1) := by decide +kernel
theorem dX2_hold_33 : decode cX2_hold 33 = .ok (.invokevirtual 33, 3) := by decide +kernel
theorem dX2_hold_36 : decode cX2_hold 36 = .ok (.istore_n 1, 1) := by decide +kernel
theorem dX2_hold_37 : decode cX2_hold 37 = .ok (.iconst 0, 1) := by decide +kernel
theorem dX2_hold_38 : decode cX2_hold 38 = .ok (.istore_n 2, 1) := by decide +kernel
theorem dX2_hold_39 : decode cX2_hold 39 = .ok (.iload_n 2, 1) := by decide +kernel
theorem dX2_hold_40 : decode cX2_hold 40 = .ok (.aload_n 0, 1) := by decide +kernel
theorem dX2_hold_41 : decode cX2_hold 41 = .ok (.getfield 12, 3) := by decide +kernel
theorem dX2_hold_44 : decode cX2_hold 44 = .ok (.getfield 21, 3) := by decide +kernel
theorem dX2_hold_47 : decode cX2_hold 47 = .ok (.if_icmp .ge 34, 3) := by decide +kernel
theorem dX2_hold_50 : decode cX2_hold 50 = .ok (.aload_n 0, 1) := by decide +kernel
theorem dX2_hold_51 : decode cX2_hold 51 = .ok (.getfield 12, 3) := by decide +kernel
theorem dX2_hold_54 : decode cX2_hold 54 = .ok (.getfield 37, 3) := by decide +kernel
theorem dX2_hold_57 : decode cX2_hold 57 = .ok (.iload_n 2, 1) := by decide +kernel
theorem dX2_hold_58 : decode cX2_hold 58 = .ok (.aaload, 1) := by decide +kernel
theorem dX2_hold_59 : decode cX2_hold 59 = .ok (.astore_n 3, 1) := by decide +kernel
theorem dX2_hold_60 : decode cX2_hold 60 = .ok (.aload_n 3, 1) := by decide +kernel
theorem dX2_hold_61 : decode cX2_hold 61 = .ok (.aload_n 3, 1) := by decide +kernel
theorem dX2_hold_62 : decode cX2_hold 62 = .ok (.invokevirtual 41, 3) := by decide +kernel
theorem dX2_hold_65 : decode cX2_hold 65 = .ok (.iconst 2, 1) := by decide +kernel
theorem dX2_hold_66 : decode cX2_hold 66 = .ok (.aload_n 3, 1) := by decide +kernel
theorem dX2_hold_67 : decode cX2_hold 67 = .ok (.invokevirtual 46, 3) := by decide +kernel
theorem dX2_hold_70 : decode cX2_hold 70 = .ok (.imul, 1) := by decide +kernel
theorem dX2_hold_71 : decode cX2_hold 71 = .ok (.isub, 1) := by decide +kernel
theorem dX2_hold_72 : decode cX2_hold 72 = .ok (.invokevirtual 49, 3) := by decide +kernel
theorem dX2_hold_75 : decode cX2_hold 75 = .ok (.iinc 2 1, 3) := by decide +kernel
theorem dX2_hold_78 : decode cX2_hold 78 = .ok (.goto (-39), 3) := by decide +kernel
theorem dX2_hold_81 : decode cX2_hold 81 = .ok (.iconst 0, 1) := by decide +kernel
theorem dX2_hold_82 : decode cX2_hold 82 = .ok (.istore_n 2, 1) := by decide +kernel
theorem dX2_hold_83 : decode cX2_hold 83 = .ok (.iload_n 2, 1) := by decide +kernel
theorem dX2_hold_84 : decode cX2_hold 84 = .ok (.aload_n 0, 1) := by decide +kernel
theorem dX2_hold_85 : decode cX2_hold 85 = .ok (.getfield 12, 3) := by decide +kernel
theorem dX2_hold_88 : decode cX2_hold 88 = .ok (.getfield 52, 3) := by decide +kernel
theorem dX2_hold_91 : decode cX2_hold 91 = .ok (.if_icmp .ge 33, 3) := by decide +kernel
theorem dX2_hold_94 : decode cX2_hold 94 = .ok (.aload_n 0, 1) := by decide +kernel
theorem dX2_hold_95 : decode cX2_hold 95 = .ok (.getfield 12, 3) := by decide +kernel
theorem dX2_hold_98 : decode cX2_hold 98 = .ok (.getfield 55, 3) := by decide +kernel
theorem dX2_hold_101 : decode cX2_hold 101 = .ok (.iload_n 2, 1) := by decide +kernel
theorem dX2_hold_102 : decode cX2_hold 102 = .ok (.aaload, 1) := by decide +kernel
theorem dX2_hold_103 : decode cX2_hold 103 = .ok (.astore_n 3, 1) := by decide +kernel
theorem dX2_hold_104 : decode cX2_hold 104 = .ok (.aload_n 3, 1) := by decide +kernel
theorem dX2_hold_105 : decode cX2_hold 105 = .ok (.iconst 0, 1) := by decide +kernel
theorem dX2_hold_106 : decode cX2_hold 106 = .ok (.aload_n 3, 1) := by decide +kernel
theorem dX2_hold_107 : decode cX2_hold 107 = .ok (.getfield 59, 3) := by decide +kernel
theorem dX2_hold_110 : decode cX2_hold 110 = .ok (.iconst 1, 1) := by decide +kernel
theorem dX2_hold_111 : decode cX2_hold 111 = .ok (.isub, 1) := by decide +kernel
theorem dX2_hold_112 : decode cX2_hold 112 = .ok (.invokestatic 64, 3) := by decide +kernel
theorem dX2_hold_115 : decode cX2_hold 115 = .ok (.putfield 59, 3) := by decide +kernel
theorem dX2_hold_118 : decode cX2_hold 118 = .ok (.iinc 2 1, 3) := by decide +kernel
theorem dX2_hold_121 : decode cX2_hold 121 = .ok (.goto (-38), 3) := by decide +kernel
theorem dX2_hold_124 : decode cX2_hold 124 = .ok (.aload_n 0, 1) := by decide +kernel
theorem dX2_hold_125 : decode cX2_hold 125 = .ok (.getfield 12, 3) := by decide +kernel
theorem dX2_hold_128 : decode cX2_hold 128 = .ok (.dup, 1) := by decide +kernel
theorem dX2_hold_129 : decode cX2_hold 129 = .ok (.getfield 70, 3) := by decide +kernel
theorem dX2_hold_132 : decode cX2_hold 132 = .ok (.iconst 1, 1) := by decide +kernel
theorem dX2_hold_133 : decode cX2_hold 133 = .ok (.iadd, 1) := by decide +kernel
theorem dX2_hold_134 : decode cX2_hold 134 = .ok (.putfield 70, 3) := by decide +kernel
theorem dX2_hold_137 : decode cX2_hold 137 = .ok (.iload_n 1, 1) := by decide +kernel
theorem dX2_hold_138 : decode cX2_hold 138 = .ok (.ireturn, 1) := by decide +kernel
theorem dX2_playAllAheadOf_0 : decode cX2_playAllAheadOf 0 = .ok (.aload_n 0, 1) := by decide +kernel
theorem dX2_playAllAheadOf_1 : decode cX2_playAllAheadOf 1 = .ok (.invokevirtual 18, 3) := by decide +kernel
theorem dX2_playAllAheadOf_4 : decode cX2_playAllAheadOf 4 = .ok (.iconst 0, 1) := by decide +kernel
theorem dX2_playAllAheadOf_5 : decode cX2_playAllAheadOf 5 = .ok (.istore_n 2, 1) := by decide +kernel
theorem dX2_playAllAheadOf_6 : decode cX2_playAllAheadOf 6 = .ok (.iload_n 2, 1) := by decide +kernel
theorem dX2_playAllAheadOf_7 : decode cX2_playAllAheadOf 7 = .ok (.aload_n 0, 1) := by decide +kernel
theorem dX2_playAllAheadOf_8 : decode cX2_playAllAheadOf 8 = .ok (.getfield 12, 3) := by decide +kernel
theorem dX2_playAllAheadOf_11 : decode cX2_playAllAheadOf 11 = .ok (.getfield 21, 3) := by decide +kernel
theorem dX2_playAllAheadOf_14 : decode cX2_playAllAheadOf 14 = .ok (.if_icmp .ge 26, 3) := by decide +kernel
theorem dX2_playAllAheadOf_17 : decode cX2_playAllAheadOf 17 = .ok (.aload_n 0, 1) := by decide +kernel
theorem dX2_playAllAheadOf_18 : decode cX2_playAllAheadOf 18 = .ok (.iload_n 2, 1) := by decide +kernel
theorem dX2_playAllAheadOf_19 : decode cX2_playAllAheadOf 19 = .ok (.invokevirtual 25, 3) := by decide +kernel
theorem dX2_playAllAheadOf_22 : decode cX2_playAllAheadOf 22 = .ok (.istore_n 3, 1) := by decide +kernel
theorem dX2_playAllAheadOf_23 : decode cX2_playAllAheadOf 23 = .ok (.iload_n 3, 1) := by decide +kernel
theorem dX2_playAllAheadOf_24 : decode cX2_playAllAheadOf 24 = .ok (.iload_n 1, 1) := by decide +kernel
theorem dX2_playAllAheadOf_25 : decode cX2_playAllAheadOf 25 = .ok (.if_icmp .ne 4, 3) := by decide +kernel
theorem dX2_playAllAheadOf_28 : decode cX2_playAllAheadOf 28 = .ok (.return_, 1) := by decide +kernel
theorem dX2_playAllAheadOf_29 : decode cX2_playAllAheadOf 29 = .ok (.aload_n 0, 1) := by decide +kernel
theorem dX2_playAllAheadOf_30 : decode cX2_playAllAheadOf 30 = .ok (.iload_n 3, 1) := by decide +kernel
theorem dX2_playAllAheadOf_31 : decode cX2_playAllAheadOf 31 = .ok (.invokevirtual 29, 3) := by decide +kernel
theorem dX2_playAllAheadOf_34 : decode cX2_playAllAheadOf 34 = .ok (.iinc 2 1, 3) := by decide +kernel
theorem dX2_playAllAheadOf_37 : decode cX2_playAllAheadOf 37 = .ok (.goto (-31), 3) := by decide +kernel
theorem dX2_playAllAheadOf_40 : decode cX2_playAllAheadOf 40 = .ok (.return_, 1) := by decide +kernel
theorem dX2_bestChange_0 : decode cX2_bestChange 0 = .ok (.aload_n 0, 1) := by decide +kernel
theorem dX2_bestChange_1 : decode cX2_bestChange 1 = .ok (.getfield 12, 3) := by decide +kernel
theorem dX2_bestChange_4 : decode cX2_bestChange 4 = .ok (.iload_n 1, 1) := by decide +kernel
theorem dX2_bestChange_5 : decode cX2_bestChange 5 = .ok (.invokevirtual 73, 3) := by decide +kernel
theorem dX2_bestChange_8 : decode cX2_bestChange 8 = .ok (.astore_n 2, 1) := by decide +kernel
theorem dX2_bestChange_9 : decode cX2_bestChange 9 = .ok (.aload_n 2, 1) := by decide +kernel
theorem dX2_bestChange_10 : decode cX2_bestChange 10 = .ok (.ifnonnull 5, 3) := by decide +kernel
theorem dX2_bestChange_13 : decode cX2_bestChange 13 = .ok (.iconst (-1), 1) := by decide +kernel
theorem dX2_bestChange_14 : decode cX2_bestChange 14 = .ok (.ireturn, 1) := by decide +kernel
theorem dX2_bestChange_15 : decode cX2_bestChange 15 = .ok (.aload_n 0, 1) := by decide +kernel
theorem dX2_bestChange_16 : decode cX2_bestChange 16 = .ok (.aload_n 2, 1) := by decide +kernel
theorem dX2_bestChange_17 : decode cX2_bestChange 17 = .ok (.invokevirtual 77, 3) := by decide +kernel
theorem dX2_bestChange_20 : decode cX2_bestChange 20 = .ok (.istore_n 3, 1) := by decide +kernel
theorem dX2_bestChange_21 : decode cX2_bestChange 21 = .ok (.iconst (-1), 1) := by decide +kernel
theorem dX2_bestChange_22 : decode cX2_bestChange 22 = .ok (.istore 4, 2) := by decide +kernel
theorem dX2_bestChange_24 : decode cX2_bestChange 24 = .ok (.iconst 0, 1) := by decide +kernel
theorem dX2_bestChange_25 : decode cX2_bestChange 25 = .ok (.istore 5, 2) := by decide +kernel
theorem dX2_bestChange_27 : decode cX2_bestChange 27 = .ok (.iload 5, 2) := by decide +kernel
theorem dX2_bestChange_29 : decode cX2_bestChange 29 = .ok (.aload_n 2, 1) := by decide +kernel
theorem dX2_bestChange_30 : decode cX2_bestChange 30 = .ok (.getfield 81, 3) := by decide +kernel
theorem dX2_bestChange_33 : decode cX2_bestChange 33 = .ok (.if_icmp .ge 80, 3) := by decide +kernel
theorem dX2_bestChange_36 : decode cX2_bestChange 36 = .ok (.iload 5, 2) := by decide +kernel
theorem dX2_bestChange_38 : decode cX2_bestChange 38 = .ok (.iconst 1, 1) := by decide +kernel
theorem dX2_bestChange_39 : decode cX2_bestChange 39 = .ok (.iadd, 1) := by decide +kernel
theorem dX2_bestChange_40 : decode cX2_bestChange 40 = .ok (.istore 6, 2) := by decide +kernel
theorem dX2_bestChange_42 : decode cX2_bestChange 42 = .ok (.iload 6, 2) := by decide +kernel
theorem dX2_bestChange_44 : decode cX2_bestChange 44 = .ok (.aload_n 2, 1) := by decide +kernel
theorem dX2_bestChange_45 : decode cX2_bestChange 45 = .ok (.getfield 81, 3) := by decide +kernel
theorem dX2_bestChange_48 : decode cX2_bestChange 48 = .ok (.if_icmp .ge 59, 3) := by decide +kernel
theorem dX2_bestChange_51 : decode cX2_bestChange 51 = .ok (.aload_n 0, 1) := by decide +kernel
theorem dX2_bestChange_52 : decode cX2_bestChange 52 = .ok (.getfield 12, 3) := by decide +kernel
theorem dX2_bestChange_55 : decode cX2_bestChange 55 = .ok (.iload_n 1, 1) := by decide +kernel
theorem dX2_bestChange_56 : decode cX2_bestChange 56 = .ok (.iload 5, 2) := by decide +kernel
theorem dX2_bestChange_58 : decode cX2_bestChange 58 = .ok (.iload 6, 2) := by decide +kernel
theorem dX2_bestChange_60 : decode cX2_bestChange 60 = .ok (.invokevirtual 84, 3) := by decide +kernel
theorem dX2_bestChange_63 : decode cX2_bestChange 63 = .ok (.aload_n 0, 1) := by decide +kernel
theorem dX2_bestChange_64 : decode cX2_bestChange 64 = .ok (.aload_n 2, 1) := by decide +kernel
theorem dX2_bestChange_65 : decode cX2_bestChange 65 = .ok (.invokevirtual 77, 3) := by decide +kernel
theorem dX2_bestChange_68 : decode cX2_bestChange 68 = .ok (.istore 7, 2) := by decide +kernel
theorem dX2_bestChange_70 : decode cX2_bestChange 70 = .ok (.aload_n 0, 1) := by decide +kernel
theorem dX2_bestChange_71 : decode cX2_bestChange 71 = .ok (.getfield 12, 3) := by decide +kernel
theorem dX2_bestChange_74 : decode cX2_bestChange 74 = .ok (.iload_n 1, 1) := by decide +kernel
theorem dX2_bestChange_75 : decode cX2_bestChange 75 = .ok (.iload 5, 2) := by decide +kernel
theorem dX2_bestChange_77 : decode cX2_bestChange 77 = .ok (.iload 6, 2) := by decide +kernel
theorem dX2_bestChange_79 : decode cX2_bestChange 79 = .ok (.invokevirtual 84, 3) := by decide +kernel
theorem dX2_bestChange_82 : decode cX2_bestChange 82 = .ok (.iload 7, 2) := by decide +kernel
theorem dX2_bestChange_84 : decode cX2_bestChange 84 = .ok (.iload_n 3, 1) := by decide +kernel
theorem dX2_bestChange_85 : decode cX2_bestChange 85 = .ok (.if_icmp .le 16, 3) := by decide +kernel
theorem dX2_bestChange_88 : decode cX2_bestChange 88 = .ok (.iload 7, 2) := by decide +kernel
theorem dX2_bestChange_90 : decode cX2_bestChange 90 = .ok (.istore_n 3, 1) := by decide +kernel
theorem dX2_bestChange_91 : decode cX2_bestChange 91 = .ok (.bipush 8, 2) := by decide +kernel
theorem dX2_bestChange_93 : decode cX2_bestChange 93 = .ok (.iload 5, 2) := by decide +kernel
theorem dX2_bestChange_95 : decode cX2_bestChange 95 = .ok (.imul, 1) := by decide +kernel
theorem dX2_bestChange_96 : decode cX2_bestChange 96 = .ok (.iload 6, 2) := by decide +kernel
theorem dX2_bestChange_98 : decode cX2_bestChange 98 = .ok (.iadd, 1) := by decide +kernel
theorem dX2_bestChange_99 : decode cX2_bestChange 99 = .ok (.istore 4, 2) := by decide +kernel
theorem dX2_bestChange_101 : decode cX2_bestChange 101 = .ok (.iinc 6 1, 3) := by decide +kernel
theorem dX2_bestChange_104 : decode cX2_bestChange 104 = .ok (.goto (-62), 3) := by decide +kernel
theorem dX2_bestChange_107 : decode cX2_bestChange 107 = .ok (.iinc 5 1, 3) := by decide +kernel
theorem dX2_bestChange_110 : decode cX2_bestChange 110 = .ok (.goto (-83), 3) := by decide +kernel
theorem dX2_bestChange_113 : decode cX2_bestChange 113 = .ok (.iload 4, 2) := by decide +kernel
theorem dX2_bestChange_115 : decode cX2_bestChange 115 = .ok (.ireturn, 1) := by decide +kernel
theorem dX2_forgetDeputies_0 : decode cX2_forgetDeputies 0 = .ok (.iconst 0, 1) := by decide +kernel
theorem dX2_forgetDeputies_1 : decode cX2_forgetDeputies 1 = .ok (.istore_n 1, 1) := by decide +kernel
theorem dX2_forgetDeputies_2 : decode cX2_forgetDeputies 2 = .ok (.iload_n 1, 1) := by decide +kernel
theorem dX2_forgetDeputies_3 : decode cX2_forgetDeputies 3 = .ok (.aload_n 0, 1) := by decide +kernel
theorem dX2_forgetDeputies_4 : decode cX2_forgetDeputies 4 = .ok (.getfield 12, 3) := by decide +kernel
theorem dX2_forgetDeputies_7 : decode cX2_forgetDeputies 7 = .ok (.getfield 52, 3) := by decide +kernel
theorem dX2_forgetDeputies_10 : decode cX2_forgetDeputies 10 = .ok (.if_icmp .ge 22, 3) := by decide +kernel
theorem dX2_forgetDeputies_13 : decode cX2_forgetDeputies 13 = .ok (.aload_n 0, 1) := by decide +kernel
theorem dX2_forgetDeputies_14 : decode cX2_forgetDeputies 14 = .ok (.getfield 12, 3) := by decide +kernel
theorem dX2_forgetDeputies_17 : decode cX2_forgetDeputies 17 = .ok (.getfield 55, 3) := by decide +kernel
theorem dX2_forgetDeputies_20 : decode cX2_forgetDeputies 20 = .ok (.iload_n 1, 1) := by decide +kernel
theorem dX2_forgetDeputies_21 : decode cX2_forgetDeputies 21 = .ok (.aaload, 1) := by decide +kernel
theorem dX2_forgetDeputies_22 : decode cX2_forgetDeputies 22 = .ok (.iconst 0, 1) := by decide +kernel
theorem dX2_forgetDeputies_23 : decode cX2_forgetDeputies 23 = .ok (.putfield 88, 3) := by decide +kernel
theorem dX2_forgetDeputies_26 : decode cX2_forgetDeputies 26 = .ok (.iinc 1 1, 3) := by decide +kernel
theorem dX2_forgetDeputies_29 : decode cX2_forgetDeputies 29 = .ok (.goto (-27), 3) := by decide +kernel
theorem dX2_forgetDeputies_32 : decode cX2_forgetDeputies 32 = .ok (.return_, 1) := by decide +kernel
theorem dX2_bandInTurn_0 : decode cX2_bandInTurn 0 = .ok (.aload_n 0, 1) := by decide +kernel
theorem dX2_bandInTurn_1 : decode cX2_bandInTurn 1 = .ok (.getfield 12, 3) := by decide +kernel
theorem dX2_bandInTurn_4 : decode cX2_bandInTurn 4 = .ok (.getfield 21, 3) := by decide +kernel
theorem dX2_bandInTurn_7 : decode cX2_bandInTurn 7 = .ok (.istore_n 2, 1) := by decide +kernel
theorem dX2_bandInTurn_8 : decode cX2_bandInTurn 8 = .ok (.iload_n 2, 1) := by decide +kernel
theorem dX2_bandInTurn_9 : decode cX2_bandInTurn 9 = .ok (.ifCond .le 19, 3) := by decide +kernel
theorem dX2_bandInTurn_12 : decode cX2_bandInTurn 12 = .ok (.aload_n 0, 1) := by decide +kernel
theorem dX2_bandInTurn_13 : decode cX2_bandInTurn 13 = .ok (.getfield 12, 3) := by decide +kernel
theorem dX2_bandInTurn_16 : decode cX2_bandInTurn 16 = .ok (.getfield 70, 3) := by decide +kernel
theorem dX2_bandInTurn_19 : decode cX2_bandInTurn 19 = .ok (.iload_n 2, 1) := by decide +kernel
theorem dX2_bandInTurn_20 : decode cX2_bandInTurn 20 = .ok (.irem, 1) := by decide +kernel
theorem dX2_bandInTurn_21 : decode cX2_bandInTurn 21 = .ok (.iload_n 1, 1) := by decide +kernel
theorem dX2_bandInTurn_22 : decode cX2_bandInTurn 22 = .ok (.iadd, 1) := by decide +kernel
theorem dX2_bandInTurn_23 : decode cX2_bandInTurn 23 = .ok (.iload_n 2, 1) := by decide +kernel
theorem dX2_bandInTurn_24 : decode cX2_bandInTurn 24 = .ok (.irem, 1) := by decide +kernel
theorem dX2_bandInTurn_25 : decode cX2_bandInTurn 25 = .ok (.goto 4, 3) := by decide +kernel
theorem dX2_bandInTurn_28 : decode cX2_bandInTurn 28 = .ok (.iconst (-1), 1) := by decide +kernel
theorem dX2_bandInTurn_29 : decode cX2_bandInTurn 29 = .ok (.ireturn, 1) := by decide +kernel
theorem dX2_play_0 : decode cX2_play 0 = .ok (.aload_n 0, 1) := by decide +kernel
theorem dX2_play_1 : decode cX2_play 1 = .ok (.getfield 12, 3) := by decide +kernel
theorem dX2_play_4 : decode cX2_play 4 = .ok (.iload_n 1, 1) := by decide +kernel
theorem dX2_play_5 : decode cX2_play 5 = .ok (.invokevirtual 73, 3) := by decide +kernel
theorem dX2_play_8 : decode cX2_play 8 = .ok (.astore_n 2, 1) := by decide +kernel
theorem dX2_play_9 : decode cX2_play 9 = .ok (.aload_n 2, 1) := by decide +kernel
theorem dX2_play_10 : decode cX2_play 10 = .ok (.ifnonnull 4, 3) := by decide +kernel
theorem dX2_play_13 : decode cX2_play 13 = .ok (.return_, 1) := by decide +kernel
theorem dX2_play_14 : decode cX2_play 14 = .ok (.aload_n 2, 1) := by decide +kernel
theorem dX2_play_15 : decode cX2_play 15 = .ok (.aload_n 0, 1) := by decide +kernel
theorem dX2_play_16 : decode cX2_play 16 = .ok (.aload_n 2, 1) := by decide +kernel
theorem dX2_play_17 : decode cX2_play 17 = .ok (.invokevirtual 77, 3) := by decide +kernel
theorem dX2_play_20 : decode cX2_play 20 = .ok (.putfield 91, 3) := by decide +kernel
theorem dX2_play_23 : decode cX2_play 23 = .ok (.aload_n 2, 1) := by decide +kernel
theorem dX2_play_24 : decode cX2_play 24 = .ok (.aload_n 2, 1) := by decide +kernel
theorem dX2_play_25 : decode cX2_play 25 = .ok (.invokevirtual 46, 3) := by decide +kernel
theorem dX2_play_28 : decode cX2_play 28 = .ok (.putfield 94, 3) := by decide +kernel
theorem dX2_play_31 : decode cX2_play 31 = .ok (.aload_n 2, 1) := by decide +kernel
theorem dX2_play_32 : decode cX2_play 32 = .ok (.aload_n 2, 1) := by decide +kernel
theorem dX2_play_33 : decode cX2_play 33 = .ok (.invokevirtual 97, 3) := by decide +kernel
theorem dX2_play_36 : decode cX2_play 36 = .ok (.putfield 100, 3) := by decide +kernel
theorem dX2_play_39 : decode cX2_play 39 = .ok (.aload_n 0, 1) := by decide +kernel
theorem dX2_play_40 : decode cX2_play 40 = .ok (.aload_n 2, 1) := by decide +kernel
theorem dX2_play_41 : decode cX2_play 41 = .ok (.invokevirtual 103, 3) := by decide +kernel
theorem dX2_play_44 : decode cX2_play 44 = .ok (.ifCond .eq 13, 3) := by decide +kernel
theorem dX2_play_47 : decode cX2_play 47 = .ok (.aload_n 2, 1) := by decide +kernel
theorem dX2_play_48 : decode cX2_play 48 = .ok (.dup, 1) := by decide +kernel
theorem dX2_play_49 : decode cX2_play 49 = .ok (.getfield 107, 3) := by decide +kernel
theorem dX2_play_52 : decode cX2_play 52 = .ok (.iconst 1, 1) := by decide +kernel
theorem dX2_play_53 : decode cX2_play 53 = .ok (.iadd, 1) := by decide +kernel
theorem dX2_play_54 : decode cX2_play 54 = .ok (.putfield 107, 3) := by decide +kernel
theorem dX2_play_57 : decode cX2_play 57 = .ok (.aload_n 0, 1) := by decide +kernel
theorem dX2_play_58 : decode cX2_play 58 = .ok (.getfield 12, 3) := by decide +kernel
theorem dX2_play_61 : decode cX2_play 61 = .ok (.dup, 1) := by decide +kernel
theorem dX2_play_62 : decode cX2_play 62 = .ok (.getfield 110, 3) := by decide +kernel
theorem dX2_play_65 : decode cX2_play 65 = .ok (.aload_n 2, 1) := by decide +kernel
theorem dX2_play_66 : decode cX2_play 66 = .ok (.getfield 94, 3) := by decide +kernel
theorem dX2_play_69 : decode cX2_play 69 = .ok (.iadd, 1) := by decide +kernel
theorem dX2_play_70 : decode cX2_play 70 = .ok (.putfield 110, 3) := by decide +kernel
theorem dX2_play_73 : decode cX2_play 73 = .ok (.aload_n 0, 1) := by decide +kernel
theorem dX2_play_74 : decode cX2_play 74 = .ok (.getfield 12, 3) := by decide +kernel
theorem dX2_play_77 : decode cX2_play 77 = .ok (.dup, 1) := by decide +kernel
theorem dX2_play_78 : decode cX2_play 78 = .ok (.getfield 111, 3) := by decide +kernel
theorem dX2_play_81 : decode cX2_play 81 = .ok (.aload_n 2, 1) := by decide +kernel
theorem dX2_play_82 : decode cX2_play 82 = .ok (.getfield 100, 3) := by decide +kernel
theorem dX2_play_85 : decode cX2_play 85 = .ok (.iadd, 1) := by decide +kernel
theorem dX2_play_86 : decode cX2_play 86 = .ok (.putfield 111, 3) := by decide +kernel
theorem dX2_play_89 : decode cX2_play 89 = .ok (.aload_n 0, 1) := by decide +kernel
theorem dX2_play_90 : decode cX2_play 90 = .ok (.aload_n 2, 1) := by decide +kernel
theorem dX2_play_91 : decode cX2_play 91 = .ok (.invokevirtual 112, 3) := by decide +kernel
theorem dX2_play_94 : decode cX2_play 94 = .ok (.aload_n 0, 1) := by decide +kernel
theorem dX2_play_95 : decode cX2_play 95 = .ok (.invokevirtual 116, 3) := by decide +kernel
theorem dX2_play_98 : decode cX2_play 98 = .ok (.return_, 1) := by decide +kernel
theorem dX2_marksOnceSeated_0 : decode cX2_marksOnceSeated 0 = .ok (.iconst 0, 1) := by decide +kernel
theorem dX2_marksOnceSeated_1 : decode cX2_marksOnceSeated 1 = .ok (.istore_n 2, 1) := by decide +kernel
theorem dX2_marksOnceSeated_2 : decode cX2_marksOnceSeated 2 = .ok (.iload_n 2, 1) := by decide +kernel
theorem dX2_marksOnceSeated_3 : decode cX2_marksOnceSeated 3 = .ok (.aload_n 0, 1) := by decide +kernel
theorem dX2_marksOnceSeated_4 : decode cX2_marksOnceSeated 4 = .ok (.getfield 12, 3) := by decide +kernel
theorem dX2_marksOnceSeated_7 : decode cX2_marksOnceSeated 7 = .ok (.getfield 52, 3) := by decide +kernel
theorem dX2_marksOnceSeated_10 : decode cX2_marksOnceSeated 10 = .ok (.if_icmp .ge 22, 3) := by decide +kernel
theorem dX2_marksOnceSeated_13 : decode cX2_marksOnceSeated 13 = .ok (.aload_n 0, 1) := by decide +kernel
theorem dX2_marksOnceSeated_14 : decode cX2_marksOnceSeated 14 = .ok (.getfield 12, 3) := by decide +kernel
theorem dX2_marksOnceSeated_17 : decode cX2_marksOnceSeated 17 = .ok (.getfield 55, 3) := by decide +kernel
theorem dX2_marksOnceSeated_20 : decode cX2_marksOnceSeated 20 = .ok (.iload_n 2, 1) := by decide +kernel
theorem dX2_marksOnceSeated_21 : decode cX2_marksOnceSeated 21 = .ok (.aaload, 1) := by decide +kernel
theorem dX2_marksOnceSeated_22 : decode cX2_marksOnceSeated 22 = .ok (.iconst 0, 1) := by decide +kernel
theorem dX2_marksOnceSeated_23 : decode cX2_marksOnceSeated 23 = .ok (.putfield 119, 3) := by decide +kernel
theorem dX2_marksOnceSeated_26 : decode cX2_marksOnceSeated 26 = .ok (.iinc 2 1, 3) := by decide +kernel
theorem dX2_marksOnceSeated_29 : decode cX2_marksOnceSeated 29 = .ok (.goto (-27), 3) := by decide +kernel
theorem dX2_marksOnceSeated_32 : decode cX2_marksOnceSeated 32 = .ok (.aload_n 0, 1) := by decide +kernel
theorem dX2_marksOnceSeated_33 : decode cX2_marksOnceSeated 33 = .ok (.aload_n 1, 1) := by decide +kernel
theorem dX2_marksOnceSeated_34 : decode cX2_marksOnceSeated 34 = .ok (.invokevirtual 123, 3) := by decide +kernel
theorem dX2_marksOnceSeated_37 : decode cX2_marksOnceSeated 37 = .ok (.aload_n 0, 1) := by decide +kernel
theorem dX2_marksOnceSeated_38 : decode cX2_marksOnceSeated 38 = .ok (.aload_n 1, 1) := by decide +kernel
theorem dX2_marksOnceSeated_39 : decode cX2_marksOnceSeated 39 = .ok (.invokevirtual 126, 3) := by decide +kernel
theorem dX2_marksOnceSeated_42 : decode cX2_marksOnceSeated 42 = .ok (.aload_n 0, 1) := by decide +kernel
theorem dX2_marksOnceSeated_43 : decode cX2_marksOnceSeated 43 = .ok (.aload_n 1, 1) := by decide +kernel
theorem dX2_marksOnceSeated_44 : decode cX2_marksOnceSeated 44 = .ok (.invokevirtual 103, 3) := by decide +kernel
theorem dX2_marksOnceSeated_47 : decode cX2_marksOnceSeated 47 = .ok (.ifCond .eq 7, 3) := by decide +kernel
theorem dX2_marksOnceSeated_50 : decode cX2_marksOnceSeated 50 = .ok (.iconst 0, 1) := by decide +kernel
theorem dX2_marksOnceSeated_51 : decode cX2_marksOnceSeated 51 = .ok (.goto 12, 3) := by decide +kernel
theorem dX2_marksOnceSeated_54 : decode cX2_marksOnceSeated 54 = .ok (.iconst 0, 1) := by decide +kernel
theorem dX2_marksOnceSeated_55 : decode cX2_marksOnceSeated 55 = .ok (.aload_n 0, 1) := by decide +kernel
theorem dX2_marksOnceSeated_56 : decode cX2_marksOnceSeated 56 = .ok (.aload_n 1, 1) := by decide +kernel
theorem dX2_marksOnceSeated_57 : decode cX2_marksOnceSeated 57 = .ok (.invokevirtual 129, 3) := by decide +kernel
theorem dX2_marksOnceSeated_60 : decode cX2_marksOnceSeated 60 = .ok (.invokestatic 64, 3) := by decide +kernel
theorem dX2_marksOnceSeated_63 : decode cX2_marksOnceSeated 63 = .ok (.ireturn, 1) := by decide +kernel
theorem dX2_seatMembers_0 : decode cX2_seatMembers 0 = .ok (.iconst 0, 1) := by decide +kernel
theorem dX2_seatMembers_1 : decode cX2_seatMembers 1 = .ok (.istore_n 2, 1) := by decide +kernel
theorem dX2_seatMembers_2 : decode cX2_seatMembers 2 = .ok (.iload_n 2, 1) := by decide +kernel
theorem dX2_seatMembers_3 : decode cX2_seatMembers 3 = .ok (.aload_n 1, 1) := by decide +kernel
theorem dX2_seatMembers_4 : decode cX2_seatMembers 4 = .ok (.getfield 81, 3) := by decide +kernel
theorem dX2_seatMembers_7 : decode cX2_seatMembers 7 = .ok (.if_icmp .ge 61, 3) := by decide +kernel
theorem dX2_seatMembers_10 : decode cX2_seatMembers 10 = .ok (.aload_n 1, 1) := by decide +kernel
theorem dX2_seatMembers_11 : decode cX2_seatMembers 11 = .ok (.getfield 132, 3) := by decide +kernel
theorem dX2_seatMembers_14 : decode cX2_seatMembers 14 = .ok (.iload_n 2, 1) := by decide +kernel
theorem dX2_seatMembers_15 : decode cX2_seatMembers 15 = .ok (.aaload, 1) := by decide +kernel
theorem dX2_seatMembers_16 : decode cX2_seatMembers 16 = .ok (.astore_n 3, 1) := by decide +kernel
theorem dX2_seatMembers_17 : decode cX2_seatMembers 17 = .ok (.aload_n 0, 1) := by decide +kernel
theorem dX2_seatMembers_18 : decode cX2_seatMembers 18 = .ok (.getfield 12, 3) := by decide +kernel
theorem dX2_seatMembers_21 : decode cX2_seatMembers 21 = .ok (.aload_n 3, 1) := by decide +kernel
theorem dX2_seatMembers_22 : decode cX2_seatMembers 22 = .ok (.getfield 136, 3) := by decide +kernel
theorem dX2_seatMembers_25 : decode cX2_seatMembers 25 = .ok (.invokevirtual 141, 3) := by decide +kernel
theorem dX2_seatMembers_28 : decode cX2_seatMembers 28 = .ok (.astore 4, 2) := by decide +kernel
theorem dX2_seatMembers_30 : decode cX2_seatMembers 30 = .ok (.aload_n 3, 1) := by decide +kernel
theorem dX2_seatMembers_31 : decode cX2_seatMembers 31 = .ok (.iconst (-1), 1) := by decide +kernel
theorem dX2_seatMembers_32 : decode cX2_seatMembers 32 = .ok (.putfield 145, 3) := by decide +kernel
theorem dX2_seatMembers_35 : decode cX2_seatMembers 35 = .ok (.aload 4, 2) := by decide +kernel
theorem dX2_seatMembers_37 : decode cX2_seatMembers 37 = .ok (.ifnull 25, 3) := by decide +kernel
theorem dX2_seatMembers_40 : decode cX2_seatMembers 40 = .ok (.aload 4, 2) := by decide +kernel
theorem dX2_seatMembers_42 : decode cX2_seatMembers 42 = .ok (.invokevirtual 148, 3) := by decide +kernel
theorem dX2_seatMembers_45 : decode cX2_seatMembers 45 = .ok (.ifCond .eq 17, 3) := by decide +kernel
theorem dX2_seatMembers_48 : decode cX2_seatMembers 48 = .ok (.aload_n 3, 1) := by decide +kernel
theorem dX2_seatMembers_49 : decode cX2_seatMembers 49 = .ok (.aload_n 3, 1) := by decide +kernel
theorem dX2_seatMembers_50 : decode cX2_seatMembers 50 = .ok (.getfield 136, 3) := by decide +kernel
theorem dX2_seatMembers_53 : decode cX2_seatMembers 53 = .ok (.putfield 145, 3) := by decide +kernel
theorem dX2_seatMembers_56 : decode cX2_seatMembers 56 = .ok (.aload 4, 2) := by decide +kernel
theorem dX2_seatMembers_58 : decode cX2_seatMembers 58 = .ok (.iconst 1, 1) := by decide +kernel
theorem dX2_seatMembers_59 : decode cX2_seatMembers 59 = .ok (.putfield 119, 3) := by decide +kernel
theorem dX2_seatMembers_62 : decode cX2_seatMembers 62 = .ok (.iinc 2 1, 3) := by decide +kernel
theorem dX2_seatMembers_65 : decode cX2_seatMembers 65 = .ok (.goto (-63), 3) := by decide +kernel
theorem dX2_seatMembers_68 : decode cX2_seatMembers 68 = .ok (.return_, 1) := by decide +kernel
theorem dX2_seatDeputies_0 : decode cX2_seatDeputies 0 = .ok (.iconst 0, 1) := by decide +kernel
theorem dX2_seatDeputies_1 : decode cX2_seatDeputies 1 = .ok (.istore_n 2, 1) := by decide +kernel
theorem dX2_seatDeputies_2 : decode cX2_seatDeputies 2 = .ok (.iload_n 2, 1) := by decide +kernel
theorem dX2_seatDeputies_3 : decode cX2_seatDeputies 3 = .ok (.aload_n 1, 1) := by decide +kernel
theorem dX2_seatDeputies_4 : decode cX2_seatDeputies 4 = .ok (.getfield 81, 3) := by decide +kernel
theorem dX2_seatDeputies_7 : decode cX2_seatDeputies 7 = .ok (.if_icmp .ge 56, 3) := by decide +kernel
theorem dX2_seatDeputies_10 : decode cX2_seatDeputies 10 = .ok (.aload_n 1, 1) := by decide +kernel
theorem dX2_seatDeputies_11 : decode cX2_seatDeputies 11 = .ok (.getfield 132, 3) := by decide +kernel
theorem dX2_seatDeputies_14 : decode cX2_seatDeputies 14 = .ok (.iload_n 2, 1) := by decide +kernel
theorem dX2_seatDeputies_15 : decode cX2_seatDeputies 15 = .ok (.aaload, 1) := by decide +kernel
theorem dX2_seatDeputies_16 : decode cX2_seatDeputies 16 = .ok (.astore_n 3, 1) := by decide +kernel
theorem dX2_seatDeputies_17 : decode cX2_seatDeputies 17 = .ok (.aload_n 3, 1) := by decide +kernel
theorem dX2_seatDeputies_18 : decode cX2_seatDeputies 18 = .ok (.invokevirtual 152, 3) := by decide +kernel
theorem dX2_seatDeputies_21 : decode cX2_seatDeputies 21 = .ok (.ifCond .eq 36, 3) := by decide +kernel
theorem dX2_seatDeputies_24 : decode cX2_seatDeputies 24 = .ok (.aload_n 3, 1) := by decide +kernel
theorem dX2_seatDeputies_25 : decode cX2_seatDeputies 25 = .ok (.aload_n 0, 1) := by decide +kernel
theorem dX2_seatDeputies_26 : decode cX2_seatDeputies 26 = .ok (.aload_n 3, 1) := by decide +kernel
theorem dX2_seatDeputies_27 : decode cX2_seatDeputies 27 = .ok (.invokevirtual 155, 3) := by decide +kernel
theorem dX2_seatDeputies_30 : decode cX2_seatDeputies 30 = .ok (.putfield 145, 3) := by decide +kernel
theorem dX2_seatDeputies_33 : decode cX2_seatDeputies 33 = .ok (.aload_n 0, 1) := by decide +kernel
theorem dX2_seatDeputies_34 : decode cX2_seatDeputies 34 = .ok (.getfield 12, 3) := by decide +kernel
theorem dX2_seatDeputies_37 : decode cX2_seatDeputies 37 = .ok (.aload_n 3, 1) := by decide +kernel
theorem dX2_seatDeputies_38 : decode cX2_seatDeputies 38 = .ok (.getfield 145, 3) := by decide +kernel
theorem dX2_seatDeputies_41 : decode cX2_seatDeputies 41 = .ok (.invokevirtual 141, 3) := by decide +kernel
theorem dX2_seatDeputies_44 : decode cX2_seatDeputies 44 = .ok (.astore 4, 2) := by decide +kernel
theorem dX2_seatDeputies_46 : decode cX2_seatDeputies 46 = .ok (.aload 4, 2) := by decide +kernel
theorem dX2_seatDeputies_48 : decode cX2_seatDeputies 48 = .ok (.ifnull 9, 3) := by decide +kernel
theorem dX2_seatDeputies_51 : decode cX2_seatDeputies 51 = .ok (.aload 4, 2) := by decide +kernel
theorem dX2_seatDeputies_53 : decode cX2_seatDeputies 53 = .ok (.iconst 1, 1) := by decide +kernel
theorem dX2_seatDeputies_54 : decode cX2_seatDeputies 54 = .ok (.putfield 119, 3) := by decide +kernel
theorem dX2_seatDeputies_57 : decode cX2_seatDeputies 57 = .ok (.iinc 2 1, 3) := by decide +kernel
theorem dX2_seatDeputies_60 : decode cX2_seatDeputies 60 = .ok (.goto (-58), 3) := by decide +kernel
theorem dX2_seatDeputies_63 : decode cX2_seatDeputies 63 = .ok (.return_, 1) := by decide +kernel
theorem dX2_deputyFor_0 : decode cX2_deputyFor 0 = .ok (.aload_n 0, 1) := by decide +kernel
theorem dX2_deputyFor_1 : decode cX2_deputyFor 1 = .ok (.getfield 12, 3) := by decide +kernel
theorem dX2_deputyFor_4 : decode cX2_deputyFor 4 = .ok (.aload_n 1, 1) := by decide +kernel
theorem dX2_deputyFor_5 : decode cX2_deputyFor 5 = .ok (.getfield 136, 3) := by decide +kernel
theorem dX2_deputyFor_8 : decode cX2_deputyFor 8 = .ok (.invokevirtual 141, 3) := by decide +kernel
theorem dX2_deputyFor_11 : decode cX2_deputyFor 11 = .ok (.astore_n 2, 1) := by decide +kernel
theorem dX2_deputyFor_12 : decode cX2_deputyFor 12 = .ok (.aload_n 2, 1) := by decide +kernel
theorem dX2_deputyFor_13 : decode cX2_deputyFor 13 = .ok (.ifnonnull 7, 3) := by decide +kernel
theorem dX2_deputyFor_16 : decode cX2_deputyFor 16 = .ok (.iconst 5, 1) := by decide +kernel
theorem dX2_deputyFor_17 : decode cX2_deputyFor 17 = .ok (.goto 13, 3) := by decide +kernel
theorem dX2_deputyFor_20 : decode cX2_deputyFor 20 = .ok (.aload_n 2, 1) := by decide +kernel
theorem dX2_deputyFor_21 : decode cX2_deputyFor 21 = .ok (.aload_n 1, 1) := by decide +kernel
theorem dX2_deputyFor_22 : decode cX2_deputyFor 22 = .ok (.getfield 159, 3) := by decide +kernel
theorem dX2_deputyFor_25 : decode cX2_deputyFor 25 = .ok (.invokevirtual 162, 3) := by decide +kernel
theorem dX2_deputyFor_28 : decode cX2_deputyFor 28 = .ok (.iconst 1, 1) := by decide +kernel
theorem dX2_deputyFor_29 : decode cX2_deputyFor 29 = .ok (.iadd, 1) := by decide +kernel
theorem dX2_deputyFor_30 : decode cX2_deputyFor 30 = .ok (.istore_n 3, 1) := by decide +kernel
theorem dX2_deputyFor_31 : decode cX2_deputyFor 31 = .ok (.iconst (-1), 1) := by decide +kernel
theorem dX2_deputyFor_32 : decode cX2_deputyFor 32 = .ok (.istore 4, 2) := by decide +kernel
theorem dX2_deputyFor_34 : decode cX2_deputyFor 34 = .ok (.iconst (-1), 1) := by decide +kernel
theorem dX2_deputyFor_35 : decode cX2_deputyFor 35 = .ok (.istore 5, 2) := by decide +kernel
theorem dX2_deputyFor_37 : decode cX2_deputyFor 37 = .ok (.iconst 0, 1) := by decide +kernel
theorem dX2_deputyFor_38 : decode cX2_deputyFor 38 = .ok (.istore 6, 2) := by decide +kernel
theorem dX2_deputyFor_40 : decode cX2_deputyFor 40 = .ok (.iconst 0, 1) := by decide +kernel
theorem dX2_deputyFor_41 : decode cX2_deputyFor 41 = .ok (.istore 7, 2) := by decide +kernel
theorem dX2_deputyFor_43 : decode cX2_deputyFor 43 = .ok (.iload 7, 2) := by decide +kernel
theorem dX2_deputyFor_45 : decode cX2_deputyFor 45 = .ok (.aload_n 0, 1) := by decide +kernel
theorem dX2_deputyFor_46 : decode cX2_deputyFor 46 = .ok (.getfield 12, 3) := by decide +kernel
theorem dX2_deputyFor_49 : decode cX2_deputyFor 49 = .ok (.getfield 52, 3) := by decide +kernel
theorem dX2_deputyFor_52 : decode cX2_deputyFor 52 = .ok (.if_icmp .ge 109, 3) := by decide +kernel
theorem dX2_deputyFor_55 : decode cX2_deputyFor 55 = .ok (.aload_n 0, 1) := by decide +kernel
theorem dX2_deputyFor_56 : decode cX2_deputyFor 56 = .ok (.getfield 12, 3) := by decide +kernel
theorem dX2_deputyFor_59 : decode cX2_deputyFor 59 = .ok (.getfield 55, 3) := by decide +kernel
theorem dX2_deputyFor_62 : decode cX2_deputyFor 62 = .ok (.iload 7, 2) := by decide +kernel
theorem dX2_deputyFor_64 : decode cX2_deputyFor 64 = .ok (.aaload, 1) := by decide +kernel
theorem dX2_deputyFor_65 : decode cX2_deputyFor 65 = .ok (.astore 8, 2) := by decide +kernel
theorem dX2_deputyFor_67 : decode cX2_deputyFor 67 = .ok (.aload 8, 2) := by decide +kernel
theorem dX2_deputyFor_69 : decode cX2_deputyFor 69 = .ok (.aload_n 1, 1) := by decide +kernel
theorem dX2_deputyFor_70 : decode cX2_deputyFor 70 = .ok (.getfield 159, 3) := by decide +kernel
theorem dX2_deputyFor_73 : decode cX2_deputyFor 73 = .ok (.invokevirtual 162, 3) := by decide +kernel
theorem dX2_deputyFor_76 : decode cX2_deputyFor 76 = .ok (.istore 9, 2) := by decide +kernel
theorem dX2_deputyFor_78 : decode cX2_deputyFor 78 = .ok (.aload 8, 2) := by decide +kernel
theorem dX2_deputyFor_80 : decode cX2_deputyFor 80 = .ok (.invokevirtual 165, 3) := by decide +kernel
theorem dX2_deputyFor_83 : decode cX2_deputyFor 83 = .ok (.ifCond .eq 13, 3) := by decide +kernel
theorem dX2_deputyFor_86 : decode cX2_deputyFor 86 = .ok (.iload 9, 2) := by decide +kernel
theorem dX2_deputyFor_88 : decode cX2_deputyFor 88 = .ok (.iload_n 3, 1) := by decide +kernel
theorem dX2_deputyFor_89 : decode cX2_deputyFor 89 = .ok (.if_icmp .gt 7, 3) := by decide +kernel
theorem dX2_deputyFor_92 : decode cX2_deputyFor 92 = .ok (.iconst 1, 1) := by decide +kernel
theorem dX2_deputyFor_93 : decode cX2_deputyFor 93 = .ok (.goto 4, 3) := by decide +kernel
theorem dX2_deputyFor_96 : decode cX2_deputyFor 96 = .ok (.iconst 0, 1) := by decide +kernel
theorem dX2_deputyFor_97 : decode cX2_deputyFor 97 = .ok (.istore 10, 2) := by decide +kernel
theorem dX2_deputyFor_99 : decode cX2_deputyFor 99 = .ok (.iload 9, 2) := by decide +kernel
theorem dX2_deputyFor_101 : decode cX2_deputyFor 101 = .ok (.iload 5, 2) := by decide +kernel
theorem dX2_deputyFor_103 : decode cX2_deputyFor 103 = .ok (.if_icmp .gt 20, 3) := by decide +kernel
theorem dX2_deputyFor_106 : decode cX2_deputyFor 106 = .ok (.iload 9, 2) := by decide +kernel
theorem dX2_deputyFor_108 : decode cX2_deputyFor 108 = .ok (.iload 5, 2) := by decide +kernel
theorem dX2_deputyFor_110 : decode cX2_deputyFor 110 = .ok (.if_icmp .ne 17, 3) := by decide +kernel
theorem dX2_deputyFor_113 : decode cX2_deputyFor 113 = .ok (.aload 8, 2) := by decide +kernel
theorem dX2_deputyFor_115 : decode cX2_deputyFor 115 = .ok (.getfield 168, 3) := by decide +kernel
theorem dX2_deputyFor_118 : decode cX2_deputyFor 118 = .ok (.iload 6, 2) := by decide +kernel
theorem dX2_deputyFor_120 : decode cX2_deputyFor 120 = .ok (.if_icmp .ge 7, 3) := by decide +kernel
theorem dX2_deputyFor_123 : decode cX2_deputyFor 123 = .ok (.iconst 1, 1) := by decide +kernel
theorem dX2_deputyFor_124 : decode cX2_deputyFor 124 = .ok (.goto 4, 3) := by decide +kernel
theorem dX2_deputyFor_127 : decode cX2_deputyFor 127 = .ok (.iconst 0, 1) := by decide +kernel
theorem dX2_deputyFor_128 : decode cX2_deputyFor 128 = .ok (.istore 11, 2) := by decide +kernel
theorem dX2_deputyFor_130 : decode cX2_deputyFor 130 = .ok (.iload 10, 2) := by decide +kernel
theorem dX2_deputyFor_132 : decode cX2_deputyFor 132 = .ok (.ifCond .eq 23, 3) := by decide +kernel
theorem dX2_deputyFor_135 : decode cX2_deputyFor 135 = .ok (.iload 11, 2) := by decide +kernel
theorem dX2_deputyFor_137 : decode cX2_deputyFor 137 = .ok (.ifCond .eq 18, 3) := by decide +kernel
theorem dX2_deputyFor_140 : decode cX2_deputyFor 140 = .ok (.iload 7, 2) := by decide +kernel
theorem dX2_deputyFor_142 : decode cX2_deputyFor 142 = .ok (.istore 4, 2) := by decide +kernel
theorem dX2_deputyFor_144 : decode cX2_deputyFor 144 = .ok (.iload 9, 2) := by decide +kernel
theorem dX2_deputyFor_146 : decode cX2_deputyFor 146 = .ok (.istore 5, 2) := by decide +kernel
theorem dX2_deputyFor_148 : decode cX2_deputyFor 148 = .ok (.aload 8, 2) := by decide +kernel
theorem dX2_deputyFor_150 : decode cX2_deputyFor 150 = .ok (.getfield 168, 3) := by decide +kernel
theorem dX2_deputyFor_153 : decode cX2_deputyFor 153 = .ok (.istore 6, 2) := by decide +kernel
theorem dX2_deputyFor_155 : decode cX2_deputyFor 155 = .ok (.iinc 7 1, 3) := by decide +kernel
theorem dX2_deputyFor_158 : decode cX2_deputyFor 158 = .ok (.goto (-115), 3) := by decide +kernel
theorem dX2_deputyFor_161 : decode cX2_deputyFor 161 = .ok (.iload 4, 2) := by decide +kernel
theorem dX2_deputyFor_163 : decode cX2_deputyFor 163 = .ok (.ireturn, 1) := by decide +kernel
theorem dX2_isOut_0 : decode cX2_isOut 0 = .ok (.aload_n 1, 1) := by decide +kernel
theorem dX2_isOut_1 : decode cX2_isOut 1 = .ok (.invokevirtual 46, 3) := by decide +kernel
theorem dX2_isOut_4 : decode cX2_isOut 4 = .ok (.iconst 3, 1) := by decide +kernel
theorem dX2_isOut_5 : decode cX2_isOut 5 = .ok (.if_icmp .le 7, 3) := by decide +kernel
theorem dX2_isOut_8 : decode cX2_isOut 8 = .ok (.iconst 1, 1) := by decide +kernel
theorem dX2_isOut_9 : decode cX2_isOut 9 = .ok (.goto 4, 3) := by decide +kernel
theorem dX2_isOut_12 : decode cX2_isOut 12 = .ok (.iconst 0, 1) := by decide +kernel
theorem dX2_isOut_13 : decode cX2_isOut 13 = .ok (.ireturn, 1) := by decide +kernel
theorem dX2_marksAsSeated_0 : decode cX2_marksAsSeated 0 = .ok (.aload_n 1, 1) := by decide +kernel
theorem dX2_marksAsSeated_1 : decode cX2_marksAsSeated 1 = .ok (.getfield 171, 3) := by decide +kernel
theorem dX2_marksAsSeated_4 : decode cX2_marksAsSeated 4 = .ok (.iconst 5, 1) := by decide +kernel
theorem dX2_marksAsSeated_5 : decode cX2_marksAsSeated 5 = .ok (.idiv, 1) := by decide +kernel
theorem dX2_marksAsSeated_6 : decode cX2_marksAsSeated 6 = .ok (.istore_n 2, 1) := by decide +kernel
theorem dX2_marksAsSeated_7 : decode cX2_marksAsSeated 7 = .ok (.iconst 0, 1) := by decide +kernel
theorem dX2_marksAsSeated_8 : decode cX2_marksAsSeated 8 = .ok (.istore_n 3, 1) := by decide +kernel
theorem dX2_marksAsSeated_9 : decode cX2_marksAsSeated 9 = .ok (.iload_n 3, 1) := by decide +kernel
theorem dX2_marksAsSeated_10 : decode cX2_marksAsSeated 10 = .ok (.aload_n 1, 1) := by decide +kernel
theorem dX2_marksAsSeated_11 : decode cX2_marksAsSeated 11 = .ok (.getfield 81, 3) := by decide +kernel
theorem dX2_marksAsSeated_14 : decode cX2_marksAsSeated 14 = .ok (.if_icmp .ge 67, 3) := by decide +kernel
theorem dX2_marksAsSeated_17 : decode cX2_marksAsSeated 17 = .ok (.aload_n 1, 1) := by decide +kernel
theorem dX2_marksAsSeated_18 : decode cX2_marksAsSeated 18 = .ok (.getfield 132, 3) := by decide +kernel
theorem dX2_marksAsSeated_21 : decode cX2_marksAsSeated 21 = .ok (.iload_n 3, 1) := by decide +kernel
theorem dX2_marksAsSeated_22 : decode cX2_marksAsSeated 22 = .ok (.aaload, 1) := by decide +kernel
theorem dX2_marksAsSeated_23 : decode cX2_marksAsSeated 23 = .ok (.astore 4, 2) := by decide +kernel
theorem dX2_marksAsSeated_25 : decode cX2_marksAsSeated 25 = .ok (.aload_n 0, 1) := by decide +kernel
theorem dX2_marksAsSeated_26 : decode cX2_marksAsSeated 26 = .ok (.getfield 12, 3) := by decide +kernel
theorem dX2_marksAsSeated_29 : decode cX2_marksAsSeated 29 = .ok (.aload 4, 2) := by decide +kernel
theorem dX2_marksAsSeated_31 : decode cX2_marksAsSeated 31 = .ok (.getfield 145, 3) := by decide +kernel
theorem dX2_marksAsSeated_34 : decode cX2_marksAsSeated 34 = .ok (.invokevirtual 141, 3) := by decide +kernel
theorem dX2_marksAsSeated_37 : decode cX2_marksAsSeated 37 = .ok (.astore 5, 2) := by decide +kernel
theorem dX2_marksAsSeated_39 : decode cX2_marksAsSeated 39 = .ok (.aload 5, 2) := by decide +kernel
theorem dX2_marksAsSeated_41 : decode cX2_marksAsSeated 41 = .ok (.ifnonnull 9, 3) := by decide +kernel
theorem dX2_marksAsSeated_44 : decode cX2_marksAsSeated 44 = .ok (.iinc 2 (-5), 3) := by decide +kernel
theorem dX2_marksAsSeated_47 : decode cX2_marksAsSeated 47 = .ok (.goto 17, 3) := by decide +kernel
theorem dX2_marksAsSeated_50 : decode cX2_marksAsSeated 50 = .ok (.iload_n 2, 1) := by decide +kernel
theorem dX2_marksAsSeated_51 : decode cX2_marksAsSeated 51 = .ok (.aload_n 0, 1) := by decide +kernel
theorem dX2_marksAsSeated_52 : decode cX2_marksAsSeated 52 = .ok (.aload 5, 2) := by decide +kernel
theorem dX2_marksAsSeated_54 : decode cX2_marksAsSeated 54 = .ok (.aload 4, 2) := by decide +kernel
theorem dX2_marksAsSeated_56 : decode cX2_marksAsSeated 56 = .ok (.getfield 159, 3) := by decide +kernel
theorem dX2_marksAsSeated_59 : decode cX2_marksAsSeated 59 = .ok (.invokevirtual 174, 3) := by decide +kernel
theorem dX2_marksAsSeated_62 : decode cX2_marksAsSeated 62 = .ok (.iadd, 1) := by decide +kernel
theorem dX2_marksAsSeated_63 : decode cX2_marksAsSeated 63 = .ok (.istore_n 2, 1) := by decide +kernel
theorem dX2_marksAsSeated_64 : decode cX2_marksAsSeated 64 = .ok (.aload 4, 2) := by decide +kernel
theorem dX2_marksAsSeated_66 : decode cX2_marksAsSeated 66 = .ok (.invokevirtual 178, 3) := by decide +kernel
theorem dX2_marksAsSeated_69 : decode cX2_marksAsSeated 69 = .ok (.ifCond .eq 6, 3) := by decide +kernel
theorem dX2_marksAsSeated_72 : decode cX2_marksAsSeated 72 = .ok (.iinc 2 1, 3) := by decide +kernel
theorem dX2_marksAsSeated_75 : decode cX2_marksAsSeated 75 = .ok (.iinc 3 1, 3) := by decide +kernel
theorem dX2_marksAsSeated_78 : decode cX2_marksAsSeated 78 = .ok (.goto (-69), 3) := by decide +kernel
theorem dX2_marksAsSeated_81 : decode cX2_marksAsSeated 81 = .ok (.iload_n 2, 1) := by decide +kernel
theorem dX2_marksAsSeated_82 : decode cX2_marksAsSeated 82 = .ok (.ireturn, 1) := by decide +kernel
theorem dX2_marksFor_0 : decode cX2_marksFor 0 = .ok (.bipush 10, 2) := by decide +kernel
theorem dX2_marksFor_2 : decode cX2_marksFor 2 = .ok (.aload_n 1, 1) := by decide +kernel
theorem dX2_marksFor_3 : decode cX2_marksFor 3 = .ok (.iload_n 2, 1) := by decide +kernel
theorem dX2_marksFor_4 : decode cX2_marksFor 4 = .ok (.invokevirtual 162, 3) := by decide +kernel
theorem dX2_marksFor_7 : decode cX2_marksFor 7 = .ok (.iadd, 1) := by decide +kernel
theorem dX2_marksFor_8 : decode cX2_marksFor 8 = .ok (.aload_n 0, 1) := by decide +kernel
theorem dX2_marksFor_9 : decode cX2_marksFor 9 = .ok (.getfield 12, 3) := by decide +kernel
theorem dX2_marksFor_12 : decode cX2_marksFor 12 = .ok (.iload_n 2, 1) := by decide +kernel
theorem dX2_marksFor_13 : decode cX2_marksFor 13 = .ok (.invokevirtual 181, 3) := by decide +kernel
theorem dX2_marksFor_16 : decode cX2_marksFor 16 = .ok (.isub, 1) := by decide +kernel
theorem dX2_marksFor_17 : decode cX2_marksFor 17 = .ok (.aload_n 1, 1) := by decide +kernel
theorem dX2_marksFor_18 : decode cX2_marksFor 18 = .ok (.getfield 168, 3) := by decide +kernel
theorem dX2_marksFor_21 : decode cX2_marksFor 21 = .ok (.bipush 20, 2) := by decide +kernel
theorem dX2_marksFor_23 : decode cX2_marksFor 23 = .ok (.idiv, 1) := by decide +kernel
theorem dX2_marksFor_24 : decode cX2_marksFor 24 = .ok (.isub, 1) := by decide +kernel
theorem dX2_marksFor_25 : decode cX2_marksFor 25 = .ok (.istore_n 3, 1) := by decide +kernel
theorem dX2_marksFor_26 : decode cX2_marksFor 26 = .ok (.iconst 0, 1) := by decide +kernel
theorem dX2_marksFor_27 : decode cX2_marksFor 27 = .ok (.iload_n 3, 1) := by decide +kernel
theorem dX2_marksFor_28 : decode cX2_marksFor 28 = .ok (.invokestatic 64, 3) := by decide +kernel
theorem dX2_marksFor_31 : decode cX2_marksFor 31 = .ok (.aload_n 0, 1) := by decide +kernel
theorem dX2_marksFor_32 : decode cX2_marksFor 32 = .ok (.getfield 12, 3) := by decide +kernel
theorem dX2_marksFor_35 : decode cX2_marksFor 35 = .ok (.iload_n 2, 1) := by decide +kernel
theorem dX2_marksFor_36 : decode cX2_marksFor 36 = .ok (.invokevirtual 184, 3) := by decide +kernel
theorem dX2_marksFor_39 : decode cX2_marksFor 39 = .ok (.imul, 1) := by decide +kernel
theorem dX2_marksFor_40 : decode cX2_marksFor 40 = .ok (.ireturn, 1) := by decide +kernel
theorem dX2_noteSittings_0 : decode cX2_noteSittings 0 = .ok (.iconst 0, 1) := by decide +kernel
theorem dX2_noteSittings_1 : decode cX2_noteSittings 1 = .ok (.istore_n 2, 1) := by decide +kernel
theorem dX2_noteSittings_2 : decode cX2_noteSittings 2 = .ok (.iload_n 2, 1) := by decide +kernel
theorem dX2_noteSittings_3 : decode cX2_noteSittings 3 = .ok (.aload_n 1, 1) := by decide +kernel
theorem dX2_noteSittings_4 : decode cX2_noteSittings 4 = .ok (.getfield 81, 3) := by decide +kernel
theorem dX2_noteSittings_7 : decode cX2_noteSittings 7 = .ok (.if_icmp .ge 77, 3) := by decide +kernel
theorem dX2_noteSittings_10 : decode cX2_noteSittings 10 = .ok (.aload_n 1, 1) := by decide +kernel
theorem dX2_noteSittings_11 : decode cX2_noteSittings 11 = .ok (.getfield 132, 3) := by decide +kernel
theorem dX2_noteSittings_14 : decode cX2_noteSittings 14 = .ok (.iload_n 2, 1) := by decide +kernel
theorem dX2_noteSittings_15 : decode cX2_noteSittings 15 = .ok (.aaload, 1) := by decide +kernel
theorem dX2_noteSittings_16 : decode cX2_noteSittings 16 = .ok (.astore_n 3, 1) := by decide +kernel
theorem dX2_noteSittings_17 : decode cX2_noteSittings 17 = .ok (.aload_n 0, 1) := by decide +kernel
theorem dX2_noteSittings_18 : decode cX2_noteSittings 18 = .ok (.getfield 12, 3) := by decide +kernel
theorem dX2_noteSittings_21 : decode cX2_noteSittings 21 = .ok (.aload_n 3, 1) := by decide +kernel
theorem dX2_noteSittings_22 : decode cX2_noteSittings 22 = .ok (.getfield 145, 3) := by decide +kernel
theorem dX2_noteSittings_25 : decode cX2_noteSittings 25 = .ok (.invokevirtual 141, 3) := by decide +kernel
theorem dX2_noteSittings_28 : decode cX2_noteSittings 28 = .ok (.astore 4, 2) := by decide +kernel
theorem dX2_noteSittings_30 : decode cX2_noteSittings 30 = .ok (.aload 4, 2) := by decide +kernel
theorem dX2_noteSittings_32 : decode cX2_noteSittings 32 = .ok (.ifnonnull 6, 3) := by decide +kernel
theorem dX2_noteSittings_35 : decode cX2_noteSittings 35 = .ok (.goto 43, 3) := by decide +kernel
theorem dX2_noteSittings_38 : decode cX2_noteSittings 38 = .ok (.aload 4, 2) := by decide +kernel
theorem dX2_noteSittings_40 : decode cX2_noteSittings 40 = .ok (.dup, 1) := by decide +kernel
theorem dX2_noteSittings_41 : decode cX2_noteSittings 41 = .ok (.getfield 187, 3) := by decide +kernel
theorem dX2_noteSittings_44 : decode cX2_noteSittings 44 = .ok (.iconst 1, 1) := by decide +kernel
theorem dX2_noteSittings_45 : decode cX2_noteSittings 45 = .ok (.iadd, 1) := by decide +kernel
theorem dX2_noteSittings_46 : decode cX2_noteSittings 46 = .ok (.putfield 187, 3) := by decide +kernel
theorem dX2_noteSittings_49 : decode cX2_noteSittings 49 = .ok (.aload_n 3, 1) := by decide +kernel
theorem dX2_noteSittings_50 : decode cX2_noteSittings 50 = .ok (.invokevirtual 190, 3) := by decide +kernel
theorem dX2_noteSittings_53 : decode cX2_noteSittings 53 = .ok (.ifCond .eq 25, 3) := by decide +kernel
theorem dX2_noteSittings_56 : decode cX2_noteSittings 56 = .ok (.aload 4, 2) := by decide +kernel
theorem dX2_noteSittings_58 : decode cX2_noteSittings 58 = .ok (.dup, 1) := by decide +kernel
theorem dX2_noteSittings_59 : decode cX2_noteSittings 59 = .ok (.getfield 193, 3) := by decide +kernel
theorem dX2_noteSittings_62 : decode cX2_noteSittings 62 = .ok (.iconst 1, 1) := by decide +kernel
theorem dX2_noteSittings_63 : decode cX2_noteSittings 63 = .ok (.iadd, 1) := by decide +kernel
theorem dX2_noteSittings_64 : decode cX2_noteSittings 64 = .ok (.putfield 193, 3) := by decide +kernel
theorem dX2_noteSittings_67 : decode cX2_noteSittings 67 = .ok (.aload 4, 2) := by decide +kernel
theorem dX2_noteSittings_69 : decode cX2_noteSittings 69 = .ok (.dup, 1) := by decide +kernel
theorem dX2_noteSittings_70 : decode cX2_noteSittings 70 = .ok (.getfield 88, 3) := by decide +kernel
theorem dX2_noteSittings_73 : decode cX2_noteSittings 73 = .ok (.iconst 1, 1) := by decide +kernel
theorem dX2_noteSittings_74 : decode cX2_noteSittings 74 = .ok (.iadd, 1) := by decide +kernel
theorem dX2_noteSittings_75 : decode cX2_noteSittings 75 = .ok (.putfield 88, 3) := by decide +kernel
theorem dX2_noteSittings_78 : decode cX2_noteSittings 78 = .ok (.iinc 2 1, 3) := by decide +kernel
theorem dX2_noteSittings_81 : decode cX2_noteSittings 81 = .ok (.goto (-79), 3) := by decide +kernel
theorem dX2_noteSittings_84 : decode cX2_noteSittings 84 = .ok (.return_, 1) := by decide +kernel
theorem dX2_moveLips_0 : decode cX2_moveLips 0 = .ok (.iconst 0, 1) := by decide +kernel
theorem dX2_moveLips_1 : decode cX2_moveLips 1 = .ok (.istore_n 1, 1) := by decide +kernel
theorem dX2_moveLips_2 : decode cX2_moveLips 2 = .ok (.iload_n 1, 1) := by decide +kernel
theorem dX2_moveLips_3 : decode cX2_moveLips 3 = .ok (.aload_n 0, 1) := by decide +kernel
theorem dX2_moveLips_4 : decode cX2_moveLips 4 = .ok (.getfield 12, 3) := by decide +kernel
theorem dX2_moveLips_7 : decode cX2_moveLips 7 = .ok (.getfield 52, 3) := by decide +kernel
theorem dX2_moveLips_10 : decode cX2_moveLips 10 = .ok (.if_icmp .ge 41, 3) := by decide +kernel
theorem dX2_moveLips_13 : decode cX2_moveLips 13 = .ok (.aload_n 0, 1) := by decide +kernel
theorem dX2_moveLips_14 : decode cX2_moveLips 14 = .ok (.getfield 12, 3) := by decide +kernel
theorem dX2_moveLips_17 : decode cX2_moveLips 17 = .ok (.getfield 55, 3) := by decide +kernel
theorem dX2_moveLips_20 : decode cX2_moveLips 20 = .ok (.iload_n 1, 1) := by decide +kernel
theorem dX2_moveLips_21 : decode cX2_moveLips 21 = .ok (.aaload, 1) := by decide +kernel
theorem dX2_moveLips_22 : decode cX2_moveLips 22 = .ok (.astore_n 2, 1) := by decide +kernel
theorem dX2_moveLips_23 : decode cX2_moveLips 23 = .ok (.aload_n 2, 1) := by decide +kernel
theorem dX2_moveLips_24 : decode cX2_moveLips 24 = .ok (.getfield 119, 3) := by decide +kernel
theorem dX2_moveLips_27 : decode cX2_moveLips 27 = .ok (.ifCond .eq 12, 3) := by decide +kernel
theorem dX2_moveLips_30 : decode cX2_moveLips 30 = .ok (.aload_n 2, 1) := by decide +kernel
theorem dX2_moveLips_31 : decode cX2_moveLips 31 = .ok (.bipush 15, 2) := by decide +kernel
theorem dX2_moveLips_33 : decode cX2_moveLips 33 = .ok (.invokevirtual 196, 3) := by decide +kernel
theorem dX2_moveLips_36 : decode cX2_moveLips 36 = .ok (.goto 9, 3) := by decide +kernel
theorem dX2_moveLips_39 : decode cX2_moveLips 39 = .ok (.aload_n 2, 1) := by decide +kernel
theorem dX2_moveLips_40 : decode cX2_moveLips 40 = .ok (.bipush 10, 2) := by decide +kernel
theorem dX2_moveLips_42 : decode cX2_moveLips 42 = .ok (.invokevirtual 199, 3) := by decide +kernel
theorem dX2_moveLips_45 : decode cX2_moveLips 45 = .ok (.iinc 1 1, 3) := by decide +kernel
theorem dX2_moveLips_48 : decode cX2_moveLips 48 = .ok (.goto (-46), 3) := by decide +kernel
theorem dX2_moveLips_51 : decode cX2_moveLips 51 = .ok (.return_, 1) := by decide +kernel
theorem dX2_givePlaces_0 : decode cX2_givePlaces 0 = .ok (.iconst (-1), 1) := by decide +kernel
theorem dX2_givePlaces_1 : decode cX2_givePlaces 1 = .ok (.istore_n 1, 1) := by decide +kernel
theorem dX2_givePlaces_2 : decode cX2_givePlaces 2 = .ok (.iconst 0, 1) := by decide +kernel
theorem dX2_givePlaces_3 : decode cX2_givePlaces 3 = .ok (.istore_n 2, 1) := by decide +kernel
theorem dX2_givePlaces_4 : decode cX2_givePlaces 4 = .ok (.iload_n 2, 1) := by decide +kernel
theorem dX2_givePlaces_5 : decode cX2_givePlaces 5 = .ok (.aload_n 0, 1) := by decide +kernel
theorem dX2_givePlaces_6 : decode cX2_givePlaces 6 = .ok (.getfield 12, 3) := by decide +kernel
theorem dX2_givePlaces_9 : decode cX2_givePlaces 9 = .ok (.getfield 21, 3) := by decide +kernel
theorem dX2_givePlaces_12 : decode cX2_givePlaces 12 = .ok (.if_icmp .ge 61, 3) := by decide +kernel
theorem dX2_givePlaces_15 : decode cX2_givePlaces 15 = .ok (.aload_n 0, 1) := by decide +kernel
theorem dX2_givePlaces_16 : decode cX2_givePlaces 16 = .ok (.getfield 12, 3) := by decide +kernel
theorem dX2_givePlaces_19 : decode cX2_givePlaces 19 = .ok (.getfield 37, 3) := by decide +kernel
theorem dX2_givePlaces_22 : decode cX2_givePlaces 22 = .ok (.iload_n 2, 1) := by decide +kernel
theorem dX2_givePlaces_23 : decode cX2_givePlaces 23 = .ok (.aaload, 1) := by decide +kernel
theorem dX2_givePlaces_24 : decode cX2_givePlaces 24 = .ok (.astore_n 3, 1) := by decide +kernel
theorem dX2_givePlaces_25 : decode cX2_givePlaces 25 = .ok (.aload_n 3, 1) := by decide +kernel
theorem dX2_givePlaces_26 : decode cX2_givePlaces 26 = .ok (.aload_n 0, 1) := by decide +kernel
theorem dX2_givePlaces_27 : decode cX2_givePlaces 27 = .ok (.iload_n 2, 1) := by decide +kernel
theorem dX2_givePlaces_28 : decode cX2_givePlaces 28 = .ok (.aload_n 3, 1) := by decide +kernel
theorem dX2_givePlaces_29 : decode cX2_givePlaces 29 = .ok (.invokevirtual 202, 3) := by decide +kernel
theorem dX2_givePlaces_32 : decode cX2_givePlaces 32 = .ok (.putfield 206, 3) := by decide +kernel
theorem dX2_givePlaces_35 : decode cX2_givePlaces 35 = .ok (.aload_n 3, 1) := by decide +kernel
theorem dX2_givePlaces_36 : decode cX2_givePlaces 36 = .ok (.getfield 91, 3) := by decide +kernel
theorem dX2_givePlaces_39 : decode cX2_givePlaces 39 = .ok (.ifCond .le 19, 3) := by decide +kernel
theorem dX2_givePlaces_42 : decode cX2_givePlaces 42 = .ok (.aload_n 3, 1) := by decide +kernel
theorem dX2_givePlaces_43 : decode cX2_givePlaces 43 = .ok (.dup, 1) := by decide +kernel
theorem dX2_givePlaces_44 : decode cX2_givePlaces 44 = .ok (.getfield 209, 3) := by decide +kernel
theorem dX2_givePlaces_47 : decode cX2_givePlaces 47 = .ok (.aload_n 3, 1) := by decide +kernel
theorem dX2_givePlaces_48 : decode cX2_givePlaces 48 = .ok (.getfield 206, 3) := by decide +kernel
theorem dX2_givePlaces_51 : decode cX2_givePlaces 51 = .ok (.invokestatic 212, 3) := by decide +kernel
theorem dX2_givePlaces_54 : decode cX2_givePlaces 54 = .ok (.iadd, 1) := by decide +kernel
theorem dX2_givePlaces_55 : decode cX2_givePlaces 55 = .ok (.putfield 209, 3) := by decide +kernel
theorem dX2_givePlaces_58 : decode cX2_givePlaces 58 = .ok (.aload_n 3, 1) := by decide +kernel
theorem dX2_givePlaces_59 : decode cX2_givePlaces 59 = .ok (.getfield 206, 3) := by decide +kernel
theorem dX2_givePlaces_62 : decode cX2_givePlaces 62 = .ok (.ifCond .ne 5, 3) := by decide +kernel
theorem dX2_givePlaces_65 : decode cX2_givePlaces 65 = .ok (.iload_n 2, 1) := by decide +kernel
theorem dX2_givePlaces_66 : decode cX2_givePlaces 66 = .ok (.istore_n 1, 1) := by decide +kernel
theorem dX2_givePlaces_67 : decode cX2_givePlaces 67 = .ok (.iinc 2 1, 3) := by decide +kernel
theorem dX2_givePlaces_70 : decode cX2_givePlaces 70 = .ok (.goto (-66), 3) := by decide +kernel
theorem dX2_givePlaces_73 : decode cX2_givePlaces 73 = .ok (.iload_n 1, 1) := by decide +kernel
theorem dX2_givePlaces_74 : decode cX2_givePlaces 74 = .ok (.ireturn, 1) := by decide +kernel
theorem dX2_aheadByMarks_0 : decode cX2_aheadByMarks 0 = .ok (.iconst 0, 1) := by decide +kernel
theorem dX2_aheadByMarks_1 : decode cX2_aheadByMarks 1 = .ok (.istore_n 3, 1) := by decide +kernel
theorem dX2_aheadByMarks_2 : decode cX2_aheadByMarks 2 = .ok (.iconst 0, 1) := by decide +kernel
theorem dX2_aheadByMarks_3 : decode cX2_aheadByMarks 3 = .ok (.istore 4, 2) := by decide +kernel
theorem dX2_aheadByMarks_5 : decode cX2_aheadByMarks 5 = .ok (.iload 4, 2) := by decide +kernel
theorem dX2_aheadByMarks_7 : decode cX2_aheadByMarks 7 = .ok (.aload_n 0, 1) := by decide +kernel
theorem dX2_aheadByMarks_8 : decode cX2_aheadByMarks 8 = .ok (.getfield 12, 3) := by decide +kernel
theorem dX2_aheadByMarks_11 : decode cX2_aheadByMarks 11 = .ok (.getfield 21, 3) := by decide +kernel
theorem dX2_aheadByMarks_14 : decode cX2_aheadByMarks 14 = .ok (.if_icmp .ge 48, 3) := by decide +kernel
theorem dX2_aheadByMarks_17 : decode cX2_aheadByMarks 17 = .ok (.aload_n 0, 1) := by decide +kernel
theorem dX2_aheadByMarks_18 : decode cX2_aheadByMarks 18 = .ok (.getfield 12, 3) := by decide +kernel
theorem dX2_aheadByMarks_21 : decode cX2_aheadByMarks 21 = .ok (.getfield 37, 3) := by decide +kernel
theorem dX2_aheadByMarks_24 : decode cX2_aheadByMarks 24 = .ok (.iload 4, 2) := by decide +kernel
theorem dX2_aheadByMarks_26 : decode cX2_aheadByMarks 26 = .ok (.aaload, 1) := by decide +kernel
theorem dX2_aheadByMarks_27 : decode cX2_aheadByMarks 27 = .ok (.astore 5, 2) := by decide +kernel
theorem dX2_aheadByMarks_29 : decode cX2_aheadByMarks 29 = .ok (.aload 5, 2) := by decide +kernel
theorem dX2_aheadByMarks_31 : decode cX2_aheadByMarks 31 = .ok (.aload_n 2, 1) := by decide +kernel
theorem dX2_aheadByMarks_32 : decode cX2_aheadByMarks 32 = .ok (.invokevirtual 215, 3) := by decide +kernel
theorem dX2_aheadByMarks_35 : decode cX2_aheadByMarks 35 = .ok (.ifCond .ne 18, 3) := by decide +kernel
theorem dX2_aheadByMarks_38 : decode cX2_aheadByMarks 38 = .ok (.iload 4, 2) := by decide +kernel
theorem dX2_aheadByMarks_40 : decode cX2_aheadByMarks 40 = .ok (.iload_n 1, 1) := by decide +kernel
theorem dX2_aheadByMarks_41 : decode cX2_aheadByMarks 41 = .ok (.if_icmp .ge 15, 3) := by decide +kernel
theorem dX2_aheadByMarks_44 : decode cX2_aheadByMarks 44 = .ok (.aload_n 2, 1) := by decide +kernel
theorem dX2_aheadByMarks_45 : decode cX2_aheadByMarks 45 = .ok (.aload 5, 2) := by decide +kernel
theorem dX2_aheadByMarks_47 : decode cX2_aheadByMarks 47 = .ok (.invokevirtual 215, 3) := by decide +kernel
theorem dX2_aheadByMarks_50 : decode cX2_aheadByMarks 50 = .ok (.ifCond .ne 6, 3) := by decide +kernel
theorem dX2_aheadByMarks_53 : decode cX2_aheadByMarks 53 = .ok (.iinc 3 1, 3) := by decide +kernel
theorem dX2_aheadByMarks_56 : decode cX2_aheadByMarks 56 = .ok (.iinc 4 1, 3) := by decide +kernel
theorem dX2_aheadByMarks_59 : decode cX2_aheadByMarks 59 = .ok (.goto (-54), 3) := by decide +kernel
theorem dX2_aheadByMarks_62 : decode cX2_aheadByMarks 62 = .ok (.iload_n 3, 1) := by decide +kernel
theorem dX2_aheadByMarks_63 : decode cX2_aheadByMarks 63 = .ok (.ireturn, 1) := by decide +kernel
theorem dX2_pointsFor_0 : decode cX2_pointsFor 0 = .ok (.iload_n 0, 1) := by decide +kernel
theorem dX2_pointsFor_1 : decode cX2_pointsFor 1 = .ok (.tableswitch 33 0 2 #[27, 29, 31], 27) := by decide +kernel
theorem dX2_pointsFor_28 : decode cX2_pointsFor 28 = .ok (.iconst 5, 1) := by decide +kernel
theorem dX2_pointsFor_29 : decode cX2_pointsFor 29 = .ok (.ireturn, 1) := by decide +kernel
theorem dX2_pointsFor_30 : decode cX2_pointsFor 30 = .ok (.iconst 3, 1) := by decide +kernel
theorem dX2_pointsFor_31 : decode cX2_pointsFor 31 = .ok (.ireturn, 1) := by decide +kernel
theorem dX2_pointsFor_32 : decode cX2_pointsFor 32 = .ok (.iconst 1, 1) := by decide +kernel
theorem dX2_pointsFor_33 : decode cX2_pointsFor 33 = .ok (.ireturn, 1) := by decide +kernel
theorem dX2_pointsFor_34 : decode cX2_pointsFor 34 = .ok (.iconst 0, 1) := by decide +kernel
theorem dX2_pointsFor_35 : decode cX2_pointsFor 35 = .ok (.ireturn, 1) := by decide +kernel
theorem dX3_init_0 : decode cX3_init 0 = .ok (.aload_n 0, 1) := by decide +kernel
theorem dX3_init_1 : decode cX3_init 1 = .ok (.invokespecial 3, 3) := by decide +kernel
theorem dX3_init_4 : decode cX3_init 4 = .ok (.aload_n 0, 1) := by decide +kernel
theorem dX3_init_5 : decode cX3_init 5 = .ok (.iconst 4, 1) := by decide +kernel
theorem dX3_init_6 : decode cX3_init 6 = .ok (.newarray .int, 2) := by decide +kernel
theorem dX3_init_8 : decode cX3_init 8 = .ok (.putfield 9, 3) := by decide +kernel
theorem dX3_init_11 : decode cX3_init 11 = .ok (.aload_n 0, 1) := by decide +kernel
theorem dX3_init_12 : decode cX3_init 12 = .ok (.iconst (-1), 1) := by decide +kernel
theorem dX3_init_13 : decode cX3_init 13 = .ok (.putfield 15, 3) := by decide +kernel
theorem dX3_init_16 : decode cX3_init 16 = .ok (.aload_n 0, 1) := by decide +kernel
theorem dX3_init_17 : decode cX3_init 17 = .ok (.iconst (-1), 1) := by decide +kernel
theorem dX3_init_18 : decode cX3_init 18 = .ok (.putfield 19, 3) := by decide +kernel
theorem dX3_init_21 : decode cX3_init 21 = .ok (.return_, 1) := by decide +kernel
theorem dX3_copyFrom_0 : decode cX3_copyFrom 0 = .ok (.aload_n 1, 1) := by decide +kernel
theorem dX3_copyFrom_1 : decode cX3_copyFrom 1 = .ok (.getfield 9, 3) := by decide +kernel
theorem dX3_copyFrom_4 : decode cX3_copyFrom 4 = .ok (.iconst 0, 1) := by decide +kernel
theorem dX3_copyFrom_5 : decode cX3_copyFrom 5 = .ok (.aload_n 0, 1) := by decide +kernel
theorem dX3_copyFrom_6 : decode cX3_copyFrom 6 = .ok (.getfield 9, 3) := by decide +kernel
theorem dX3_copyFrom_9 : decode cX3_copyFrom 9 = .ok (.iconst 0, 1) := by decide +kernel
theorem dX3_copyFrom_10 : decode cX3_copyFrom 10 = .ok (.iconst 4, 1) := by decide +kernel
theorem dX3_copyFrom_11 : decode cX3_copyFrom 11 = .ok (.invokestatic 22, 3) := by decide +kernel
theorem dX3_copyFrom_14 : decode cX3_copyFrom 14 = .ok (.aload_n 0, 1) := by decide +kernel
theorem dX3_copyFrom_15 : decode cX3_copyFrom 15 = .ok (.aload_n 1, 1) := by decide +kernel
theorem dX3_copyFrom_16 : decode cX3_copyFrom 16 = .ok (.getfield 28, 3) := by decide +kernel
theorem dX3_copyFrom_19 : decode cX3_copyFrom 19 = .ok (.putfield 28, 3) := by decide +kernel
theorem dX3_copyFrom_22 : decode cX3_copyFrom 22 = .ok (.aload_n 0, 1) := by decide +kernel
theorem dX3_copyFrom_23 : decode cX3_copyFrom 23 = .ok (.aload_n 1, 1) := by decide +kernel
theorem dX3_copyFrom_24 : decode cX3_copyFrom 24 = .ok (.getfield 31, 3) := by decide +kernel
theorem dX3_copyFrom_27 : decode cX3_copyFrom 27 = .ok (.putfield 31, 3) := by decide +kernel
theorem dX3_copyFrom_30 : decode cX3_copyFrom 30 = .ok (.aload_n 0, 1) := by decide +kernel
theorem dX3_copyFrom_31 : decode cX3_copyFrom 31 = .ok (.aload_n 1, 1) := by decide +kernel
theorem dX3_copyFrom_32 : decode cX3_copyFrom 32 = .ok (.getfield 15, 3) := by decide +kernel
theorem dX3_copyFrom_35 : decode cX3_copyFrom 35 = .ok (.putfield 15, 3) := by decide +kernel
theorem dX3_copyFrom_38 : decode cX3_copyFrom 38 = .ok (.aload_n 0, 1) := by decide +kernel
theorem dX3_copyFrom_39 : decode cX3_copyFrom 39 = .ok (.aload_n 1, 1) := by decide +kernel
theorem dX3_copyFrom_40 : decode cX3_copyFrom 40 = .ok (.getfield 19, 3) := by decide +kernel
theorem dX3_copyFrom_43 : decode cX3_copyFrom 43 = .ok (.putfield 19, 3) := by decide +kernel
theorem dX3_copyFrom_46 : decode cX3_copyFrom 46 = .ok (.aload_n 0, 1) := by decide +kernel
theorem dX3_copyFrom_47 : decode cX3_copyFrom 47 = .ok (.aload_n 1, 1) := by decide +kernel
theorem dX3_copyFrom_48 : decode cX3_copyFrom 48 = .ok (.getfield 34, 3) := by decide +kernel
theorem dX3_copyFrom_51 : decode cX3_copyFrom 51 = .ok (.putfield 34, 3) := by decide +kernel
theorem dX3_copyFrom_54 : decode cX3_copyFrom 54 = .ok (.aload_n 0, 1) := by decide +kernel
theorem dX3_copyFrom_55 : decode cX3_copyFrom 55 = .ok (.aload_n 1, 1) := by decide +kernel
theorem dX3_copyFrom_56 : decode cX3_copyFrom 56 = .ok (.getfield 37, 3) := by decide +kernel
theorem dX3_copyFrom_59 : decode cX3_copyFrom 59 = .ok (.putfield 37, 3) := by decide +kernel
theorem dX3_copyFrom_62 : decode cX3_copyFrom 62 = .ok (.return_, 1) := by decide +kernel
theorem dX3_skillFor_0 : decode cX3_skillFor 0 = .ok (.iload_n 1, 1) := by decide +kernel
theorem dX3_skillFor_1 : decode cX3_skillFor 1 = .ok (.ifCond .lt 17, 3) := by decide +kernel
theorem dX3_skillFor_4 : decode cX3_skillFor 4 = .ok (.iload_n 1, 1) := by decide +kernel
theorem dX3_skillFor_5 : decode cX3_skillFor 5 = .ok (.iconst 4, 1) := by decide +kernel
theorem dX3_skillFor_6 : decode cX3_skillFor 6 = .ok (.if_icmp .ge 12, 3) := by decide +kernel
theorem dX3_skillFor_9 : decode cX3_skillFor 9 = .ok (.aload_n 0, 1) := by decide +kernel
theorem dX3_skillFor_10 : decode cX3_skillFor 10 = .ok (.getfield 9, 3) := by decide +kernel
theorem dX3_skillFor_13 : decode cX3_skillFor 13 = .ok (.iload_n 1, 1) := by decide +kernel
theorem dX3_skillFor_14 : decode cX3_skillFor 14 = .ok (.iaload, 1) := by decide +kernel
theorem dX3_skillFor_15 : decode cX3_skillFor 15 = .ok (.goto 4, 3) := by decide +kernel
theorem dX3_skillFor_18 : decode cX3_skillFor 18 = .ok (.iconst 0, 1) := by decide +kernel
theorem dX3_skillFor_19 : decode cX3_skillFor 19 = .ok (.ireturn, 1) := by decide +kernel
theorem dX3_isThere_0 : decode cX3_isThere 0 = .ok (.aload_n 0, 1) := by decide +kernel
theorem dX3_isThere_1 : decode cX3_isThere 1 = .ok (.getfield 31, 3) := by decide +kernel
theorem dX3_isThere_4 : decode cX3_isThere 4 = .ok (.ifCond .ne 7, 3) := by decide +kernel
theorem dX3_isThere_7 : decode cX3_isThere 7 = .ok (.iconst 1, 1) := by decide +kernel
theorem dX3_isThere_8 : decode cX3_isThere 8 = .ok (.goto 4, 3) := by decide +kernel
theorem dX3_isThere_11 : decode cX3_isThere 11 = .ok (.iconst 0, 1) := by decide +kernel
theorem dX3_isThere_12 : decode cX3_isThere 12 = .ok (.ireturn, 1) := by decide +kernel
theorem dX3_mayBeDeputy_0 : decode cX3_mayBeDeputy 0 = .ok (.aload_n 0, 1) := by decide +kernel
theorem dX3_mayBeDeputy_1 : decode cX3_mayBeDeputy 1 = .ok (.getfield 31, 3) := by decide +kernel
theorem dX3_mayBeDeputy_4 : decode cX3_mayBeDeputy 4 = .ok (.ifCond .ne 22, 3) := by decide +kernel
theorem dX3_mayBeDeputy_7 : decode cX3_mayBeDeputy 7 = .ok (.aload_n 0, 1) := by decide +kernel
theorem dX3_mayBeDeputy_8 : decode cX3_mayBeDeputy 8 = .ok (.getfield 40, 3) := by decide +kernel
theorem dX3_mayBeDeputy_11 : decode cX3_mayBeDeputy 11 = .ok (.ifCond .ne 15, 3) := by decide +kernel
theorem dX3_mayBeDeputy_14 : decode cX3_mayBeDeputy 14 = .ok (.aload_n 0, 1) := by decide +kernel
theorem dX3_mayBeDeputy_15 : decode cX3_mayBeDeputy 15 = .ok (.getfield 44, 3) := by decide +kernel
theorem dX3_mayBeDeputy_18 : decode cX3_mayBeDeputy 18 = .ok (.iconst 1, 1) := by decide +kernel
theorem dX3_mayBeDeputy_19 : decode cX3_mayBeDeputy 19 = .ok (.if_icmp .gt 7, 3) := by decide +kernel
theorem dX3_mayBeDeputy_22 : decode cX3_mayBeDeputy 22 = .ok (.iconst 1, 1) := by decide +kernel
theorem dX3_mayBeDeputy_23 : decode cX3_mayBeDeputy 23 = .ok (.goto 4, 3) := by decide +kernel
theorem dX3_mayBeDeputy_26 : decode cX3_mayBeDeputy 26 = .ok (.iconst 0, 1) := by decide +kernel
theorem dX3_mayBeDeputy_27 : decode cX3_mayBeDeputy 27 = .ok (.ireturn, 1) := by decide +kernel
theorem dX3_tire_0 : decode cX3_tire 0 = .ok (.aload_n 0, 1) := by decide +kernel
theorem dX3_tire_1 : decode cX3_tire 1 = .ok (.bipush 100, 2) := by decide +kernel
theorem dX3_tire_3 : decode cX3_tire 3 = .ok (.aload_n 0, 1) := by decide +kernel
theorem dX3_tire_4 : decode cX3_tire 4 = .ok (.getfield 28, 3) := by decide +kernel
theorem dX3_tire_7 : decode cX3_tire 7 = .ok (.iload_n 1, 1) := by decide +kernel
theorem dX3_tire_8 : decode cX3_tire 8 = .ok (.iadd, 1) := by decide +kernel
theorem dX3_tire_9 : decode cX3_tire 9 = .ok (.invokestatic 47, 3) := by decide +kernel
theorem dX3_tire_12 : decode cX3_tire 12 = .ok (.putfield 28, 3) := by decide +kernel
theorem dX3_tire_15 : decode cX3_tire 15 = .ok (.return_, 1) := by decide +kernel
theorem dX3_rest_0 : decode cX3_rest 0 = .ok (.aload_n 0, 1) := by decide +kernel
theorem dX3_rest_1 : decode cX3_rest 1 = .ok (.iconst 0, 1) := by decide +kernel
theorem dX3_rest_2 : decode cX3_rest 2 = .ok (.aload_n 0, 1) := by decide +kernel
theorem dX3_rest_3 : decode cX3_rest 3 = .ok (.getfield 28, 3) := by decide +kernel
theorem dX3_rest_6 : decode cX3_rest 6 = .ok (.iload_n 1, 1) := by decide +kernel
theorem dX3_rest_7 : decode cX3_rest 7 = .ok (.isub, 1) := by decide +kernel
theorem dX3_rest_8 : decode cX3_rest 8 = .ok (.invokestatic 53, 3) := by decide +kernel
theorem dX3_rest_11 : decode cX3_rest 11 = .ok (.putfield 28, 3) := by decide +kernel
theorem dX3_rest_14 : decode cX3_rest 14 = .ok (.return_, 1) := by decide +kernel
theorem dX3_tell_0 : decode cX3_tell 0 = .ok (.iload_n 1, 1) := by decide +kernel
theorem dX3_tell_1 : decode cX3_tell 1 = .ok (.tableswitch 69 4 9 #[39, 44, 49, 54, 59, 64], 39) := by decide +kernel
theorem dX3_tell_40 : decode cX3_tell 40 = .ok (.aload_n 0, 1) := by decide +kernel
theorem dX3_tell_41 : decode cX3_tell 41 = .ok (.getfield 28, 3) := by decide +kernel
theorem dX3_tell_44 : decode cX3_tell 44 = .ok (.ireturn, 1) := by decide +kernel
theorem dX3_tell_45 : decode cX3_tell 45 = .ok (.aload_n 0, 1) := by decide +kernel
theorem dX3_tell_46 : decode cX3_tell 46 = .ok (.getfield 31, 3) := by decide +kernel
theorem dX3_tell_49 : decode cX3_tell 49 = .ok (.ireturn, 1) := by decide +kernel
theorem dX3_tell_50 : decode cX3_tell 50 = .ok (.aload_n 0, 1) := by decide +kernel
theorem dX3_tell_51 : decode cX3_tell 51 = .ok (.getfield 15, 3) := by decide +kernel
theorem dX3_tell_54 : decode cX3_tell 54 = .ok (.ireturn, 1) := by decide +kernel
theorem dX3_tell_55 : decode cX3_tell 55 = .ok (.aload_n 0, 1) := by decide +kernel
theorem dX3_tell_56 : decode cX3_tell 56 = .ok (.getfield 19, 3) := by decide +kernel
theorem dX3_tell_59 : decode cX3_tell 59 = .ok (.ireturn, 1) := by decide +kernel
theorem dX3_tell_60 : decode cX3_tell 60 = .ok (.aload_n 0, 1) := by decide +kernel
theorem dX3_tell_61 : decode cX3_tell 61 = .ok (.getfield 34, 3) := by decide +kernel
theorem dX3_tell_64 : decode cX3_tell 64 = .ok (.ireturn, 1) := by decide +kernel
theorem dX3_tell_65 : decode cX3_tell 65 = .ok (.aload_n 0, 1) := by decide +kernel
theorem dX3_tell_66 : decode cX3_tell 66 = .ok (.getfield 37, 3) := by decide +kernel
theorem dX3_tell_69 : decode cX3_tell 69 = .ok (.ireturn, 1) := by decide +kernel
theorem dX3_tell_70 : decode cX3_tell 70 = .ok (.aload_n 0, 1) := by decide +kernel
theorem dX3_tell_71 : decode cX3_tell 71 = .ok (.iload_n 1, 1) := by decide +kernel
theorem dX3_tell_72 : decode cX3_tell 72 = .ok (.invokevirtual 56, 3) := by decide +kernel
theorem dX3_tell_75 : decode cX3_tell 75 = .ok (.ireturn, 1) := by decide +kernel
theorem dX4_init_0 : decode cX4_init 0 = .ok (.aload_n 0, 1) := by decide +kernel
theorem dX4_init_1 : decode cX4_init 1 = .ok (.invokespecial 3, 3) := by decide +kernel
theorem dX4_init_4 : decode cX4_init 4 = .ok (.aload_n 0, 1) := by decide +kernel
theorem dX4_init_5 : decode cX4_init 5 = .ok (.bipush 24, 2) := by decide +kernel
theorem dX4_init_7 : decode cX4_init 7 = .ok (.anewarray 9, 3) := by decide +kernel
theorem dX4_init_10 : decode cX4_init 10 = .ok (.putfield 11, 3) := by decide +kernel
theorem dX4_init_13 : decode cX4_init 13 = .ok (.aload_n 0, 1) := by decide +kernel
theorem dX4_init_14 : decode cX4_init 14 = .ok (.bipush 6, 2) := by decide +kernel
theorem dX4_init_16 : decode cX4_init 16 = .ok (.anewarray 17, 3) := by decide +kernel
theorem dX4_init_19 : decode cX4_init 19 = .ok (.putfield 19, 3) := by decide +kernel
theorem dX4_init_22 : decode cX4_init 22 = .ok (.aload_n 0, 1) := by decide +kernel
theorem dX4_init_23 : decode cX4_init 23 = .ok (.iconst 4, 1) := by decide +kernel
theorem dX4_init_24 : decode cX4_init 24 = .ok (.newarray .int, 2) := by decide +kernel
theorem dX4_init_26 : decode cX4_init 26 = .ok (.putfield 23, 3) := by decide +kernel
theorem dX4_init_29 : decode cX4_init 29 = .ok (.aload_n 0, 1) := by decide +kernel
theorem dX4_init_30 : decode cX4_init 30 = .ok (.iconst 4, 1) := by decide +kernel
theorem dX4_init_31 : decode cX4_init 31 = .ok (.newarray .int, 2) := by decide +kernel
theorem dX4_init_33 : decode cX4_init 33 = .ok (.putfield 27, 3) := by decide +kernel
theorem dX4_init_36 : decode cX4_init 36 = .ok (.iconst 0, 1) := by decide +kernel
theorem dX4_init_37 : decode cX4_init 37 = .ok (.istore_n 1, 1) := by decide +kernel
theorem dX4_init_38 : decode cX4_init 38 = .ok (.iload_n 1, 1) := by decide +kernel
theorem dX4_init_39 : decode cX4_init 39 = .ok (.bipush 24, 2) := by decide +kernel
theorem dX4_init_41 : decode cX4_init 41 = .ok (.if_icmp .ge 22, 3) := by decide +kernel
theorem dX4_init_44 : decode cX4_init 44 = .ok (.aload_n 0, 1) := by decide +kernel
theorem dX4_init_45 : decode cX4_init 45 = .ok (.getfield 11, 3) := by decide +kernel
theorem dX4_init_48 : decode cX4_init 48 = .ok (.iload_n 1, 1) := by decide +kernel
theorem dX4_init_49 : decode cX4_init 49 = .ok (.new 9, 3) := by decide +kernel
theorem dX4_init_52 : decode cX4_init 52 = .ok (.dup, 1) := by decide +kernel
theorem dX4_init_53 : decode cX4_init 53 = .ok (.invokespecial 30, 3) := by decide +kernel
theorem dX4_init_56 : decode cX4_init 56 = .ok (.aastore, 1) := by decide +kernel
theorem dX4_init_57 : decode cX4_init 57 = .ok (.iinc 1 1, 3) := by decide +kernel
theorem dX4_init_60 : decode cX4_init 60 = .ok (.goto (-22), 3) := by decide +kernel
theorem dX4_init_63 : decode cX4_init 63 = .ok (.iconst 0, 1) := by decide +kernel
theorem dX4_init_64 : decode cX4_init 64 = .ok (.istore_n 1, 1) := by decide +kernel
theorem dX4_init_65 : decode cX4_init 65 = .ok (.iload_n 1, 1) := by decide +kernel
theorem dX4_init_66 : decode cX4_init 66 = .ok (.bipush 6, 2) := by decide +kernel
theorem dX4_init_68 : decode cX4_init 68 = .ok (.if_icmp .ge 22, 3) := by decide +kernel
theorem dX4_init_71 : decode cX4_init 71 = .ok (.aload_n 0, 1) := by decide +kernel
theorem dX4_init_72 : decode cX4_init 72 = .ok (.getfield 19, 3) := by decide +kernel
theorem dX4_init_75 : decode cX4_init 75 = .ok (.iload_n 1, 1) := by decide +kernel
theorem dX4_init_76 : decode cX4_init 76 = .ok (.new 17, 3) := by decide +kernel
theorem dX4_init_79 : decode cX4_init 79 = .ok (.dup, 1) := by decide +kernel
theorem dX4_init_80 : decode cX4_init 80 = .ok (.invokespecial 31, 3) := by decide +kernel
theorem dX4_init_83 : decode cX4_init 83 = .ok (.aastore, 1) := by decide +kernel
theorem dX4_init_84 : decode cX4_init 84 = .ok (.iinc 1 1, 3) := by decide +kernel
theorem dX4_init_87 : decode cX4_init 87 = .ok (.goto (-22), 3) := by decide +kernel
theorem dX4_init_90 : decode cX4_init 90 = .ok (.iconst 0, 1) := by decide +kernel
theorem dX4_init_91 : decode cX4_init 91 = .ok (.istore_n 1, 1) := by decide +kernel
theorem dX4_init_92 : decode cX4_init 92 = .ok (.iload_n 1, 1) := by decide +kernel
theorem dX4_init_93 : decode cX4_init 93 = .ok (.iconst 4, 1) := by decide +kernel
theorem dX4_init_94 : decode cX4_init 94 = .ok (.if_icmp .ge 23, 3) := by decide +kernel
theorem dX4_init_97 : decode cX4_init 97 = .ok (.aload_n 0, 1) := by decide +kernel
theorem dX4_init_98 : decode cX4_init 98 = .ok (.getfield 23, 3) := by decide +kernel
theorem dX4_init_101 : decode cX4_init 101 = .ok (.iload_n 1, 1) := by decide +kernel
theorem dX4_init_102 : decode cX4_init 102 = .ok (.iconst 3, 1) := by decide +kernel
theorem dX4_init_103 : decode cX4_init 103 = .ok (.iastore, 1) := by decide +kernel
theorem dX4_init_104 : decode cX4_init 104 = .ok (.aload_n 0, 1) := by decide +kernel
theorem dX4_init_105 : decode cX4_init 105 = .ok (.getfield 27, 3) := by decide +kernel
theorem dX4_init_108 : decode cX4_init 108 = .ok (.iload_n 1, 1) := by decide +kernel
theorem dX4_init_109 : decode cX4_init 109 = .ok (.iconst 1, 1) := by decide +kernel
theorem dX4_init_110 : decode cX4_init 110 = .ok (.iastore, 1) := by decide +kernel
theorem dX4_init_111 : decode cX4_init 111 = .ok (.iinc 1 1, 3) := by decide +kernel
theorem dX4_init_114 : decode cX4_init 114 = .ok (.goto (-22), 3) := by decide +kernel
theorem dX4_init_117 : decode cX4_init 117 = .ok (.return_, 1) := by decide +kernel
theorem dX4_copyFrom_0 : decode cX4_copyFrom 0 = .ok (.aload_n 0, 1) := by decide +kernel
theorem dX4_copyFrom_1 : decode cX4_copyFrom 1 = .ok (.aload_n 1, 1) := by decide +kernel
theorem dX4_copyFrom_2 : decode cX4_copyFrom 2 = .ok (.getfield 32, 3) := by decide +kernel
theorem dX4_copyFrom_5 : decode cX4_copyFrom 5 = .ok (.putfield 32, 3) := by decide +kernel
theorem dX4_copyFrom_8 : decode cX4_copyFrom 8 = .ok (.iconst 0, 1) := by decide +kernel
theorem dX4_copyFrom_9 : decode cX4_copyFrom 9 = .ok (.istore_n 2, 1) := by decide +kernel
theorem dX4_copyFrom_10 : decode cX4_copyFrom 10 = .ok (.iload_n 2, 1) := by decide +kernel
theorem dX4_copyFrom_11 : decode cX4_copyFrom 11 = .ok (.aload_n 0, 1) := by decide +kernel
theorem dX4_copyFrom_12 : decode cX4_copyFrom 12 = .ok (.getfield 32, 3) := by decide +kernel
theorem dX4_copyFrom_15 : decode cX4_copyFrom 15 = .ok (.if_icmp .ge 24, 3) := by decide +kernel
theorem dX4_copyFrom_18 : decode cX4_copyFrom 18 = .ok (.aload_n 0, 1) := by decide +kernel
theorem dX4_copyFrom_19 : decode cX4_copyFrom 19 = .ok (.getfield 11, 3) := by decide +kernel
theorem dX4_copyFrom_22 : decode cX4_copyFrom 22 = .ok (.iload_n 2, 1) := by decide +kernel
theorem dX4_copyFrom_23 : decode cX4_copyFrom 23 = .ok (.aaload, 1) := by decide +kernel
theorem dX4_copyFrom_24 : decode cX4_copyFrom 24 = .ok (.aload_n 1, 1) := by decide +kernel
theorem dX4_copyFrom_25 : decode cX4_copyFrom 25 = .ok (.getfield 11, 3) := by decide +kernel
theorem dX4_copyFrom_28 : decode cX4_copyFrom 28 = .ok (.iload_n 2, 1) := by decide +kernel
theorem dX4_copyFrom_29 : decode cX4_copyFrom 29 = .ok (.aaload, 1) := by decide +kernel
theorem dX4_copyFrom_30 : decode cX4_copyFrom 30 = .ok (.invokevirtual 36, 3) := by decide +kernel
theorem dX4_copyFrom_33 : decode cX4_copyFrom 33 = .ok (.iinc 2 1, 3) := by decide +kernel
theorem dX4_copyFrom_36 : decode cX4_copyFrom 36 = .ok (.goto (-26), 3) := by decide +kernel
theorem dX4_copyFrom_39 : decode cX4_copyFrom 39 = .ok (.aload_n 0, 1) := by decide +kernel
theorem dX4_copyFrom_40 : decode cX4_copyFrom 40 = .ok (.aload_n 1, 1) := by decide +kernel
theorem dX4_copyFrom_41 : decode cX4_copyFrom 41 = .ok (.getfield 40, 3) := by decide +kernel
theorem dX4_copyFrom_44 : decode cX4_copyFrom 44 = .ok (.putfield 40, 3) := by decide +kernel
theorem dX4_copyFrom_47 : decode cX4_copyFrom 47 = .ok (.iconst 0, 1) := by decide +kernel
theorem dX4_copyFrom_48 : decode cX4_copyFrom 48 = .ok (.istore_n 2, 1) := by decide +kernel
theorem dX4_copyFrom_49 : decode cX4_copyFrom 49 = .ok (.iload_n 2, 1) := by decide +kernel
theorem dX4_copyFrom_50 : decode cX4_copyFrom 50 = .ok (.aload_n 0, 1) := by decide +kernel
theorem dX4_copyFrom_51 : decode cX4_copyFrom 51 = .ok (.getfield 40, 3) := by decide +kernel
theorem dX4_copyFrom_54 : decode cX4_copyFrom 54 = .ok (.if_icmp .ge 24, 3) := by decide +kernel
theorem dX4_copyFrom_57 : decode cX4_copyFrom 57 = .ok (.aload_n 0, 1) := by decide +kernel
theorem dX4_copyFrom_58 : decode cX4_copyFrom 58 = .ok (.getfield 19, 3) := by decide +kernel
theorem dX4_copyFrom_61 : decode cX4_copyFrom 61 = .ok (.iload_n 2, 1) := by decide +kernel
theorem dX4_copyFrom_62 : decode cX4_copyFrom 62 = .ok (.aaload, 1) := by decide +kernel
theorem dX4_copyFrom_63 : decode cX4_copyFrom 63 = .ok (.aload_n 1, 1) := by decide +kernel
theorem dX4_copyFrom_64 : decode cX4_copyFrom 64 = .ok (.getfield 19, 3) := by decide +kernel
theorem dX4_copyFrom_67 : decode cX4_copyFrom 67 = .ok (.iload_n 2, 1) := by decide +kernel
theorem dX4_copyFrom_68 : decode cX4_copyFrom 68 = .ok (.aaload, 1) := by decide +kernel
theorem dX4_copyFrom_69 : decode cX4_copyFrom 69 = .ok (.invokevirtual 43, 3) := by decide +kernel
theorem dX4_copyFrom_72 : decode cX4_copyFrom 72 = .ok (.iinc 2 1, 3) := by decide +kernel
theorem dX4_copyFrom_75 : decode cX4_copyFrom 75 = .ok (.goto (-26), 3) := by decide +kernel
theorem dX4_copyFrom_78 : decode cX4_copyFrom 78 = .ok (.aload_n 1, 1) := by decide +kernel
theorem dX4_copyFrom_79 : decode cX4_copyFrom 79 = .ok (.getfield 23, 3) := by decide +kernel
theorem dX4_copyFrom_82 : decode cX4_copyFrom 82 = .ok (.iconst 0, 1) := by decide +kernel
theorem dX4_copyFrom_83 : decode cX4_copyFrom 83 = .ok (.aload_n 0, 1) := by decide +kernel
theorem dX4_copyFrom_84 : decode cX4_copyFrom 84 = .ok (.getfield 23, 3) := by decide +kernel
theorem dX4_copyFrom_87 : decode cX4_copyFrom 87 = .ok (.iconst 0, 1) := by decide +kernel
theorem dX4_copyFrom_88 : decode cX4_copyFrom 88 = .ok (.iconst 4, 1) := by decide +kernel
theorem dX4_copyFrom_89 : decode cX4_copyFrom 89 = .ok (.invokestatic 46, 3) := by decide +kernel
theorem dX4_copyFrom_92 : decode cX4_copyFrom 92 = .ok (.aload_n 1, 1) := by decide +kernel
theorem dX4_copyFrom_93 : decode cX4_copyFrom 93 = .ok (.getfield 27, 3) := by decide +kernel
theorem dX4_copyFrom_96 : decode cX4_copyFrom 96 = .ok (.iconst 0, 1) := by decide +kernel
theorem dX4_copyFrom_97 : decode cX4_copyFrom 97 = .ok (.aload_n 0, 1) := by decide +kernel
theorem dX4_copyFrom_98 : decode cX4_copyFrom 98 = .ok (.getfield 27, 3) := by decide +kernel
theorem dX4_copyFrom_101 : decode cX4_copyFrom 101 = .ok (.iconst 0, 1) := by decide +kernel
theorem dX4_copyFrom_102 : decode cX4_copyFrom 102 = .ok (.iconst 4, 1) := by decide +kernel
theorem dX4_copyFrom_103 : decode cX4_copyFrom 103 = .ok (.invokestatic 46, 3) := by decide +kernel
theorem dX4_copyFrom_106 : decode cX4_copyFrom 106 = .ok (.aload_n 0, 1) := by decide +kernel
theorem dX4_copyFrom_107 : decode cX4_copyFrom 107 = .ok (.aload_n 1, 1) := by decide +kernel
theorem dX4_copyFrom_108 : decode cX4_copyFrom 108 = .ok (.getfield 52, 3) := by decide +kernel
theorem dX4_copyFrom_111 : decode cX4_copyFrom 111 = .ok (.putfield 52, 3) := by decide +kernel
theorem dX4_copyFrom_114 : decode cX4_copyFrom 114 = .ok (.aload_n 0, 1) := by decide +kernel
theorem dX4_copyFrom_115 : decode cX4_copyFrom 115 = .ok (.aload_n 1, 1) := by decide +kernel
theorem dX4_copyFrom_116 : decode cX4_copyFrom 116 = .ok (.getfield 55, 3) := by decide +kernel
theorem dX4_copyFrom_119 : decode cX4_copyFrom 119 = .ok (.putfield 55, 3) := by decide +kernel
theorem dX4_copyFrom_122 : decode cX4_copyFrom 122 = .ok (.aload_n 0, 1) := by decide +kernel
theorem dX4_copyFrom_123 : decode cX4_copyFrom 123 = .ok (.aload_n 1, 1) := by decide +kernel
theorem dX4_copyFrom_124 : decode cX4_copyFrom 124 = .ok (.getfield 58, 3) := by decide +kernel
theorem dX4_copyFrom_127 : decode cX4_copyFrom 127 = .ok (.putfield 58, 3) := by decide +kernel
theorem dX4_copyFrom_130 : decode cX4_copyFrom 130 = .ok (.return_, 1) := by decide +kernel
theorem dX4_playerAt_0 : decode cX4_playerAt 0 = .ok (.iload_n 1, 1) := by decide +kernel
theorem dX4_playerAt_1 : decode cX4_playerAt 1 = .ok (.ifCond .lt 20, 3) := by decide +kernel
theorem dX4_playerAt_4 : decode cX4_playerAt 4 = .ok (.iload_n 1, 1) := by decide +kernel
theorem dX4_playerAt_5 : decode cX4_playerAt 5 = .ok (.aload_n 0, 1) := by decide +kernel
theorem dX4_playerAt_6 : decode cX4_playerAt 6 = .ok (.getfield 32, 3) := by decide +kernel
theorem dX4_playerAt_9 : decode cX4_playerAt 9 = .ok (.if_icmp .ge 12, 3) := by decide +kernel
theorem dX4_playerAt_12 : decode cX4_playerAt 12 = .ok (.aload_n 0, 1) := by decide +kernel
theorem dX4_playerAt_13 : decode cX4_playerAt 13 = .ok (.getfield 11, 3) := by decide +kernel
theorem dX4_playerAt_16 : decode cX4_playerAt 16 = .ok (.iload_n 1, 1) := by decide +kernel
theorem dX4_playerAt_17 : decode cX4_playerAt 17 = .ok (.aaload, 1) := by decide +kernel
theorem dX4_playerAt_18 : decode cX4_playerAt 18 = .ok (.goto 4, 3) := by decide +kernel
theorem dX4_playerAt_21 : decode cX4_playerAt 21 = .ok (.aconst_null, 1) := by decide +kernel
theorem dX4_playerAt_22 : decode cX4_playerAt 22 = .ok (.areturn, 1) := by decide +kernel
theorem dX4_bandAt_0 : decode cX4_bandAt 0 = .ok (.iload_n 1, 1) := by decide +kernel
theorem dX4_bandAt_1 : decode cX4_bandAt 1 = .ok (.ifCond .lt 20, 3) := by decide +kernel
theorem dX4_bandAt_4 : decode cX4_bandAt 4 = .ok (.iload_n 1, 1) := by decide +kernel
theorem dX4_bandAt_5 : decode cX4_bandAt 5 = .ok (.aload_n 0, 1) := by decide +kernel
theorem dX4_bandAt_6 : decode cX4_bandAt 6 = .ok (.getfield 40, 3) := by decide +kernel
theorem dX4_bandAt_9 : decode cX4_bandAt 9 = .ok (.if_icmp .ge 12, 3) := by decide +kernel
theorem dX4_bandAt_12 : decode cX4_bandAt 12 = .ok (.aload_n 0, 1) := by decide +kernel
theorem dX4_bandAt_13 : decode cX4_bandAt 13 = .ok (.getfield 19, 3) := by decide +kernel
theorem dX4_bandAt_16 : decode cX4_bandAt 16 = .ok (.iload_n 1, 1) := by decide +kernel
theorem dX4_bandAt_17 : decode cX4_bandAt 17 = .ok (.aaload, 1) := by decide +kernel
theorem dX4_bandAt_18 : decode cX4_bandAt 18 = .ok (.goto 4, 3) := by decide +kernel
theorem dX4_bandAt_21 : decode cX4_bandAt 21 = .ok (.aconst_null, 1) := by decide +kernel
theorem dX4_bandAt_22 : decode cX4_bandAt 22 = .ok (.areturn, 1) := by decide +kernel
theorem dX4_chairAt_0 : decode cX4_chairAt 0 = .ok (.aload_n 0, 1) := by decide +kernel
theorem dX4_chairAt_1 : decode cX4_chairAt 1 = .ok (.iload_n 1, 1) := by decide +kernel
theorem dX4_chairAt_2 : decode cX4_chairAt 2 = .ok (.invokevirtual 61, 3) := by decide +kernel
theorem dX4_chairAt_5 : decode cX4_chairAt 5 = .ok (.astore_n 3, 1) := by decide +kernel
theorem dX4_chairAt_6 : decode cX4_chairAt 6 = .ok (.aload_n 3, 1) := by decide +kernel
theorem dX4_chairAt_7 : decode cX4_chairAt 7 = .ok (.ifnonnull 7, 3) := by decide +kernel
theorem dX4_chairAt_10 : decode cX4_chairAt 10 = .ok (.aconst_null, 1) := by decide +kernel
theorem dX4_chairAt_11 : decode cX4_chairAt 11 = .ok (.goto 8, 3) := by decide +kernel
theorem dX4_chairAt_14 : decode cX4_chairAt 14 = .ok (.aload_n 3, 1) := by decide +kernel
theorem dX4_chairAt_15 : decode cX4_chairAt 15 = .ok (.iload_n 2, 1) := by decide +kernel
theorem dX4_chairAt_16 : decode cX4_chairAt 16 = .ok (.invokevirtual 65, 3) := by decide +kernel
theorem dX4_chairAt_19 : decode cX4_chairAt 19 = .ok (.areturn, 1) := by decide +kernel
theorem dX4_hardFor_0 : decode cX4_hardFor 0 = .ok (.iload_n 1, 1) := by decide +kernel
theorem dX4_hardFor_1 : decode cX4_hardFor 1 = .ok (.ifCond .lt 17, 3) := by decide +kernel
theorem dX4_hardFor_4 : decode cX4_hardFor 4 = .ok (.iload_n 1, 1) := by decide +kernel
theorem dX4_hardFor_5 : decode cX4_hardFor 5 = .ok (.iconst 4, 1) := by decide +kernel
theorem dX4_hardFor_6 : decode cX4_hardFor 6 = .ok (.if_icmp .ge 12, 3) := by decide +kernel
theorem dX4_hardFor_9 : decode cX4_hardFor 9 = .ok (.aload_n 0, 1) := by decide +kernel
theorem dX4_hardFor_10 : decode cX4_hardFor 10 = .ok (.getfield 23, 3) := by decide +kernel
theorem dX4_hardFor_13 : decode cX4_hardFor 13 = .ok (.iload_n 1, 1) := by decide +kernel
theorem dX4_hardFor_14 : decode cX4_hardFor 14 = .ok (.iaload, 1) := by decide +kernel
theorem dX4_hardFor_15 : decode cX4_hardFor 15 = .ok (.goto 4, 3) := by decide +kernel
theorem dX4_hardFor_18 : decode cX4_hardFor 18 = .ok (.iconst 0, 1) := by decide +kernel
theorem dX4_hardFor_19 : decode cX4_hardFor 19 = .ok (.ireturn, 1) := by decide +kernel
theorem dX4_weightFor_0 : decode cX4_weightFor 0 = .ok (.iload_n 1, 1) := by decide +kernel
theorem dX4_weightFor_1 : decode cX4_weightFor 1 = .ok (.ifCond .lt 17, 3) := by decide +kernel
theorem dX4_weightFor_4 : decode cX4_weightFor 4 = .ok (.iload_n 1, 1) := by decide +kernel
theorem dX4_weightFor_5 : decode cX4_weightFor 5 = .ok (.iconst 4, 1) := by decide +kernel
theorem dX4_weightFor_6 : decode cX4_weightFor 6 = .ok (.if_icmp .ge 12, 3) := by decide +kernel
theorem dX4_weightFor_9 : decode cX4_weightFor 9 = .ok (.aload_n 0, 1) := by decide +kernel
theorem dX4_weightFor_10 : decode cX4_weightFor 10 = .ok (.getfield 27, 3) := by decide +kernel
theorem dX4_weightFor_13 : decode cX4_weightFor 13 = .ok (.iload_n 1, 1) := by decide +kernel
theorem dX4_weightFor_14 : decode cX4_weightFor 14 = .ok (.iaload, 1) := by decide +kernel
theorem dX4_weightFor_15 : decode cX4_weightFor 15 = .ok (.goto 4, 3) := by decide +kernel
theorem dX4_weightFor_18 : decode cX4_weightFor 18 = .ok (.iconst 0, 1) := by decide +kernel
theorem dX4_weightFor_19 : decode cX4_weightFor 19 = .ok (.ireturn, 1) := by decide +kernel
theorem dX4_enrol_0 : decode cX4_enrol 0 = .ok (.aload_n 0, 1) := by decide +kernel
theorem dX4_enrol_1 : decode cX4_enrol 1 = .ok (.getfield 32, 3) := by decide +kernel
theorem dX4_enrol_4 : decode cX4_enrol 4 = .ok (.bipush 24, 2) := by decide +kernel
theorem dX4_enrol_6 : decode cX4_enrol 6 = .ok (.if_icmp .lt 5, 3) := by decide +kernel
theorem dX4_enrol_9 : decode cX4_enrol 9 = .ok (.iconst (-1), 1) := by decide +kernel
theorem dX4_enrol_10 : decode cX4_enrol 10 = .ok (.ireturn, 1) := by decide +kernel
theorem dX4_enrol_11 : decode cX4_enrol 11 = .ok (.aload_n 0, 1) := by decide +kernel
theorem dX4_enrol_12 : decode cX4_enrol 12 = .ok (.getfield 11, 3) := by decide +kernel
theorem dX4_enrol_15 : decode cX4_enrol 15 = .ok (.aload_n 0, 1) := by decide +kernel
theorem dX4_enrol_16 : decode cX4_enrol 16 = .ok (.getfield 32, 3) := by decide +kernel
theorem dX4_enrol_19 : decode cX4_enrol 19 = .ok (.aaload, 1) := by decide +kernel
theorem dX4_enrol_20 : decode cX4_enrol 20 = .ok (.getfield 69, 3) := by decide +kernel
theorem dX4_enrol_23 : decode cX4_enrol 23 = .ok (.astore 5, 2) := by decide +kernel
theorem dX4_enrol_25 : decode cX4_enrol 25 = .ok (.aload 5, 2) := by decide +kernel
theorem dX4_enrol_27 : decode cX4_enrol 27 = .ok (.iconst 0, 1) := by decide +kernel
theorem dX4_enrol_28 : decode cX4_enrol 28 = .ok (.iload_n 1, 1) := by decide +kernel
theorem dX4_enrol_29 : decode cX4_enrol 29 = .ok (.iastore, 1) := by decide +kernel
theorem dX4_enrol_30 : decode cX4_enrol 30 = .ok (.aload 5, 2) := by decide +kernel
theorem dX4_enrol_32 : decode cX4_enrol 32 = .ok (.iconst 1, 1) := by decide +kernel
theorem dX4_enrol_33 : decode cX4_enrol 33 = .ok (.iload_n 2, 1) := by decide +kernel
theorem dX4_enrol_34 : decode cX4_enrol 34 = .ok (.iastore, 1) := by decide +kernel
theorem dX4_enrol_35 : decode cX4_enrol 35 = .ok (.aload 5, 2) := by decide +kernel
theorem dX4_enrol_37 : decode cX4_enrol 37 = .ok (.iconst 2, 1) := by decide +kernel
theorem dX4_enrol_38 : decode cX4_enrol 38 = .ok (.iload_n 3, 1) := by decide +kernel
theorem dX4_enrol_39 : decode cX4_enrol 39 = .ok (.iastore, 1) := by decide +kernel
theorem dX4_enrol_40 : decode cX4_enrol 40 = .ok (.aload 5, 2) := by decide +kernel
theorem dX4_enrol_42 : decode cX4_enrol 42 = .ok (.iconst 3, 1) := by decide +kernel
theorem dX4_enrol_43 : decode cX4_enrol 43 = .ok (.iload 4, 2) := by decide +kernel
theorem dX4_enrol_45 : decode cX4_enrol 45 = .ok (.iastore, 1) := by decide +kernel
theorem dX4_enrol_46 : decode cX4_enrol 46 = .ok (.aload_n 0, 1) := by decide +kernel
theorem dX4_enrol_47 : decode cX4_enrol 47 = .ok (.dup, 1) := by decide +kernel
theorem dX4_enrol_48 : decode cX4_enrol 48 = .ok (.getfield 32, 3) := by decide +kernel
theorem dX4_enrol_51 : decode cX4_enrol 51 = .ok (.iconst 1, 1) := by decide +kernel
theorem dX4_enrol_52 : decode cX4_enrol 52 = .ok (.iadd, 1) := by decide +kernel
theorem dX4_enrol_53 : decode cX4_enrol 53 = .ok (.putfield 32, 3) := by decide +kernel
theorem dX4_enrol_56 : decode cX4_enrol 56 = .ok (.aload_n 0, 1) := by decide +kernel
theorem dX4_enrol_57 : decode cX4_enrol 57 = .ok (.getfield 32, 3) := by decide +kernel
theorem dX4_enrol_60 : decode cX4_enrol 60 = .ok (.iconst 1, 1) := by decide +kernel
theorem dX4_enrol_61 : decode cX4_enrol 61 = .ok (.isub, 1) := by decide +kernel
theorem dX4_enrol_62 : decode cX4_enrol 62 = .ok (.ireturn, 1) := by decide +kernel
theorem dX4_open_0 : decode cX4_open 0 = .ok (.aload_n 0, 1) := by decide +kernel
theorem dX4_open_1 : decode cX4_open 1 = .ok (.getfield 40, 3) := by decide +kernel
theorem dX4_open_4 : decode cX4_open 4 = .ok (.bipush 6, 2) := by decide +kernel
theorem dX4_open_6 : decode cX4_open 6 = .ok (.if_icmp .lt 5, 3) := by decide +kernel
theorem dX4_open_9 : decode cX4_open 9 = .ok (.iconst (-1), 1) := by decide +kernel
theorem dX4_open_10 : decode cX4_open 10 = .ok (.ireturn, 1) := by decide +kernel
theorem dX4_open_11 : decode cX4_open 11 = .ok (.aload_n 0, 1) := by decide +kernel
theorem dX4_open_12 : decode cX4_open 12 = .ok (.getfield 19, 3) := by decide +kernel
theorem dX4_open_15 : decode cX4_open 15 = .ok (.aload_n 0, 1) := by decide +kernel
theorem dX4_open_16 : decode cX4_open 16 = .ok (.getfield 40, 3) := by decide +kernel
theorem dX4_open_19 : decode cX4_open 19 = .ok (.aaload, 1) := by decide +kernel
theorem dX4_open_20 : decode cX4_open 20 = .ok (.iload_n 1, 1) := by decide +kernel
theorem dX4_open_21 : decode cX4_open 21 = .ok (.iload_n 2, 1) := by decide +kernel
theorem dX4_open_22 : decode cX4_open 22 = .ok (.invokevirtual 72, 3) := by decide +kernel
theorem dX4_open_25 : decode cX4_open 25 = .ok (.aload_n 0, 1) := by decide +kernel
theorem dX4_open_26 : decode cX4_open 26 = .ok (.dup, 1) := by decide +kernel
theorem dX4_open_27 : decode cX4_open 27 = .ok (.getfield 40, 3) := by decide +kernel
theorem dX4_open_30 : decode cX4_open 30 = .ok (.iconst 1, 1) := by decide +kernel
theorem dX4_open_31 : decode cX4_open 31 = .ok (.iadd, 1) := by decide +kernel
theorem dX4_open_32 : decode cX4_open 32 = .ok (.putfield 40, 3) := by decide +kernel
theorem dX4_open_35 : decode cX4_open 35 = .ok (.aload_n 0, 1) := by decide +kernel
theorem dX4_open_36 : decode cX4_open 36 = .ok (.getfield 40, 3) := by decide +kernel
theorem dX4_open_39 : decode cX4_open 39 = .ok (.iconst 1, 1) := by decide +kernel
theorem dX4_open_40 : decode cX4_open 40 = .ok (.isub, 1) := by decide +kernel
theorem dX4_open_41 : decode cX4_open 41 = .ok (.ireturn, 1) := by decide +kernel
theorem dX4_leave_0 : decode cX4_leave 0 = .ok (.aload_n 0, 1) := by decide +kernel
theorem dX4_leave_1 : decode cX4_leave 1 = .ok (.iload_n 1, 1) := by decide +kernel
theorem dX4_leave_2 : decode cX4_leave 2 = .ok (.invokevirtual 76, 3) := by decide +kernel
theorem dX4_leave_5 : decode cX4_leave 5 = .ok (.astore_n 2, 1) := by decide +kernel
theorem dX4_leave_6 : decode cX4_leave 6 = .ok (.aload_n 2, 1) := by decide +kernel
theorem dX4_leave_7 : decode cX4_leave 7 = .ok (.ifnonnull 4, 3) := by decide +kernel
theorem dX4_leave_10 : decode cX4_leave 10 = .ok (.return_, 1) := by decide +kernel
theorem dX4_leave_11 : decode cX4_leave 11 = .ok (.aload_n 0, 1) := by decide +kernel
theorem dX4_leave_12 : decode cX4_leave 12 = .ok (.aload_n 2, 1) := by decide +kernel
theorem dX4_leave_13 : decode cX4_leave 13 = .ok (.getfield 80, 3) := by decide +kernel
theorem dX4_leave_16 : decode cX4_leave 16 = .ok (.aload_n 2, 1) := by decide +kernel
theorem dX4_leave_17 : decode cX4_leave 17 = .ok (.getfield 83, 3) := by decide +kernel
theorem dX4_leave_20 : decode cX4_leave 20 = .ok (.invokevirtual 86, 3) := by decide +kernel
theorem dX4_leave_23 : decode cX4_leave 23 = .ok (.astore_n 3, 1) := by decide +kernel
theorem dX4_leave_24 : decode cX4_leave 24 = .ok (.aload_n 3, 1) := by decide +kernel
theorem dX4_leave_25 : decode cX4_leave 25 = .ok (.ifnull 8, 3) := by decide +kernel
theorem dX4_leave_28 : decode cX4_leave 28 = .ok (.aload_n 3, 1) := by decide +kernel
theorem dX4_leave_29 : decode cX4_leave 29 = .ok (.iconst (-1), 1) := by decide +kernel
theorem dX4_leave_30 : decode cX4_leave 30 = .ok (.putfield 89, 3) := by decide +kernel
theorem dX4_leave_33 : decode cX4_leave 33 = .ok (.aload_n 2, 1) := by decide +kernel
theorem dX4_leave_34 : decode cX4_leave 34 = .ok (.iconst (-1), 1) := by decide +kernel
theorem dX4_leave_35 : decode cX4_leave 35 = .ok (.putfield 80, 3) := by decide +kernel
theorem dX4_leave_38 : decode cX4_leave 38 = .ok (.aload_n 2, 1) := by decide +kernel
theorem dX4_leave_39 : decode cX4_leave 39 = .ok (.iconst (-1), 1) := by decide +kernel
theorem dX4_leave_40 : decode cX4_leave 40 = .ok (.putfield 83, 3) := by decide +kernel
theorem dX4_leave_43 : decode cX4_leave 43 = .ok (.return_, 1) := by decide +kernel
theorem dX4_putOn_0 : decode cX4_putOn 0 = .ok (.aload_n 0, 1) := by decide +kernel
theorem dX4_putOn_1 : decode cX4_putOn 1 = .ok (.iload_n 1, 1) := by decide +kernel
theorem dX4_putOn_2 : decode cX4_putOn 2 = .ok (.iload_n 2, 1) := by decide +kernel
theorem dX4_putOn_3 : decode cX4_putOn 3 = .ok (.invokevirtual 86, 3) := by decide +kernel
theorem dX4_putOn_6 : decode cX4_putOn 6 = .ok (.astore 4, 2) := by decide +kernel
theorem dX4_putOn_8 : decode cX4_putOn 8 = .ok (.aload 4, 2) := by decide +kernel
theorem dX4_putOn_10 : decode cX4_putOn 10 = .ok (.ifnonnull 4, 3) := by decide +kernel
theorem dX4_putOn_13 : decode cX4_putOn 13 = .ok (.return_, 1) := by decide +kernel
theorem dX4_putOn_14 : decode cX4_putOn 14 = .ok (.aload 4, 2) := by decide +kernel
theorem dX4_putOn_16 : decode cX4_putOn 16 = .ok (.iload_n 3, 1) := by decide +kernel
theorem dX4_putOn_17 : decode cX4_putOn 17 = .ok (.putfield 89, 3) := by decide +kernel
theorem dX4_putOn_20 : decode cX4_putOn 20 = .ok (.aload_n 0, 1) := by decide +kernel
theorem dX4_putOn_21 : decode cX4_putOn 21 = .ok (.iload_n 3, 1) := by decide +kernel
theorem dX4_putOn_22 : decode cX4_putOn 22 = .ok (.invokevirtual 76, 3) := by decide +kernel
theorem dX4_putOn_25 : decode cX4_putOn 25 = .ok (.astore 5, 2) := by decide +kernel
theorem dX4_putOn_27 : decode cX4_putOn 27 = .ok (.aload 5, 2) := by decide +kernel
theorem dX4_putOn_29 : decode cX4_putOn 29 = .ok (.ifnull 15, 3) := by decide +kernel
theorem dX4_putOn_32 : decode cX4_putOn 32 = .ok (.aload 5, 2) := by decide +kernel
theorem dX4_putOn_34 : decode cX4_putOn 34 = .ok (.iload_n 1, 1) := by decide +kernel
theorem dX4_putOn_35 : decode cX4_putOn 35 = .ok (.putfield 80, 3) := by decide +kernel
theorem dX4_putOn_38 : decode cX4_putOn 38 = .ok (.aload 5, 2) := by decide +kernel
theorem dX4_putOn_40 : decode cX4_putOn 40 = .ok (.iload_n 2, 1) := by decide +kernel
theorem dX4_putOn_41 : decode cX4_putOn 41 = .ok (.putfield 83, 3) := by decide +kernel
theorem dX4_putOn_44 : decode cX4_putOn 44 = .ok (.return_, 1) := by decide +kernel
theorem dX4_swapMembers_0 : decode cX4_swapMembers 0 = .ok (.aload_n 0, 1) := by decide +kernel
theorem dX4_swapMembers_1 : decode cX4_swapMembers 1 = .ok (.iload_n 1, 1) := by decide +kernel
theorem dX4_swapMembers_2 : decode cX4_swapMembers 2 = .ok (.iload_n 2, 1) := by decide +kernel
theorem dX4_swapMembers_3 : decode cX4_swapMembers 3 = .ok (.invokevirtual 86, 3) := by decide +kernel
theorem dX4_swapMembers_6 : decode cX4_swapMembers 6 = .ok (.astore 4, 2) := by decide +kernel
theorem dX4_swapMembers_8 : decode cX4_swapMembers 8 = .ok (.aload_n 0, 1) := by decide +kernel
theorem dX4_swapMembers_9 : decode cX4_swapMembers 9 = .ok (.iload_n 1, 1) := by decide +kernel
theorem dX4_swapMembers_10 : decode cX4_swapMembers 10 = .ok (.iload_n 3, 1) := by decide +kernel
theorem dX4_swapMembers_11 : decode cX4_swapMembers 11 = .ok (.invokevirtual 86, 3) := by decide +kernel
theorem dX4_swapMembers_14 : decode cX4_swapMembers 14 = .ok (.astore 5, 2) := by decide +kernel
theorem dX4_swapMembers_16 : decode cX4_swapMembers 16 = .ok (.aload 4, 2) := by decide +kernel
theorem dX4_swapMembers_18 : decode cX4_swapMembers 18 = .ok (.ifnull 8, 3) := by decide +kernel
theorem dX4_swapMembers_21 : decode cX4_swapMembers 21 = .ok (.aload 5, 2) := by decide +kernel
theorem dX4_swapMembers_23 : decode cX4_swapMembers 23 = .ok (.ifnonnull 4, 3) := by decide +kernel
theorem dX4_swapMembers_26 : decode cX4_swapMembers 26 = .ok (.return_, 1) := by decide +kernel
theorem dX4_swapMembers_27 : decode cX4_swapMembers 27 = .ok (.aload 4, 2) := by decide +kernel
theorem dX4_swapMembers_29 : decode cX4_swapMembers 29 = .ok (.getfield 89, 3) := by decide +kernel
theorem dX4_swapMembers_32 : decode cX4_swapMembers 32 = .ok (.istore 6, 2) := by decide +kernel
theorem dX4_swapMembers_34 : decode cX4_swapMembers 34 = .ok (.aload 5, 2) := by decide +kernel
theorem dX4_swapMembers_36 : decode cX4_swapMembers 36 = .ok (.getfield 89, 3) := by decide +kernel
theorem dX4_swapMembers_39 : decode cX4_swapMembers 39 = .ok (.istore 7, 2) := by decide +kernel
theorem dX4_swapMembers_41 : decode cX4_swapMembers 41 = .ok (.aload_n 0, 1) := by decide +kernel
theorem dX4_swapMembers_42 : decode cX4_swapMembers 42 = .ok (.iload_n 1, 1) := by decide +kernel
theorem dX4_swapMembers_43 : decode cX4_swapMembers 43 = .ok (.iload_n 2, 1) := by decide +kernel
theorem dX4_swapMembers_44 : decode cX4_swapMembers 44 = .ok (.iload 7, 2) := by decide +kernel
theorem dX4_swapMembers_46 : decode cX4_swapMembers 46 = .ok (.invokevirtual 94, 3) := by decide +kernel
theorem dX4_swapMembers_49 : decode cX4_swapMembers 49 = .ok (.aload_n 0, 1) := by decide +kernel
theorem dX4_swapMembers_50 : decode cX4_swapMembers 50 = .ok (.iload_n 1, 1) := by decide +kernel
theorem dX4_swapMembers_51 : decode cX4_swapMembers 51 = .ok (.iload_n 3, 1) := by decide +kernel
theorem dX4_swapMembers_52 : decode cX4_swapMembers 52 = .ok (.iload 6, 2) := by decide +kernel
theorem dX4_swapMembers_54 : decode cX4_swapMembers 54 = .ok (.invokevirtual 94, 3) := by decide +kernel
theorem dX4_swapMembers_57 : decode cX4_swapMembers 57 = .ok (.return_, 1) := by decide +kernel
theorem dX4_tireMembers_0 : decode cX4_tireMembers 0 = .ok (.iconst 0, 1) := by decide +kernel
theorem dX4_tireMembers_1 : decode cX4_tireMembers 1 = .ok (.istore_n 3, 1) := by decide +kernel
theorem dX4_tireMembers_2 : decode cX4_tireMembers 2 = .ok (.iload_n 3, 1) := by decide +kernel
theorem dX4_tireMembers_3 : decode cX4_tireMembers 3 = .ok (.aload_n 1, 1) := by decide +kernel
theorem dX4_tireMembers_4 : decode cX4_tireMembers 4 = .ok (.getfield 98, 3) := by decide +kernel
theorem dX4_tireMembers_7 : decode cX4_tireMembers 7 = .ok (.if_icmp .ge 43, 3) := by decide +kernel
theorem dX4_tireMembers_10 : decode cX4_tireMembers 10 = .ok (.aload_n 0, 1) := by decide +kernel
theorem dX4_tireMembers_11 : decode cX4_tireMembers 11 = .ok (.aload_n 1, 1) := by decide +kernel
theorem dX4_tireMembers_12 : decode cX4_tireMembers 12 = .ok (.getfield 101, 3) := by decide +kernel
theorem dX4_tireMembers_15 : decode cX4_tireMembers 15 = .ok (.iload_n 3, 1) := by decide +kernel
theorem dX4_tireMembers_16 : decode cX4_tireMembers 16 = .ok (.aaload, 1) := by decide +kernel
theorem dX4_tireMembers_17 : decode cX4_tireMembers 17 = .ok (.getfield 89, 3) := by decide +kernel
theorem dX4_tireMembers_20 : decode cX4_tireMembers 20 = .ok (.invokevirtual 76, 3) := by decide +kernel
theorem dX4_tireMembers_23 : decode cX4_tireMembers 23 = .ok (.astore 4, 2) := by decide +kernel
theorem dX4_tireMembers_25 : decode cX4_tireMembers 25 = .ok (.aload 4, 2) := by decide +kernel
theorem dX4_tireMembers_27 : decode cX4_tireMembers 27 = .ok (.ifnull 17, 3) := by decide +kernel
theorem dX4_tireMembers_30 : decode cX4_tireMembers 30 = .ok (.aload 4, 2) := by decide +kernel
theorem dX4_tireMembers_32 : decode cX4_tireMembers 32 = .ok (.invokevirtual 105, 3) := by decide +kernel
theorem dX4_tireMembers_35 : decode cX4_tireMembers 35 = .ok (.ifCond .eq 9, 3) := by decide +kernel
theorem dX4_tireMembers_38 : decode cX4_tireMembers 38 = .ok (.aload 4, 2) := by decide +kernel
theorem dX4_tireMembers_40 : decode cX4_tireMembers 40 = .ok (.iload_n 2, 1) := by decide +kernel
theorem dX4_tireMembers_41 : decode cX4_tireMembers 41 = .ok (.invokevirtual 109, 3) := by decide +kernel
theorem dX4_tireMembers_44 : decode cX4_tireMembers 44 = .ok (.iinc 3 1, 3) := by decide +kernel
theorem dX4_tireMembers_47 : decode cX4_tireMembers 47 = .ok (.goto (-45), 3) := by decide +kernel
theorem dX4_tireMembers_50 : decode cX4_tireMembers 50 = .ok (.return_, 1) := by decide +kernel
theorem dX4_membersInAll_0 : decode cX4_membersInAll 0 = .ok (.iconst 0, 1) := by decide +kernel
theorem dX4_membersInAll_1 : decode cX4_membersInAll 1 = .ok (.istore_n 1, 1) := by decide +kernel
theorem dX4_membersInAll_2 : decode cX4_membersInAll 2 = .ok (.iconst 0, 1) := by decide +kernel
theorem dX4_membersInAll_3 : decode cX4_membersInAll 3 = .ok (.istore_n 2, 1) := by decide +kernel
theorem dX4_membersInAll_4 : decode cX4_membersInAll 4 = .ok (.iload_n 2, 1) := by decide +kernel
theorem dX4_membersInAll_5 : decode cX4_membersInAll 5 = .ok (.aload_n 0, 1) := by decide +kernel
theorem dX4_membersInAll_6 : decode cX4_membersInAll 6 = .ok (.getfield 40, 3) := by decide +kernel
theorem dX4_membersInAll_9 : decode cX4_membersInAll 9 = .ok (.if_icmp .ge 21, 3) := by decide +kernel
theorem dX4_membersInAll_12 : decode cX4_membersInAll 12 = .ok (.iload_n 1, 1) := by decide +kernel
theorem dX4_membersInAll_13 : decode cX4_membersInAll 13 = .ok (.aload_n 0, 1) := by decide +kernel
theorem dX4_membersInAll_14 : decode cX4_membersInAll 14 = .ok (.getfield 19, 3) := by decide +kernel
theorem dX4_membersInAll_17 : decode cX4_membersInAll 17 = .ok (.iload_n 2, 1) := by decide +kernel
theorem dX4_membersInAll_18 : decode cX4_membersInAll 18 = .ok (.aaload, 1) := by decide +kernel
theorem dX4_membersInAll_19 : decode cX4_membersInAll 19 = .ok (.invokevirtual 113, 3) := by decide +kernel
theorem dX4_membersInAll_22 : decode cX4_membersInAll 22 = .ok (.iadd, 1) := by decide +kernel
theorem dX4_membersInAll_23 : decode cX4_membersInAll 23 = .ok (.istore_n 1, 1) := by decide +kernel
theorem dX4_membersInAll_24 : decode cX4_membersInAll 24 = .ok (.iinc 2 1, 3) := by decide +kernel
theorem dX4_membersInAll_27 : decode cX4_membersInAll 27 = .ok (.goto (-23), 3) := by decide +kernel
theorem dX4_membersInAll_30 : decode cX4_membersInAll 30 = .ok (.iload_n 1, 1) := by decide +kernel
theorem dX4_membersInAll_31 : decode cX4_membersInAll 31 = .ok (.ireturn, 1) := by decide +kernel
theorem dX4_absentInAll_0 : decode cX4_absentInAll 0 = .ok (.iconst 0, 1) := by decide +kernel
theorem dX4_absentInAll_1 : decode cX4_absentInAll 1 = .ok (.istore_n 1, 1) := by decide +kernel
theorem dX4_absentInAll_2 : decode cX4_absentInAll 2 = .ok (.iconst 0, 1) := by decide +kernel
theorem dX4_absentInAll_3 : decode cX4_absentInAll 3 = .ok (.istore_n 2, 1) := by decide +kernel
theorem dX4_absentInAll_4 : decode cX4_absentInAll 4 = .ok (.iload_n 2, 1) := by decide +kernel
theorem dX4_absentInAll_5 : decode cX4_absentInAll 5 = .ok (.aload_n 0, 1) := by decide +kernel
theorem dX4_absentInAll_6 : decode cX4_absentInAll 6 = .ok (.getfield 32, 3) := by decide +kernel
theorem dX4_absentInAll_9 : decode cX4_absentInAll 9 = .ok (.if_icmp .ge 24, 3) := by decide +kernel
theorem dX4_absentInAll_12 : decode cX4_absentInAll 12 = .ok (.aload_n 0, 1) := by decide +kernel
theorem dX4_absentInAll_13 : decode cX4_absentInAll 13 = .ok (.getfield 11, 3) := by decide +kernel
theorem dX4_absentInAll_16 : decode cX4_absentInAll 16 = .ok (.iload_n 2, 1) := by decide +kernel
theorem dX4_absentInAll_17 : decode cX4_absentInAll 17 = .ok (.aaload, 1) := by decide +kernel
theorem dX4_absentInAll_18 : decode cX4_absentInAll 18 = .ok (.invokevirtual 105, 3) := by decide +kernel
theorem dX4_absentInAll_21 : decode cX4_absentInAll 21 = .ok (.ifCond .ne 6, 3) := by decide +kernel
theorem dX4_absentInAll_24 : decode cX4_absentInAll 24 = .ok (.iinc 1 1, 3) := by decide +kernel
theorem dX4_absentInAll_27 : decode cX4_absentInAll 27 = .ok (.iinc 2 1, 3) := by decide +kernel
theorem dX4_absentInAll_30 : decode cX4_absentInAll 30 = .ok (.goto (-26), 3) := by decide +kernel
theorem dX4_absentInAll_33 : decode cX4_absentInAll 33 = .ok (.iload_n 1, 1) := by decide +kernel
theorem dX4_absentInAll_34 : decode cX4_absentInAll 34 = .ok (.ireturn, 1) := by decide +kernel
theorem dX4_tell_0 : decode cX4_tell 0 = .ok (.iload_n 1, 1) := by decide +kernel
theorem dX4_tell_1 : decode cX4_tell 1 = .ok (.tableswitch 69 0 5 #[39, 44, 49, 54, 59, 64], 39) := by decide +kernel
theorem dX4_tell_40 : decode cX4_tell 40 = .ok (.aload_n 0, 1) := by decide +kernel
theorem dX4_tell_41 : decode cX4_tell 41 = .ok (.getfield 52, 3) := by decide +kernel
theorem dX4_tell_44 : decode cX4_tell 44 = .ok (.ireturn, 1) := by decide +kernel
theorem dX4_tell_45 : decode cX4_tell 45 = .ok (.aload_n 0, 1) := by decide +kernel
theorem dX4_tell_46 : decode cX4_tell 46 = .ok (.getfield 32, 3) := by decide +kernel
theorem dX4_tell_49 : decode cX4_tell 49 = .ok (.ireturn, 1) := by decide +kernel
theorem dX4_tell_50 : decode cX4_tell 50 = .ok (.aload_n 0, 1) := by decide +kernel
theorem dX4_tell_51 : decode cX4_tell 51 = .ok (.getfield 40, 3) := by decide +kernel
theorem dX4_tell_54 : decode cX4_tell 54 = .ok (.ireturn, 1) := by decide +kernel
theorem dX4_tell_55 : decode cX4_tell 55 = .ok (.aload_n 0, 1) := by decide +kernel
theorem dX4_tell_56 : decode cX4_tell 56 = .ok (.invokevirtual 117, 3) := by decide +kernel
theorem dX4_tell_59 : decode cX4_tell 59 = .ok (.ireturn, 1) := by decide +kernel
theorem dX4_tell_60 : decode cX4_tell 60 = .ok (.aload_n 0, 1) := by decide +kernel
theorem dX4_tell_61 : decode cX4_tell 61 = .ok (.invokevirtual 120, 3) := by decide +kernel
theorem dX4_tell_64 : decode cX4_tell 64 = .ok (.ireturn, 1) := by decide +kernel
theorem dX4_tell_65 : decode cX4_tell 65 = .ok (.aload_n 0, 1) := by decide +kernel
theorem dX4_tell_66 : decode cX4_tell 66 = .ok (.getfield 55, 3) := by decide +kernel
theorem dX4_tell_69 : decode cX4_tell 69 = .ok (.ireturn, 1) := by decide +kernel
theorem dX4_tell_70 : decode cX4_tell 70 = .ok (.aload_n 0, 1) := by decide +kernel
theorem dX4_tell_71 : decode cX4_tell 71 = .ok (.getfield 58, 3) := by decide +kernel
theorem dX4_tell_74 : decode cX4_tell 74 = .ok (.ireturn, 1) := by decide +kernel
theorem dX4_bandByPoints_0 : decode cX4_bandByPoints 0 = .ok (.iconst 0, 1) := by decide +kernel
theorem dX4_bandByPoints_1 : decode cX4_bandByPoints 1 = .ok (.istore_n 2, 1) := by decide +kernel
theorem dX4_bandByPoints_2 : decode cX4_bandByPoints 2 = .ok (.iload_n 2, 1) := by decide +kernel
theorem dX4_bandByPoints_3 : decode cX4_bandByPoints 3 = .ok (.aload_n 0, 1) := by decide +kernel
theorem dX4_bandByPoints_4 : decode cX4_bandByPoints 4 = .ok (.getfield 40, 3) := by decide +kernel
theorem dX4_bandByPoints_7 : decode cX4_bandByPoints 7 = .ok (.if_icmp .ge 29, 3) := by decide +kernel
theorem dX4_bandByPoints_10 : decode cX4_bandByPoints 10 = .ok (.aload_n 0, 1) := by decide +kernel
theorem dX4_bandByPoints_11 : decode cX4_bandByPoints 11 = .ok (.iload_n 2, 1) := by decide +kernel
theorem dX4_bandByPoints_12 : decode cX4_bandByPoints 12 = .ok (.aload_n 0, 1) := by decide +kernel
theorem dX4_bandByPoints_13 : decode cX4_bandByPoints 13 = .ok (.getfield 19, 3) := by decide +kernel
theorem dX4_bandByPoints_16 : decode cX4_bandByPoints 16 = .ok (.iload_n 2, 1) := by decide +kernel
theorem dX4_bandByPoints_17 : decode cX4_bandByPoints 17 = .ok (.aaload, 1) := by decide +kernel
theorem dX4_bandByPoints_18 : decode cX4_bandByPoints 18 = .ok (.getfield 123, 3) := by decide +kernel
theorem dX4_bandByPoints_21 : decode cX4_bandByPoints 21 = .ok (.invokevirtual 126, 3) := by decide +kernel
theorem dX4_bandByPoints_24 : decode cX4_bandByPoints 24 = .ok (.iload_n 1, 1) := by decide +kernel
theorem dX4_bandByPoints_25 : decode cX4_bandByPoints 25 = .ok (.if_icmp .ne 5, 3) := by decide +kernel
theorem dX4_bandByPoints_28 : decode cX4_bandByPoints 28 = .ok (.iload_n 2, 1) := by decide +kernel
theorem dX4_bandByPoints_29 : decode cX4_bandByPoints 29 = .ok (.ireturn, 1) := by decide +kernel
theorem dX4_bandByPoints_30 : decode cX4_bandByPoints 30 = .ok (.iinc 2 1, 3) := by decide +kernel
theorem dX4_bandByPoints_33 : decode cX4_bandByPoints 33 = .ok (.goto (-31), 3) := by decide +kernel
theorem dX4_bandByPoints_36 : decode cX4_bandByPoints 36 = .ok (.iconst (-1), 1) := by decide +kernel
theorem dX4_bandByPoints_37 : decode cX4_bandByPoints 37 = .ok (.ireturn, 1) := by decide +kernel
theorem dX4_aheadByPoints_0 : decode cX4_aheadByPoints 0 = .ok (.iconst 0, 1) := by decide +kernel
theorem dX4_aheadByPoints_1 : decode cX4_aheadByPoints 1 = .ok (.istore_n 3, 1) := by decide +kernel
theorem dX4_aheadByPoints_2 : decode cX4_aheadByPoints 2 = .ok (.iconst 0, 1) := by decide +kernel
theorem dX4_aheadByPoints_3 : decode cX4_aheadByPoints 3 = .ok (.istore 4, 2) := by decide +kernel
theorem dX4_aheadByPoints_5 : decode cX4_aheadByPoints 5 = .ok (.iload 4, 2) := by decide +kernel
theorem dX4_aheadByPoints_7 : decode cX4_aheadByPoints 7 = .ok (.aload_n 0, 1) := by decide +kernel
theorem dX4_aheadByPoints_8 : decode cX4_aheadByPoints 8 = .ok (.getfield 40, 3) := by decide +kernel
theorem dX4_aheadByPoints_11 : decode cX4_aheadByPoints 11 = .ok (.if_icmp .ge 46, 3) := by decide +kernel
theorem dX4_aheadByPoints_14 : decode cX4_aheadByPoints 14 = .ok (.aload_n 0, 1) := by decide +kernel
theorem dX4_aheadByPoints_15 : decode cX4_aheadByPoints 15 = .ok (.getfield 19, 3) := by decide +kernel
theorem dX4_aheadByPoints_18 : decode cX4_aheadByPoints 18 = .ok (.iload 4, 2) := by decide +kernel
theorem dX4_aheadByPoints_20 : decode cX4_aheadByPoints 20 = .ok (.aaload, 1) := by decide +kernel
theorem dX4_aheadByPoints_21 : decode cX4_aheadByPoints 21 = .ok (.getfield 123, 3) := by decide +kernel
theorem dX4_aheadByPoints_24 : decode cX4_aheadByPoints 24 = .ok (.iload_n 2, 1) := by decide +kernel
theorem dX4_aheadByPoints_25 : decode cX4_aheadByPoints 25 = .ok (.if_icmp .gt 23, 3) := by decide +kernel
theorem dX4_aheadByPoints_28 : decode cX4_aheadByPoints 28 = .ok (.aload_n 0, 1) := by decide +kernel
theorem dX4_aheadByPoints_29 : decode cX4_aheadByPoints 29 = .ok (.getfield 19, 3) := by decide +kernel
theorem dX4_aheadByPoints_32 : decode cX4_aheadByPoints 32 = .ok (.iload 4, 2) := by decide +kernel
theorem dX4_aheadByPoints_34 : decode cX4_aheadByPoints 34 = .ok (.aaload, 1) := by decide +kernel
theorem dX4_aheadByPoints_35 : decode cX4_aheadByPoints 35 = .ok (.getfield 123, 3) := by decide +kernel
theorem dX4_aheadByPoints_38 : decode cX4_aheadByPoints 38 = .ok (.iload_n 2, 1) := by decide +kernel
theorem dX4_aheadByPoints_39 : decode cX4_aheadByPoints 39 = .ok (.if_icmp .ne 12, 3) := by decide +kernel
theorem dX4_aheadByPoints_42 : decode cX4_aheadByPoints 42 = .ok (.iload 4, 2) := by decide +kernel
theorem dX4_aheadByPoints_44 : decode cX4_aheadByPoints 44 = .ok (.iload_n 1, 1) := by decide +kernel
theorem dX4_aheadByPoints_45 : decode cX4_aheadByPoints 45 = .ok (.if_icmp .ge 6, 3) := by decide +kernel
theorem dX4_aheadByPoints_48 : decode cX4_aheadByPoints 48 = .ok (.iinc 3 1, 3) := by decide +kernel
theorem dX4_aheadByPoints_51 : decode cX4_aheadByPoints 51 = .ok (.iinc 4 1, 3) := by decide +kernel
theorem dX4_aheadByPoints_54 : decode cX4_aheadByPoints 54 = .ok (.goto (-49), 3) := by decide +kernel
theorem dX4_aheadByPoints_57 : decode cX4_aheadByPoints 57 = .ok (.iload_n 3, 1) := by decide +kernel
theorem dX4_aheadByPoints_58 : decode cX4_aheadByPoints 58 = .ok (.ireturn, 1) := by decide +kernel
theorem dX4_bestFree_0 : decode cX4_bestFree 0 = .ok (.iconst (-1), 1) := by decide +kernel
theorem dX4_bestFree_1 : decode cX4_bestFree 1 = .ok (.istore_n 2, 1) := by decide +kernel
theorem dX4_bestFree_2 : decode cX4_bestFree 2 = .ok (.iconst (-1), 1) := by decide +kernel
theorem dX4_bestFree_3 : decode cX4_bestFree 3 = .ok (.istore_n 3, 1) := by decide +kernel
theorem dX4_bestFree_4 : decode cX4_bestFree 4 = .ok (.iconst 0, 1) := by decide +kernel
theorem dX4_bestFree_5 : decode cX4_bestFree 5 = .ok (.istore 4, 2) := by decide +kernel
theorem dX4_bestFree_7 : decode cX4_bestFree 7 = .ok (.iload 4, 2) := by decide +kernel
theorem dX4_bestFree_9 : decode cX4_bestFree 9 = .ok (.aload_n 0, 1) := by decide +kernel
theorem dX4_bestFree_10 : decode cX4_bestFree 10 = .ok (.getfield 32, 3) := by decide +kernel
theorem dX4_bestFree_13 : decode cX4_bestFree 13 = .ok (.if_icmp .ge 55, 3) := by decide +kernel
theorem dX4_bestFree_16 : decode cX4_bestFree 16 = .ok (.aload_n 0, 1) := by decide +kernel
theorem dX4_bestFree_17 : decode cX4_bestFree 17 = .ok (.getfield 11, 3) := by decide +kernel
theorem dX4_bestFree_20 : decode cX4_bestFree 20 = .ok (.iload 4, 2) := by decide +kernel
theorem dX4_bestFree_22 : decode cX4_bestFree 22 = .ok (.aaload, 1) := by decide +kernel
theorem dX4_bestFree_23 : decode cX4_bestFree 23 = .ok (.astore 5, 2) := by decide +kernel
theorem dX4_bestFree_25 : decode cX4_bestFree 25 = .ok (.aload 5, 2) := by decide +kernel
theorem dX4_bestFree_27 : decode cX4_bestFree 27 = .ok (.getfield 80, 3) := by decide +kernel
theorem dX4_bestFree_30 : decode cX4_bestFree 30 = .ok (.iconst (-1), 1) := by decide +kernel
theorem dX4_bestFree_31 : decode cX4_bestFree 31 = .ok (.if_icmp .ne 31, 3) := by decide +kernel
theorem dX4_bestFree_34 : decode cX4_bestFree 34 = .ok (.aload 5, 2) := by decide +kernel
theorem dX4_bestFree_36 : decode cX4_bestFree 36 = .ok (.invokevirtual 105, 3) := by decide +kernel
theorem dX4_bestFree_39 : decode cX4_bestFree 39 = .ok (.ifCond .eq 23, 3) := by decide +kernel
theorem dX4_bestFree_42 : decode cX4_bestFree 42 = .ok (.aload 5, 2) := by decide +kernel
theorem dX4_bestFree_44 : decode cX4_bestFree 44 = .ok (.iload_n 1, 1) := by decide +kernel
theorem dX4_bestFree_45 : decode cX4_bestFree 45 = .ok (.invokevirtual 130, 3) := by decide +kernel
theorem dX4_bestFree_48 : decode cX4_bestFree 48 = .ok (.iload_n 3, 1) := by decide +kernel
theorem dX4_bestFree_49 : decode cX4_bestFree 49 = .ok (.if_icmp .le 13, 3) := by decide +kernel
theorem dX4_bestFree_52 : decode cX4_bestFree 52 = .ok (.iload 4, 2) := by decide +kernel
theorem dX4_bestFree_54 : decode cX4_bestFree 54 = .ok (.istore_n 2, 1) := by decide +kernel
theorem dX4_bestFree_55 : decode cX4_bestFree 55 = .ok (.aload 5, 2) := by decide +kernel
theorem dX4_bestFree_57 : decode cX4_bestFree 57 = .ok (.iload_n 1, 1) := by decide +kernel
theorem dX4_bestFree_58 : decode cX4_bestFree 58 = .ok (.invokevirtual 130, 3) := by decide +kernel
theorem dX4_bestFree_61 : decode cX4_bestFree 61 = .ok (.istore_n 3, 1) := by decide +kernel
theorem dX4_bestFree_62 : decode cX4_bestFree 62 = .ok (.iinc 4 1, 3) := by decide +kernel
theorem dX4_bestFree_65 : decode cX4_bestFree 65 = .ok (.goto (-58), 3) := by decide +kernel
theorem dX4_bestFree_68 : decode cX4_bestFree 68 = .ok (.iload_n 2, 1) := by decide +kernel
theorem dX4_bestFree_69 : decode cX4_bestFree 69 = .ok (.ireturn, 1) := by decide +kernel
theorem dX4_meanMarks_0 : decode cX4_meanMarks 0 = .ok (.iconst 0, 1) := by decide +kernel
theorem dX4_meanMarks_1 : decode cX4_meanMarks 1 = .ok (.istore_n 1, 1) := by decide +kernel
theorem dX4_meanMarks_2 : decode cX4_meanMarks 2 = .ok (.iconst 0, 1) := by decide +kernel
theorem dX4_meanMarks_3 : decode cX4_meanMarks 3 = .ok (.istore_n 2, 1) := by decide +kernel
theorem dX4_meanMarks_4 : decode cX4_meanMarks 4 = .ok (.iconst 0, 1) := by decide +kernel
theorem dX4_meanMarks_5 : decode cX4_meanMarks 5 = .ok (.istore_n 3, 1) := by decide +kernel
theorem dX4_meanMarks_6 : decode cX4_meanMarks 6 = .ok (.iload_n 3, 1) := by decide +kernel
theorem dX4_meanMarks_7 : decode cX4_meanMarks 7 = .ok (.aload_n 0, 1) := by decide +kernel
theorem dX4_meanMarks_8 : decode cX4_meanMarks 8 = .ok (.getfield 40, 3) := by decide +kernel
theorem dX4_meanMarks_11 : decode cX4_meanMarks 11 = .ok (.if_icmp .ge 37, 3) := by decide +kernel
theorem dX4_meanMarks_14 : decode cX4_meanMarks 14 = .ok (.aload_n 0, 1) := by decide +kernel
theorem dX4_meanMarks_15 : decode cX4_meanMarks 15 = .ok (.getfield 19, 3) := by decide +kernel
theorem dX4_meanMarks_18 : decode cX4_meanMarks 18 = .ok (.iload_n 3, 1) := by decide +kernel
theorem dX4_meanMarks_19 : decode cX4_meanMarks 19 = .ok (.aaload, 1) := by decide +kernel
theorem dX4_meanMarks_20 : decode cX4_meanMarks 20 = .ok (.getfield 134, 3) := by decide +kernel
theorem dX4_meanMarks_23 : decode cX4_meanMarks 23 = .ok (.iconst (-1), 1) := by decide +kernel
theorem dX4_meanMarks_24 : decode cX4_meanMarks 24 = .ok (.if_icmp .eq 18, 3) := by decide +kernel
theorem dX4_meanMarks_27 : decode cX4_meanMarks 27 = .ok (.iload_n 1, 1) := by decide +kernel
theorem dX4_meanMarks_28 : decode cX4_meanMarks 28 = .ok (.aload_n 0, 1) := by decide +kernel
theorem dX4_meanMarks_29 : decode cX4_meanMarks 29 = .ok (.getfield 19, 3) := by decide +kernel
theorem dX4_meanMarks_32 : decode cX4_meanMarks 32 = .ok (.iload_n 3, 1) := by decide +kernel
theorem dX4_meanMarks_33 : decode cX4_meanMarks 33 = .ok (.aaload, 1) := by decide +kernel
theorem dX4_meanMarks_34 : decode cX4_meanMarks 34 = .ok (.getfield 134, 3) := by decide +kernel
theorem dX4_meanMarks_37 : decode cX4_meanMarks 37 = .ok (.iadd, 1) := by decide +kernel
theorem dX4_meanMarks_38 : decode cX4_meanMarks 38 = .ok (.istore_n 1, 1) := by decide +kernel
theorem dX4_meanMarks_39 : decode cX4_meanMarks 39 = .ok (.iinc 2 1, 3) := by decide +kernel
theorem dX4_meanMarks_42 : decode cX4_meanMarks 42 = .ok (.iinc 3 1, 3) := by decide +kernel
theorem dX4_meanMarks_45 : decode cX4_meanMarks 45 = .ok (.goto (-39), 3) := by decide +kernel
theorem dX4_meanMarks_48 : decode cX4_meanMarks 48 = .ok (.iload_n 2, 1) := by decide +kernel
theorem dX4_meanMarks_49 : decode cX4_meanMarks 49 = .ok (.ifCond .ne 7, 3) := by decide +kernel
theorem dX4_meanMarks_52 : decode cX4_meanMarks 52 = .ok (.dconst 0, 1) := by decide +kernel
theorem dX4_meanMarks_53 : decode cX4_meanMarks 53 = .ok (.goto 8, 3) := by decide +kernel
theorem dX4_meanMarks_56 : decode cX4_meanMarks 56 = .ok (.iload_n 1, 1) := by decide +kernel
theorem dX4_meanMarks_57 : decode cX4_meanMarks 57 = .ok (.i2d, 1) := by decide +kernel
theorem dX4_meanMarks_58 : decode cX4_meanMarks 58 = .ok (.iload_n 2, 1) := by decide +kernel
theorem dX4_meanMarks_59 : decode cX4_meanMarks 59 = .ok (.i2d, 1) := by decide +kernel
theorem dX4_meanMarks_60 : decode cX4_meanMarks 60 = .ok (.ddiv, 1) := by decide +kernel
theorem dX4_meanMarks_61 : decode cX4_meanMarks 61 = .ok (.dreturn, 1) := by decide +kernel
theorem dX4_checksum_0 : decode cX4_checksum 0 = .ok (.ldc2_w 137, 3) := by decide +kernel
theorem dX4_checksum_3 : decode cX4_checksum 3 = .ok (.lstore_n 1, 1) := by decide +kernel
theorem dX4_checksum_4 : decode cX4_checksum 4 = .ok (.iconst 0, 1) := by decide +kernel
theorem dX4_checksum_5 : decode cX4_checksum 5 = .ok (.istore_n 3, 1) := by decide +kernel
theorem dX4_checksum_6 : decode cX4_checksum 6 = .ok (.iload_n 3, 1) := by decide +kernel
theorem dX4_checksum_7 : decode cX4_checksum 7 = .ok (.bipush 7, 2) := by decide +kernel
theorem dX4_checksum_9 : decode cX4_checksum 9 = .ok (.if_icmp .ge 22, 3) := by decide +kernel
theorem dX4_checksum_12 : decode cX4_checksum 12 = .ok (.lload_n 1, 1) := by decide +kernel
theorem dX4_checksum_13 : decode cX4_checksum 13 = .ok (.ldc2_w 139, 3) := by decide +kernel
theorem dX4_checksum_16 : decode cX4_checksum 16 = .ok (.lmul, 1) := by decide +kernel
theorem dX4_checksum_17 : decode cX4_checksum 17 = .ok (.aload_n 0, 1) := by decide +kernel
theorem dX4_checksum_18 : decode cX4_checksum 18 = .ok (.iload_n 3, 1) := by decide +kernel
theorem dX4_checksum_19 : decode cX4_checksum 19 = .ok (.invokevirtual 141, 3) := by decide +kernel
theorem dX4_checksum_22 : decode cX4_checksum 22 = .ok (.i2l, 1) := by decide +kernel
theorem dX4_checksum_23 : decode cX4_checksum 23 = .ok (.ladd, 1) := by decide +kernel
theorem dX4_checksum_24 : decode cX4_checksum 24 = .ok (.lstore_n 1, 1) := by decide +kernel
theorem dX4_checksum_25 : decode cX4_checksum 25 = .ok (.iinc 3 1, 3) := by decide +kernel
theorem dX4_checksum_28 : decode cX4_checksum 28 = .ok (.goto (-22), 3) := by decide +kernel
theorem dX4_checksum_31 : decode cX4_checksum 31 = .ok (.iconst 0, 1) := by decide +kernel
theorem dX4_checksum_32 : decode cX4_checksum 32 = .ok (.istore_n 3, 1) := by decide +kernel
theorem dX4_checksum_33 : decode cX4_checksum 33 = .ok (.iload_n 3, 1) := by decide +kernel
theorem dX4_checksum_34 : decode cX4_checksum 34 = .ok (.iconst 4, 1) := by decide +kernel
theorem dX4_checksum_35 : decode cX4_checksum 35 = .ok (.if_icmp .ge 37, 3) := by decide +kernel
theorem dX4_checksum_38 : decode cX4_checksum 38 = .ok (.lload_n 1, 1) := by decide +kernel
theorem dX4_checksum_39 : decode cX4_checksum 39 = .ok (.ldc2_w 139, 3) := by decide +kernel
theorem dX4_checksum_42 : decode cX4_checksum 42 = .ok (.lmul, 1) := by decide +kernel
theorem dX4_checksum_43 : decode cX4_checksum 43 = .ok (.aload_n 0, 1) := by decide +kernel
theorem dX4_checksum_44 : decode cX4_checksum 44 = .ok (.getfield 23, 3) := by decide +kernel
theorem dX4_checksum_47 : decode cX4_checksum 47 = .ok (.iload_n 3, 1) := by decide +kernel
theorem dX4_checksum_48 : decode cX4_checksum 48 = .ok (.iaload, 1) := by decide +kernel
theorem dX4_checksum_49 : decode cX4_checksum 49 = .ok (.i2l, 1) := by decide +kernel
theorem dX4_checksum_50 : decode cX4_checksum 50 = .ok (.ladd, 1) := by decide +kernel
theorem dX4_checksum_51 : decode cX4_checksum 51 = .ok (.lstore_n 1, 1) := by decide +kernel
theorem dX4_checksum_52 : decode cX4_checksum 52 = .ok (.lload_n 1, 1) := by decide +kernel
theorem dX4_checksum_53 : decode cX4_checksum 53 = .ok (.ldc2_w 139, 3) := by decide +kernel
theorem dX4_checksum_56 : decode cX4_checksum 56 = .ok (.lmul, 1) := by decide +kernel
theorem dX4_checksum_57 : decode cX4_checksum 57 = .ok (.aload_n 0, 1) := by decide +kernel
theorem dX4_checksum_58 : decode cX4_checksum 58 = .ok (.getfield 27, 3) := by decide +kernel
theorem dX4_checksum_61 : decode cX4_checksum 61 = .ok (.iload_n 3, 1) := by decide +kernel
theorem dX4_checksum_62 : decode cX4_checksum 62 = .ok (.iaload, 1) := by decide +kernel
theorem dX4_checksum_63 : decode cX4_checksum 63 = .ok (.i2l, 1) := by decide +kernel
theorem dX4_checksum_64 : decode cX4_checksum 64 = .ok (.ladd, 1) := by decide +kernel
theorem dX4_checksum_65 : decode cX4_checksum 65 = .ok (.lstore_n 1, 1) := by decide +kernel
theorem dX4_checksum_66 : decode cX4_checksum 66 = .ok (.iinc 3 1, 3) := by decide +kernel
theorem dX4_checksum_69 : decode cX4_checksum 69 = .ok (.goto (-36), 3) := by decide +kernel
theorem dX4_checksum_72 : decode cX4_checksum 72 = .ok (.iconst 0, 1) := by decide +kernel
theorem dX4_checksum_73 : decode cX4_checksum 73 = .ok (.istore_n 3, 1) := by decide +kernel
theorem dX4_checksum_74 : decode cX4_checksum 74 = .ok (.iload_n 3, 1) := by decide +kernel
theorem dX4_checksum_75 : decode cX4_checksum 75 = .ok (.aload_n 0, 1) := by decide +kernel
theorem dX4_checksum_76 : decode cX4_checksum 76 = .ok (.getfield 32, 3) := by decide +kernel
theorem dX4_checksum_79 : decode cX4_checksum 79 = .ok (.if_icmp .ge 44, 3) := by decide +kernel
theorem dX4_checksum_82 : decode cX4_checksum 82 = .ok (.iconst 0, 1) := by decide +kernel
theorem dX4_checksum_83 : decode cX4_checksum 83 = .ok (.istore 4, 2) := by decide +kernel
theorem dX4_checksum_85 : decode cX4_checksum 85 = .ok (.iload 4, 2) := by decide +kernel
theorem dX4_checksum_87 : decode cX4_checksum 87 = .ok (.bipush 10, 2) := by decide +kernel
theorem dX4_checksum_89 : decode cX4_checksum 89 = .ok (.if_icmp .ge 28, 3) := by decide +kernel
theorem dX4_checksum_92 : decode cX4_checksum 92 = .ok (.lload_n 1, 1) := by decide +kernel
theorem dX4_checksum_93 : decode cX4_checksum 93 = .ok (.ldc2_w 139, 3) := by decide +kernel
theorem dX4_checksum_96 : decode cX4_checksum 96 = .ok (.lmul, 1) := by decide +kernel
theorem dX4_checksum_97 : decode cX4_checksum 97 = .ok (.aload_n 0, 1) := by decide +kernel
theorem dX4_checksum_98 : decode cX4_checksum 98 = .ok (.getfield 11, 3) := by decide +kernel
theorem dX4_checksum_101 : decode cX4_checksum 101 = .ok (.iload_n 3, 1) := by decide +kernel
theorem dX4_checksum_102 : decode cX4_checksum 102 = .ok (.aaload, 1) := by decide +kernel
theorem dX4_checksum_103 : decode cX4_checksum 103 = .ok (.iload 4, 2) := by decide +kernel
theorem dX4_checksum_105 : decode cX4_checksum 105 = .ok (.invokevirtual 144, 3) := by decide +kernel
theorem dX4_checksum_108 : decode cX4_checksum 108 = .ok (.i2l, 1) := by decide +kernel
theorem dX4_checksum_109 : decode cX4_checksum 109 = .ok (.ladd, 1) := by decide +kernel
theorem dX4_checksum_110 : decode cX4_checksum 110 = .ok (.lstore_n 1, 1) := by decide +kernel
theorem dX4_checksum_111 : decode cX4_checksum 111 = .ok (.iinc 4 1, 3) := by decide +kernel
theorem dX4_checksum_114 : decode cX4_checksum 114 = .ok (.goto (-29), 3) := by decide +kernel
theorem dX4_checksum_117 : decode cX4_checksum 117 = .ok (.iinc 3 1, 3) := by decide +kernel
theorem dX4_checksum_120 : decode cX4_checksum 120 = .ok (.goto (-46), 3) := by decide +kernel
theorem dX4_checksum_123 : decode cX4_checksum 123 = .ok (.iconst 0, 1) := by decide +kernel
theorem dX4_checksum_124 : decode cX4_checksum 124 = .ok (.istore_n 3, 1) := by decide +kernel
theorem dX4_checksum_125 : decode cX4_checksum 125 = .ok (.iload_n 3, 1) := by decide +kernel
theorem dX4_checksum_126 : decode cX4_checksum 126 = .ok (.aload_n 0, 1) := by decide +kernel
theorem dX4_checksum_127 : decode cX4_checksum 127 = .ok (.getfield 40, 3) := by decide +kernel
theorem dX4_checksum_130 : decode cX4_checksum 130 = .ok (.if_icmp .ge 21, 3) := by decide +kernel
theorem dX4_checksum_133 : decode cX4_checksum 133 = .ok (.aload_n 0, 1) := by decide +kernel
theorem dX4_checksum_134 : decode cX4_checksum 134 = .ok (.lload_n 1, 1) := by decide +kernel
theorem dX4_checksum_135 : decode cX4_checksum 135 = .ok (.aload_n 0, 1) := by decide +kernel
theorem dX4_checksum_136 : decode cX4_checksum 136 = .ok (.getfield 19, 3) := by decide +kernel
theorem dX4_checksum_139 : decode cX4_checksum 139 = .ok (.iload_n 3, 1) := by decide +kernel
theorem dX4_checksum_140 : decode cX4_checksum 140 = .ok (.aaload, 1) := by decide +kernel
theorem dX4_checksum_141 : decode cX4_checksum 141 = .ok (.invokevirtual 145, 3) := by decide +kernel
theorem dX4_checksum_144 : decode cX4_checksum 144 = .ok (.lstore_n 1, 1) := by decide +kernel
theorem dX4_checksum_145 : decode cX4_checksum 145 = .ok (.iinc 3 1, 3) := by decide +kernel
theorem dX4_checksum_148 : decode cX4_checksum 148 = .ok (.goto (-23), 3) := by decide +kernel
theorem dX4_checksum_151 : decode cX4_checksum 151 = .ok (.lload_n 1, 1) := by decide +kernel
theorem dX4_checksum_152 : decode cX4_checksum 152 = .ok (.lreturn, 1) := by decide +kernel
theorem dX4_withBand_0 : decode cX4_withBand 0 = .ok (.lload_n 1, 1) := by decide +kernel
theorem dX4_withBand_1 : decode cX4_withBand 1 = .ok (.lstore 4, 2) := by decide +kernel
theorem dX4_withBand_3 : decode cX4_withBand 3 = .ok (.iconst 0, 1) := by decide +kernel
theorem dX4_withBand_4 : decode cX4_withBand 4 = .ok (.istore 6, 2) := by decide +kernel
theorem dX4_withBand_6 : decode cX4_withBand 6 = .ok (.iload 6, 2) := by decide +kernel
theorem dX4_withBand_8 : decode cX4_withBand 8 = .ok (.bipush 9, 2) := by decide +kernel
theorem dX4_withBand_10 : decode cX4_withBand 10 = .ok (.if_icmp .ge 25, 3) := by decide +kernel
theorem dX4_withBand_13 : decode cX4_withBand 13 = .ok (.lload 4, 2) := by decide +kernel
theorem dX4_withBand_15 : decode cX4_withBand 15 = .ok (.ldc2_w 139, 3) := by decide +kernel
theorem dX4_withBand_18 : decode cX4_withBand 18 = .ok (.lmul, 1) := by decide +kernel
theorem dX4_withBand_19 : decode cX4_withBand 19 = .ok (.aload_n 3, 1) := by decide +kernel
theorem dX4_withBand_20 : decode cX4_withBand 20 = .ok (.iload 6, 2) := by decide +kernel
theorem dX4_withBand_22 : decode cX4_withBand 22 = .ok (.invokevirtual 149, 3) := by decide +kernel
theorem dX4_withBand_25 : decode cX4_withBand 25 = .ok (.i2l, 1) := by decide +kernel
theorem dX4_withBand_26 : decode cX4_withBand 26 = .ok (.ladd, 1) := by decide +kernel
theorem dX4_withBand_27 : decode cX4_withBand 27 = .ok (.lstore 4, 2) := by decide +kernel
theorem dX4_withBand_29 : decode cX4_withBand 29 = .ok (.iinc 6 1, 3) := by decide +kernel
theorem dX4_withBand_32 : decode cX4_withBand 32 = .ok (.goto (-26), 3) := by decide +kernel
theorem dX4_withBand_35 : decode cX4_withBand 35 = .ok (.iconst 0, 1) := by decide +kernel
theorem dX4_withBand_36 : decode cX4_withBand 36 = .ok (.istore 6, 2) := by decide +kernel
theorem dX4_withBand_38 : decode cX4_withBand 38 = .ok (.iload 6, 2) := by decide +kernel
theorem dX4_withBand_40 : decode cX4_withBand 40 = .ok (.aload_n 3, 1) := by decide +kernel
theorem dX4_withBand_41 : decode cX4_withBand 41 = .ok (.getfield 98, 3) := by decide +kernel
theorem dX4_withBand_44 : decode cX4_withBand 44 = .ok (.if_icmp .ge 46, 3) := by decide +kernel
theorem dX4_withBand_47 : decode cX4_withBand 47 = .ok (.iconst 0, 1) := by decide +kernel
theorem dX4_withBand_48 : decode cX4_withBand 48 = .ok (.istore 7, 2) := by decide +kernel
theorem dX4_withBand_50 : decode cX4_withBand 50 = .ok (.iload 7, 2) := by decide +kernel
theorem dX4_withBand_52 : decode cX4_withBand 52 = .ok (.iconst 3, 1) := by decide +kernel
theorem dX4_withBand_53 : decode cX4_withBand 53 = .ok (.if_icmp .ge 31, 3) := by decide +kernel
theorem dX4_withBand_56 : decode cX4_withBand 56 = .ok (.lload 4, 2) := by decide +kernel
theorem dX4_withBand_58 : decode cX4_withBand 58 = .ok (.ldc2_w 139, 3) := by decide +kernel
theorem dX4_withBand_61 : decode cX4_withBand 61 = .ok (.lmul, 1) := by decide +kernel
theorem dX4_withBand_62 : decode cX4_withBand 62 = .ok (.aload_n 3, 1) := by decide +kernel
theorem dX4_withBand_63 : decode cX4_withBand 63 = .ok (.getfield 101, 3) := by decide +kernel
theorem dX4_withBand_66 : decode cX4_withBand 66 = .ok (.iload 6, 2) := by decide +kernel
theorem dX4_withBand_68 : decode cX4_withBand 68 = .ok (.aaload, 1) := by decide +kernel
theorem dX4_withBand_69 : decode cX4_withBand 69 = .ok (.iload 7, 2) := by decide +kernel
theorem dX4_withBand_71 : decode cX4_withBand 71 = .ok (.invokevirtual 150, 3) := by decide +kernel
theorem dX4_withBand_74 : decode cX4_withBand 74 = .ok (.i2l, 1) := by decide +kernel
theorem dX4_withBand_75 : decode cX4_withBand 75 = .ok (.ladd, 1) := by decide +kernel
theorem dX4_withBand_76 : decode cX4_withBand 76 = .ok (.lstore 4, 2) := by decide +kernel
theorem dX4_withBand_78 : decode cX4_withBand 78 = .ok (.iinc 7 1, 3) := by decide +kernel
theorem dX4_withBand_81 : decode cX4_withBand 81 = .ok (.goto (-31), 3) := by decide +kernel
theorem dX4_withBand_84 : decode cX4_withBand 84 = .ok (.iinc 6 1, 3) := by decide +kernel
theorem dX4_withBand_87 : decode cX4_withBand 87 = .ok (.goto (-49), 3) := by decide +kernel
theorem dX4_withBand_90 : decode cX4_withBand 90 = .ok (.lload 4, 2) := by decide +kernel
theorem dX4_withBand_92 : decode cX4_withBand 92 = .ok (.lreturn, 1) := by decide +kernel
theorem dX5_init_0 : decode cX5_init 0 = .ok (.aload_n 0, 1) := by decide +kernel
theorem dX5_init_1 : decode cX5_init 1 = .ok (.invokespecial 1, 3) := by decide +kernel
theorem dX5_init_4 : decode cX5_init 4 = .ok (.aload_n 0, 1) := by decide +kernel
theorem dX5_init_5 : decode cX5_init 5 = .ok (.new 7, 3) := by decide +kernel
theorem dX5_init_8 : decode cX5_init 8 = .ok (.dup, 1) := by decide +kernel
theorem dX5_init_9 : decode cX5_init 9 = .ok (.invokespecial 9, 3) := by decide +kernel
theorem dX5_init_12 : decode cX5_init 12 = .ok (.putfield 10, 3) := by decide +kernel
theorem dX5_init_15 : decode cX5_init 15 = .ok (.aload_n 0, 1) := by decide +kernel
theorem dX5_init_16 : decode cX5_init 16 = .ok (.aload_n 0, 1) := by decide +kernel
theorem dX5_init_17 : decode cX5_init 17 = .ok (.getfield 10, 3) := by decide +kernel
theorem dX5_init_20 : decode cX5_init 20 = .ok (.getfield 16, 3) := by decide +kernel
theorem dX5_init_23 : decode cX5_init 23 = .ok (.putfield 20, 3) := by decide +kernel
theorem dX5_init_26 : decode cX5_init 26 = .ok (.aload_n 0, 1) := by decide +kernel
theorem dX5_init_27 : decode cX5_init 27 = .ok (.new 7, 3) := by decide +kernel
theorem dX5_init_30 : decode cX5_init 30 = .ok (.dup, 1) := by decide +kernel
theorem dX5_init_31 : decode cX5_init 31 = .ok (.invokespecial 9, 3) := by decide +kernel
theorem dX5_init_34 : decode cX5_init 34 = .ok (.putfield 21, 3) := by decide +kernel
theorem dX5_init_37 : decode cX5_init 37 = .ok (.aload_n 0, 1) := by decide +kernel
theorem dX5_init_38 : decode cX5_init 38 = .ok (.aload_n 0, 1) := by decide +kernel
theorem dX5_init_39 : decode cX5_init 39 = .ok (.getfield 21, 3) := by decide +kernel
theorem dX5_init_42 : decode cX5_init 42 = .ok (.getfield 16, 3) := by decide +kernel
theorem dX5_init_45 : decode cX5_init 45 = .ok (.putfield 24, 3) := by decide +kernel
theorem dX5_init_48 : decode cX5_init 48 = .ok (.return_, 1) := by decide +kernel
theorem dX5_addPlayer_0 : decode cX5_addPlayer 0 = .ok (.iload_n 1, 1) := by decide +kernel
theorem dX5_addPlayer_1 : decode cX5_addPlayer 1 = .ok (.invokestatic 27, 3) := by decide +kernel
theorem dX5_addPlayer_4 : decode cX5_addPlayer 4 = .ok (.ifCond .eq 25, 3) := by decide +kernel
theorem dX5_addPlayer_7 : decode cX5_addPlayer 7 = .ok (.iload_n 2, 1) := by decide +kernel
theorem dX5_addPlayer_8 : decode cX5_addPlayer 8 = .ok (.invokestatic 27, 3) := by decide +kernel
theorem dX5_addPlayer_11 : decode cX5_addPlayer 11 = .ok (.ifCond .eq 18, 3) := by decide +kernel
theorem dX5_addPlayer_14 : decode cX5_addPlayer 14 = .ok (.iload_n 3, 1) := by decide +kernel
theorem dX5_addPlayer_15 : decode cX5_addPlayer 15 = .ok (.invokestatic 27, 3) := by decide +kernel
theorem dX5_addPlayer_18 : decode cX5_addPlayer 18 = .ok (.ifCond .eq 11, 3) := by decide +kernel
theorem dX5_addPlayer_21 : decode cX5_addPlayer 21 = .ok (.iload 4, 2) := by decide +kernel
theorem dX5_addPlayer_23 : decode cX5_addPlayer 23 = .ok (.invokestatic 27, 3) := by decide +kernel
theorem dX5_addPlayer_26 : decode cX5_addPlayer 26 = .ok (.ifCond .ne 13, 3) := by decide +kernel
theorem dX5_addPlayer_29 : decode cX5_addPlayer 29 = .ok (.new 31, 3) := by decide +kernel
theorem dX5_addPlayer_32 : decode cX5_addPlayer 32 = .ok (.dup, 1) := by decide +kernel
theorem dX5_addPlayer_33 : decode cX5_addPlayer 33 = .ok (.ldc 33, 2) := by decide +kernel
theorem dX5_addPlayer_35 : decode cX5_addPlayer 35 = .ok (.invokespecial 35, 3) := by decide +kernel
theorem dX5_addPlayer_38 : decode cX5_addPlayer 38 = .ok (.athrow, 1) := by decide +kernel
theorem dX5_addPlayer_39 : decode cX5_addPlayer 39 = .ok (.aload_n 0, 1) := by decide +kernel
theorem dX5_addPlayer_40 : decode cX5_addPlayer 40 = .ok (.getfield 20, 3) := by decide +kernel
theorem dX5_addPlayer_43 : decode cX5_addPlayer 43 = .ok (.getfield 38, 3) := by decide +kernel
theorem dX5_addPlayer_46 : decode cX5_addPlayer 46 = .ok (.bipush 24, 2) := by decide +kernel
theorem dX5_addPlayer_48 : decode cX5_addPlayer 48 = .ok (.if_icmp .lt 13, 3) := by decide +kernel
theorem dX5_addPlayer_51 : decode cX5_addPlayer 51 = .ok (.new 44, 3) := by decide +kernel
theorem dX5_addPlayer_54 : decode cX5_addPlayer 54 = .ok (.dup, 1) := by decide +kernel
theorem dX5_addPlayer_55 : decode cX5_addPlayer 55 = .ok (.ldc 46, 2) := by decide +kernel
theorem dX5_addPlayer_57 : decode cX5_addPlayer 57 = .ok (.invokespecial 48, 3) := by decide +kernel
theorem dX5_addPlayer_60 : decode cX5_addPlayer 60 = .ok (.athrow, 1) := by decide +kernel
theorem dX5_addPlayer_61 : decode cX5_addPlayer 61 = .ok (.aload_n 0, 1) := by decide +kernel
theorem dX5_addPlayer_62 : decode cX5_addPlayer 62 = .ok (.getfield 20, 3) := by decide +kernel
theorem dX5_addPlayer_65 : decode cX5_addPlayer 65 = .ok (.iload_n 1, 1) := by decide +kernel
theorem dX5_addPlayer_66 : decode cX5_addPlayer 66 = .ok (.iload_n 2, 1) := by decide +kernel
theorem dX5_addPlayer_67 : decode cX5_addPlayer 67 = .ok (.iload_n 3, 1) := by decide +kernel
theorem dX5_addPlayer_68 : decode cX5_addPlayer 68 = .ok (.iload 4, 2) := by decide +kernel
theorem dX5_addPlayer_70 : decode cX5_addPlayer 70 = .ok (.invokevirtual 49, 3) := by decide +kernel
theorem dX5_addPlayer_73 : decode cX5_addPlayer 73 = .ok (.ireturn, 1) := by decide +kernel
theorem dX5_found_0 : decode cX5_found 0 = .ok (.iload_n 1, 1) := by decide +kernel
theorem dX5_found_1 : decode cX5_found 1 = .ok (.invokestatic 53, 3) := by decide +kernel
theorem dX5_found_4 : decode cX5_found 4 = .ok (.istore_n 2, 1) := by decide +kernel
theorem dX5_found_5 : decode cX5_found 5 = .ok (.iload_n 2, 1) := by decide +kernel
theorem dX5_found_6 : decode cX5_found 6 = .ok (.ifCond .ne 13, 3) := by decide +kernel
theorem dX5_found_9 : decode cX5_found 9 = .ok (.new 31, 3) := by decide +kernel
theorem dX5_found_12 : decode cX5_found 12 = .ok (.dup, 1) := by decide +kernel
theorem dX5_found_13 : decode cX5_found 13 = .ok (.ldc 57, 2) := by decide +kernel
theorem dX5_found_15 : decode cX5_found 15 = .ok (.invokespecial 35, 3) := by decide +kernel
theorem dX5_found_18 : decode cX5_found 18 = .ok (.athrow, 1) := by decide +kernel
theorem dX5_found_19 : decode cX5_found 19 = .ok (.aload_n 0, 1) := by decide +kernel
theorem dX5_found_20 : decode cX5_found 20 = .ok (.getfield 20, 3) := by decide +kernel
theorem dX5_found_23 : decode cX5_found 23 = .ok (.getfield 59, 3) := by decide +kernel
theorem dX5_found_26 : decode cX5_found 26 = .ok (.bipush 6, 2) := by decide +kernel
theorem dX5_found_28 : decode cX5_found 28 = .ok (.if_icmp .lt 13, 3) := by decide +kernel
theorem dX5_found_31 : decode cX5_found 31 = .ok (.new 44, 3) := by decide +kernel
theorem dX5_found_34 : decode cX5_found 34 = .ok (.dup, 1) := by decide +kernel
theorem dX5_found_35 : decode cX5_found 35 = .ok (.ldc 62, 2) := by decide +kernel
theorem dX5_found_37 : decode cX5_found 37 = .ok (.invokespecial 48, 3) := by decide +kernel
theorem dX5_found_40 : decode cX5_found 40 = .ok (.athrow, 1) := by decide +kernel
theorem dX5_found_41 : decode cX5_found 41 = .ok (.aload_n 0, 1) := by decide +kernel
theorem dX5_found_42 : decode cX5_found 42 = .ok (.getfield 20, 3) := by decide +kernel
theorem dX5_found_45 : decode cX5_found 45 = .ok (.iload_n 1, 1) := by decide +kernel
theorem dX5_found_46 : decode cX5_found 46 = .ok (.iload_n 2, 1) := by decide +kernel
theorem dX5_found_47 : decode cX5_found 47 = .ok (.invokevirtual 64, 3) := by decide +kernel
theorem dX5_found_50 : decode cX5_found 50 = .ok (.ireturn, 1) := by decide +kernel
theorem dX5_seat_0 : decode cX5_seat 0 = .ok (.aload_n 0, 1) := by decide +kernel
theorem dX5_seat_1 : decode cX5_seat 1 = .ok (.iload_n 1, 1) := by decide +kernel
theorem dX5_seat_2 : decode cX5_seat 2 = .ok (.iload_n 2, 1) := by decide +kernel
theorem dX5_seat_3 : decode cX5_seat 3 = .ok (.invokevirtual 68, 3) := by decide +kernel
theorem dX5_seat_6 : decode cX5_seat 6 = .ok (.astore 4, 2) := by decide +kernel
theorem dX5_seat_8 : decode cX5_seat 8 = .ok (.iload_n 3, 1) := by decide +kernel
theorem dX5_seat_9 : decode cX5_seat 9 = .ok (.iconst (-1), 1) := by decide +kernel
theorem dX5_seat_10 : decode cX5_seat 10 = .ok (.if_icmp .eq 9, 3) := by decide +kernel
theorem dX5_seat_13 : decode cX5_seat 13 = .ok (.aload_n 0, 1) := by decide +kernel
theorem dX5_seat_14 : decode cX5_seat 14 = .ok (.iload_n 3, 1) := by decide +kernel
theorem dX5_seat_15 : decode cX5_seat 15 = .ok (.invokevirtual 72, 3) := by decide +kernel
theorem dX5_seat_18 : decode cX5_seat 18 = .ok (.pop, 1) := by decide +kernel
theorem dX5_seat_19 : decode cX5_seat 19 = .ok (.aload 4, 2) := by decide +kernel
theorem dX5_seat_21 : decode cX5_seat 21 = .ok (.getfield 76, 3) := by decide +kernel
theorem dX5_seat_24 : decode cX5_seat 24 = .ok (.istore 5, 2) := by decide +kernel
theorem dX5_seat_26 : decode cX5_seat 26 = .ok (.iload_n 3, 1) := by decide +kernel
theorem dX5_seat_27 : decode cX5_seat 27 = .ok (.iconst (-1), 1) := by decide +kernel
theorem dX5_seat_28 : decode cX5_seat 28 = .ok (.if_icmp .eq 25, 3) := by decide +kernel
theorem dX5_seat_31 : decode cX5_seat 31 = .ok (.iload 5, 2) := by decide +kernel
theorem dX5_seat_33 : decode cX5_seat 33 = .ok (.iconst (-1), 1) := by decide +kernel
theorem dX5_seat_34 : decode cX5_seat 34 = .ok (.if_icmp .eq 19, 3) := by decide +kernel
theorem dX5_seat_37 : decode cX5_seat 37 = .ok (.iload 5, 2) := by decide +kernel
theorem dX5_seat_39 : decode cX5_seat 39 = .ok (.iload_n 3, 1) := by decide +kernel
theorem dX5_seat_40 : decode cX5_seat 40 = .ok (.if_icmp .eq 13, 3) := by decide +kernel
theorem dX5_seat_43 : decode cX5_seat 43 = .ok (.new 44, 3) := by decide +kernel
theorem dX5_seat_46 : decode cX5_seat 46 = .ok (.dup, 1) := by decide +kernel
theorem dX5_seat_47 : decode cX5_seat 47 = .ok (.ldc 81, 2) := by decide +kernel
theorem dX5_seat_49 : decode cX5_seat 49 = .ok (.invokespecial 48, 3) := by decide +kernel
theorem dX5_seat_52 : decode cX5_seat 52 = .ok (.athrow, 1) := by decide +kernel
theorem dX5_seat_53 : decode cX5_seat 53 = .ok (.aload_n 0, 1) := by decide +kernel
theorem dX5_seat_54 : decode cX5_seat 54 = .ok (.getfield 20, 3) := by decide +kernel
theorem dX5_seat_57 : decode cX5_seat 57 = .ok (.iload 5, 2) := by decide +kernel
theorem dX5_seat_59 : decode cX5_seat 59 = .ok (.invokevirtual 83, 3) := by decide +kernel
theorem dX5_seat_62 : decode cX5_seat 62 = .ok (.aload_n 0, 1) := by decide +kernel
theorem dX5_seat_63 : decode cX5_seat 63 = .ok (.getfield 20, 3) := by decide +kernel
theorem dX5_seat_66 : decode cX5_seat 66 = .ok (.iload_n 3, 1) := by decide +kernel
theorem dX5_seat_67 : decode cX5_seat 67 = .ok (.invokevirtual 83, 3) := by decide +kernel
theorem dX5_seat_70 : decode cX5_seat 70 = .ok (.aload_n 0, 1) := by decide +kernel
theorem dX5_seat_71 : decode cX5_seat 71 = .ok (.getfield 20, 3) := by decide +kernel
theorem dX5_seat_74 : decode cX5_seat 74 = .ok (.iload_n 1, 1) := by decide +kernel
theorem dX5_seat_75 : decode cX5_seat 75 = .ok (.iload_n 2, 1) := by decide +kernel
theorem dX5_seat_76 : decode cX5_seat 76 = .ok (.iload_n 3, 1) := by decide +kernel
theorem dX5_seat_77 : decode cX5_seat 77 = .ok (.invokevirtual 87, 3) := by decide +kernel
theorem dX5_seat_80 : decode cX5_seat 80 = .ok (.iload 5, 2) := by decide +kernel
theorem dX5_seat_82 : decode cX5_seat 82 = .ok (.ireturn, 1) := by decide +kernel
theorem dX5_change_0 : decode cX5_change 0 = .ok (.aload_n 0, 1) := by decide +kernel
theorem dX5_change_1 : decode cX5_change 1 = .ok (.iload_n 1, 1) := by decide +kernel
theorem dX5_change_2 : decode cX5_change 2 = .ok (.iload_n 2, 1) := by decide +kernel
theorem dX5_change_3 : decode cX5_change 3 = .ok (.invokevirtual 68, 3) := by decide +kernel
theorem dX5_change_6 : decode cX5_change 6 = .ok (.astore 4, 2) := by decide +kernel
theorem dX5_change_8 : decode cX5_change 8 = .ok (.aload_n 0, 1) := by decide +kernel
theorem dX5_change_9 : decode cX5_change 9 = .ok (.iload_n 1, 1) := by decide +kernel
theorem dX5_change_10 : decode cX5_change 10 = .ok (.iload_n 3, 1) := by decide +kernel
theorem dX5_change_11 : decode cX5_change 11 = .ok (.invokevirtual 68, 3) := by decide +kernel
theorem dX5_change_14 : decode cX5_change 14 = .ok (.pop, 1) := by decide +kernel
theorem dX5_change_15 : decode cX5_change 15 = .ok (.aload_n 0, 1) := by decide +kernel
theorem dX5_change_16 : decode cX5_change 16 = .ok (.getfield 20, 3) := by decide +kernel
theorem dX5_change_19 : decode cX5_change 19 = .ok (.iload_n 1, 1) := by decide +kernel
theorem dX5_change_20 : decode cX5_change 20 = .ok (.iload_n 2, 1) := by decide +kernel
theorem dX5_change_21 : decode cX5_change 21 = .ok (.iload_n 3, 1) := by decide +kernel
theorem dX5_change_22 : decode cX5_change 22 = .ok (.invokevirtual 91, 3) := by decide +kernel
theorem dX5_change_25 : decode cX5_change 25 = .ok (.aload 4, 2) := by decide +kernel
theorem dX5_change_27 : decode cX5_change 27 = .ok (.getfield 76, 3) := by decide +kernel
theorem dX5_change_30 : decode cX5_change 30 = .ok (.ireturn, 1) := by decide +kernel
theorem dX5_absent_0 : decode cX5_absent 0 = .ok (.aload_n 0, 1) := by decide +kernel
theorem dX5_absent_1 : decode cX5_absent 1 = .ok (.iload_n 1, 1) := by decide +kernel
theorem dX5_absent_2 : decode cX5_absent 2 = .ok (.invokevirtual 72, 3) := by decide +kernel
theorem dX5_absent_5 : decode cX5_absent 5 = .ok (.astore_n 3, 1) := by decide +kernel
theorem dX5_absent_6 : decode cX5_absent 6 = .ok (.iload_n 2, 1) := by decide +kernel
theorem dX5_absent_7 : decode cX5_absent 7 = .ok (.ifCond .lt 9, 3) := by decide +kernel
theorem dX5_absent_10 : decode cX5_absent 10 = .ok (.iload_n 2, 1) := by decide +kernel
theorem dX5_absent_11 : decode cX5_absent 11 = .ok (.bipush 20, 2) := by decide +kernel
theorem dX5_absent_13 : decode cX5_absent 13 = .ok (.if_icmp .le 13, 3) := by decide +kernel
theorem dX5_absent_16 : decode cX5_absent 16 = .ok (.new 31, 3) := by decide +kernel
theorem dX5_absent_19 : decode cX5_absent 19 = .ok (.dup, 1) := by decide +kernel
theorem dX5_absent_20 : decode cX5_absent 20 = .ok (.ldc 94, 2) := by decide +kernel
theorem dX5_absent_22 : decode cX5_absent 22 = .ok (.invokespecial 35, 3) := by decide +kernel
theorem dX5_absent_25 : decode cX5_absent 25 = .ok (.athrow, 1) := by decide +kernel
theorem dX5_absent_26 : decode cX5_absent 26 = .ok (.aload_n 3, 1) := by decide +kernel
theorem dX5_absent_27 : decode cX5_absent 27 = .ok (.getfield 96, 3) := by decide +kernel
theorem dX5_absent_30 : decode cX5_absent 30 = .ok (.istore 4, 2) := by decide +kernel
theorem dX5_absent_32 : decode cX5_absent 32 = .ok (.aload_n 3, 1) := by decide +kernel
theorem dX5_absent_33 : decode cX5_absent 33 = .ok (.iload_n 2, 1) := by decide +kernel
theorem dX5_absent_34 : decode cX5_absent 34 = .ok (.putfield 96, 3) := by decide +kernel
theorem dX5_absent_37 : decode cX5_absent 37 = .ok (.iload 4, 2) := by decide +kernel
theorem dX5_absent_39 : decode cX5_absent 39 = .ok (.ireturn, 1) := by decide +kernel
theorem dX5_rehearse_0 : decode cX5_rehearse 0 = .ok (.aload_n 0, 1) := by decide +kernel
theorem dX5_rehearse_1 : decode cX5_rehearse 1 = .ok (.iload_n 1, 1) := by decide +kernel
theorem dX5_rehearse_2 : decode cX5_rehearse 2 = .ok (.invokevirtual 101, 3) := by decide +kernel
theorem dX5_rehearse_5 : decode cX5_rehearse 5 = .ok (.astore_n 2, 1) := by decide +kernel
theorem dX5_rehearse_6 : decode cX5_rehearse 6 = .ok (.aload_n 2, 1) := by decide +kernel
theorem dX5_rehearse_7 : decode cX5_rehearse 7 = .ok (.iconst 3, 1) := by decide +kernel
theorem dX5_rehearse_8 : decode cX5_rehearse 8 = .ok (.invokevirtual 105, 3) := by decide +kernel
theorem dX5_rehearse_11 : decode cX5_rehearse 11 = .ok (.aload_n 0, 1) := by decide +kernel
theorem dX5_rehearse_12 : decode cX5_rehearse 12 = .ok (.getfield 20, 3) := by decide +kernel
theorem dX5_rehearse_15 : decode cX5_rehearse 15 = .ok (.aload_n 2, 1) := by decide +kernel
theorem dX5_rehearse_16 : decode cX5_rehearse 16 = .ok (.iconst 5, 1) := by decide +kernel
theorem dX5_rehearse_17 : decode cX5_rehearse 17 = .ok (.invokevirtual 110, 3) := by decide +kernel
theorem dX5_rehearse_20 : decode cX5_rehearse 20 = .ok (.aload_n 2, 1) := by decide +kernel
theorem dX5_rehearse_21 : decode cX5_rehearse 21 = .ok (.getfield 114, 3) := by decide +kernel
theorem dX5_rehearse_24 : decode cX5_rehearse 24 = .ok (.ireturn, 1) := by decide +kernel
theorem dX5_setPiece_0 : decode cX5_setPiece 0 = .ok (.iload_n 1, 1) := by decide +kernel
theorem dX5_setPiece_1 : decode cX5_setPiece 1 = .ok (.invokestatic 117, 3) := by decide +kernel
theorem dX5_setPiece_4 : decode cX5_setPiece 4 = .ok (.iload_n 2, 1) := by decide +kernel
theorem dX5_setPiece_5 : decode cX5_setPiece 5 = .ok (.ifCond .lt 9, 3) := by decide +kernel
theorem dX5_setPiece_8 : decode cX5_setPiece 8 = .ok (.iload_n 2, 1) := by decide +kernel
theorem dX5_setPiece_9 : decode cX5_setPiece 9 = .ok (.bipush 9, 2) := by decide +kernel
theorem dX5_setPiece_11 : decode cX5_setPiece 11 = .ok (.if_icmp .le 13, 3) := by decide +kernel
theorem dX5_setPiece_14 : decode cX5_setPiece 14 = .ok (.new 31, 3) := by decide +kernel
theorem dX5_setPiece_17 : decode cX5_setPiece 17 = .ok (.dup, 1) := by decide +kernel
theorem dX5_setPiece_18 : decode cX5_setPiece 18 = .ok (.ldc 120, 2) := by decide +kernel
theorem dX5_setPiece_20 : decode cX5_setPiece 20 = .ok (.invokespecial 35, 3) := by decide +kernel
theorem dX5_setPiece_23 : decode cX5_setPiece 23 = .ok (.athrow, 1) := by decide +kernel
theorem dX5_setPiece_24 : decode cX5_setPiece 24 = .ok (.aload_n 0, 1) := by decide +kernel
theorem dX5_setPiece_25 : decode cX5_setPiece 25 = .ok (.getfield 20, 3) := by decide +kernel
theorem dX5_setPiece_28 : decode cX5_setPiece 28 = .ok (.getfield 122, 3) := by decide +kernel
theorem dX5_setPiece_31 : decode cX5_setPiece 31 = .ok (.iload_n 1, 1) := by decide +kernel
theorem dX5_setPiece_32 : decode cX5_setPiece 32 = .ok (.iaload, 1) := by decide +kernel
theorem dX5_setPiece_33 : decode cX5_setPiece 33 = .ok (.istore_n 3, 1) := by decide +kernel
theorem dX5_setPiece_34 : decode cX5_setPiece 34 = .ok (.aload_n 0, 1) := by decide +kernel
theorem dX5_setPiece_35 : decode cX5_setPiece 35 = .ok (.getfield 20, 3) := by decide +kernel
theorem dX5_setPiece_38 : decode cX5_setPiece 38 = .ok (.getfield 122, 3) := by decide +kernel
theorem dX5_setPiece_41 : decode cX5_setPiece 41 = .ok (.iload_n 1, 1) := by decide +kernel
theorem dX5_setPiece_42 : decode cX5_setPiece 42 = .ok (.iload_n 2, 1) := by decide +kernel
theorem dX5_setPiece_43 : decode cX5_setPiece 43 = .ok (.iastore, 1) := by decide +kernel
theorem dX5_setPiece_44 : decode cX5_setPiece 44 = .ok (.iload_n 3, 1) := by decide +kernel
theorem dX5_setPiece_45 : decode cX5_setPiece 45 = .ok (.ireturn, 1) := by decide +kernel
theorem dX5_setTaste_0 : decode cX5_setTaste 0 = .ok (.iload_n 1, 1) := by decide +kernel
theorem dX5_setTaste_1 : decode cX5_setTaste 1 = .ok (.invokestatic 117, 3) := by decide +kernel
theorem dX5_setTaste_4 : decode cX5_setTaste 4 = .ok (.iload_n 2, 1) := by decide +kernel
theorem dX5_setTaste_5 : decode cX5_setTaste 5 = .ok (.iconst 1, 1) := by decide +kernel
theorem dX5_setTaste_6 : decode cX5_setTaste 6 = .ok (.if_icmp .lt 8, 3) := by decide +kernel
theorem dX5_setTaste_9 : decode cX5_setTaste 9 = .ok (.iload_n 2, 1) := by decide +kernel
theorem dX5_setTaste_10 : decode cX5_setTaste 10 = .ok (.iconst 5, 1) := by decide +kernel
theorem dX5_setTaste_11 : decode cX5_setTaste 11 = .ok (.if_icmp .le 13, 3) := by decide +kernel
theorem dX5_setTaste_14 : decode cX5_setTaste 14 = .ok (.new 31, 3) := by decide +kernel
theorem dX5_setTaste_17 : decode cX5_setTaste 17 = .ok (.dup, 1) := by decide +kernel
theorem dX5_setTaste_18 : decode cX5_setTaste 18 = .ok (.ldc 126, 2) := by decide +kernel
theorem dX5_setTaste_20 : decode cX5_setTaste 20 = .ok (.invokespecial 35, 3) := by decide +kernel
theorem dX5_setTaste_23 : decode cX5_setTaste 23 = .ok (.athrow, 1) := by decide +kernel
theorem dX5_setTaste_24 : decode cX5_setTaste 24 = .ok (.aload_n 0, 1) := by decide +kernel
theorem dX5_setTaste_25 : decode cX5_setTaste 25 = .ok (.getfield 20, 3) := by decide +kernel
theorem dX5_setTaste_28 : decode cX5_setTaste 28 = .ok (.getfield 128, 3) := by decide +kernel
theorem dX5_setTaste_31 : decode cX5_setTaste 31 = .ok (.iload_n 1, 1) := by decide +kernel
theorem dX5_setTaste_32 : decode cX5_setTaste 32 = .ok (.iaload, 1) := by decide +kernel
theorem dX5_setTaste_33 : decode cX5_setTaste 33 = .ok (.istore_n 3, 1) := by decide +kernel
theorem dX5_setTaste_34 : decode cX5_setTaste 34 = .ok (.aload_n 0, 1) := by decide +kernel
theorem dX5_setTaste_35 : decode cX5_setTaste 35 = .ok (.getfield 20, 3) := by decide +kernel
theorem dX5_setTaste_38 : decode cX5_setTaste 38 = .ok (.getfield 128, 3) := by decide +kernel
theorem dX5_setTaste_41 : decode cX5_setTaste 41 = .ok (.iload_n 1, 1) := by decide +kernel
theorem dX5_setTaste_42 : decode cX5_setTaste 42 = .ok (.iload_n 2, 1) := by decide +kernel
theorem dX5_setTaste_43 : decode cX5_setTaste 43 = .ok (.iastore, 1) := by decide +kernel
theorem dX5_setTaste_44 : decode cX5_setTaste 44 = .ok (.iload_n 3, 1) := by decide +kernel
theorem dX5_setTaste_45 : decode cX5_setTaste 45 = .ok (.ireturn, 1) := by decide +kernel
theorem dX5_player_0 : decode cX5_player 0 = .ok (.aload_n 0, 1) := by decide +kernel
theorem dX5_player_1 : decode cX5_player 1 = .ok (.iload_n 1, 1) := by decide +kernel
theorem dX5_player_2 : decode cX5_player 2 = .ok (.invokevirtual 72, 3) := by decide +kernel
theorem dX5_player_5 : decode cX5_player 5 = .ok (.astore_n 3, 1) := by decide +kernel
theorem dX5_player_6 : decode cX5_player 6 = .ok (.iload_n 2, 1) := by decide +kernel
theorem dX5_player_7 : decode cX5_player 7 = .ok (.bipush 10, 2) := by decide +kernel
theorem dX5_player_9 : decode cX5_player 9 = .ok (.invokestatic 131, 3) := by decide +kernel
theorem dX5_player_12 : decode cX5_player 12 = .ok (.aload_n 3, 1) := by decide +kernel
theorem dX5_player_13 : decode cX5_player 13 = .ok (.iload_n 2, 1) := by decide +kernel
theorem dX5_player_14 : decode cX5_player 14 = .ok (.invokevirtual 135, 3) := by decide +kernel
theorem dX5_player_17 : decode cX5_player 17 = .ok (.ireturn, 1) := by decide +kernel
theorem dX5_band_0 : decode cX5_band 0 = .ok (.aload_n 0, 1) := by decide +kernel
theorem dX5_band_1 : decode cX5_band 1 = .ok (.iload_n 1, 1) := by decide +kernel
theorem dX5_band_2 : decode cX5_band 2 = .ok (.invokevirtual 101, 3) := by decide +kernel
theorem dX5_band_5 : decode cX5_band 5 = .ok (.astore_n 3, 1) := by decide +kernel
theorem dX5_band_6 : decode cX5_band 6 = .ok (.iload_n 2, 1) := by decide +kernel
theorem dX5_band_7 : decode cX5_band 7 = .ok (.bipush 9, 2) := by decide +kernel
theorem dX5_band_9 : decode cX5_band 9 = .ok (.invokestatic 131, 3) := by decide +kernel
theorem dX5_band_12 : decode cX5_band 12 = .ok (.aload_n 3, 1) := by decide +kernel
theorem dX5_band_13 : decode cX5_band 13 = .ok (.iload_n 2, 1) := by decide +kernel
theorem dX5_band_14 : decode cX5_band 14 = .ok (.invokevirtual 138, 3) := by decide +kernel
theorem dX5_band_17 : decode cX5_band 17 = .ok (.ireturn, 1) := by decide +kernel
theorem dX5_chair_0 : decode cX5_chair 0 = .ok (.aload_n 0, 1) := by decide +kernel
theorem dX5_chair_1 : decode cX5_chair 1 = .ok (.iload_n 1, 1) := by decide +kernel
theorem dX5_chair_2 : decode cX5_chair 2 = .ok (.iload_n 2, 1) := by decide +kernel
theorem dX5_chair_3 : decode cX5_chair 3 = .ok (.invokevirtual 68, 3) := by decide +kernel
theorem dX5_chair_6 : decode cX5_chair 6 = .ok (.astore 4, 2) := by decide +kernel
theorem dX5_chair_8 : decode cX5_chair 8 = .ok (.iload_n 3, 1) := by decide +kernel
theorem dX5_chair_9 : decode cX5_chair 9 = .ok (.iconst 3, 1) := by decide +kernel
theorem dX5_chair_10 : decode cX5_chair 10 = .ok (.invokestatic 131, 3) := by decide +kernel
theorem dX5_chair_13 : decode cX5_chair 13 = .ok (.aload 4, 2) := by decide +kernel
theorem dX5_chair_15 : decode cX5_chair 15 = .ok (.iload_n 3, 1) := by decide +kernel
theorem dX5_chair_16 : decode cX5_chair 16 = .ok (.invokevirtual 139, 3) := by decide +kernel
theorem dX5_chair_19 : decode cX5_chair 19 = .ok (.ireturn, 1) := by decide +kernel
theorem dX5_contest_0 : decode cX5_contest 0 = .ok (.aload_n 0, 1) := by decide +kernel
theorem dX5_contest_1 : decode cX5_contest 1 = .ok (.getfield 20, 3) := by decide +kernel
theorem dX5_contest_4 : decode cX5_contest 4 = .ok (.getfield 59, 3) := by decide +kernel
theorem dX5_contest_7 : decode cX5_contest 7 = .ok (.ifCond .ne 13, 3) := by decide +kernel
theorem dX5_contest_10 : decode cX5_contest 10 = .ok (.new 44, 3) := by decide +kernel
theorem dX5_contest_13 : decode cX5_contest 13 = .ok (.dup, 1) := by decide +kernel
theorem dX5_contest_14 : decode cX5_contest 14 = .ok (.ldc 140, 2) := by decide +kernel
theorem dX5_contest_16 : decode cX5_contest 16 = .ok (.invokespecial 48, 3) := by decide +kernel
theorem dX5_contest_19 : decode cX5_contest 19 = .ok (.athrow, 1) := by decide +kernel
theorem dX5_contest_20 : decode cX5_contest 20 = .ok (.aload_n 0, 1) := by decide +kernel
theorem dX5_contest_21 : decode cX5_contest 21 = .ok (.getfield 10, 3) := by decide +kernel
theorem dX5_contest_24 : decode cX5_contest 24 = .ok (.invokevirtual 142, 3) := by decide +kernel
theorem dX5_contest_27 : decode cX5_contest 27 = .ok (.ireturn, 1) := by decide +kernel
theorem dX5_rank_0 : decode cX5_rank 0 = .ok (.iload_n 1, 1) := by decide +kernel
theorem dX5_rank_1 : decode cX5_rank 1 = .ok (.ifCond .lt 14, 3) := by decide +kernel
theorem dX5_rank_4 : decode cX5_rank 4 = .ok (.iload_n 1, 1) := by decide +kernel
theorem dX5_rank_5 : decode cX5_rank 5 = .ok (.aload_n 0, 1) := by decide +kernel
theorem dX5_rank_6 : decode cX5_rank 6 = .ok (.getfield 20, 3) := by decide +kernel
theorem dX5_rank_9 : decode cX5_rank 9 = .ok (.getfield 59, 3) := by decide +kernel
theorem dX5_rank_12 : decode cX5_rank 12 = .ok (.if_icmp .lt 13, 3) := by decide +kernel
theorem dX5_rank_15 : decode cX5_rank 15 = .ok (.new 146, 3) := by decide +kernel
theorem dX5_rank_18 : decode cX5_rank 18 = .ok (.dup, 1) := by decide +kernel
theorem dX5_rank_19 : decode cX5_rank 19 = .ok (.ldc 148, 2) := by decide +kernel
theorem dX5_rank_21 : decode cX5_rank 21 = .ok (.invokespecial 150, 3) := by decide +kernel
theorem dX5_rank_24 : decode cX5_rank 24 = .ok (.athrow, 1) := by decide +kernel
theorem dX5_rank_25 : decode cX5_rank 25 = .ok (.aload_n 0, 1) := by decide +kernel
theorem dX5_rank_26 : decode cX5_rank 26 = .ok (.getfield 20, 3) := by decide +kernel
theorem dX5_rank_29 : decode cX5_rank 29 = .ok (.iload_n 1, 1) := by decide +kernel
theorem dX5_rank_30 : decode cX5_rank 30 = .ok (.invokevirtual 151, 3) := by decide +kernel
theorem dX5_rank_33 : decode cX5_rank 33 = .ok (.ireturn, 1) := by decide +kernel
theorem dX5_count_0 : decode cX5_count 0 = .ok (.iload_n 1, 1) := by decide +kernel
theorem dX5_count_1 : decode cX5_count 1 = .ok (.bipush 7, 2) := by decide +kernel
theorem dX5_count_3 : decode cX5_count 3 = .ok (.invokestatic 131, 3) := by decide +kernel
theorem dX5_count_6 : decode cX5_count 6 = .ok (.aload_n 0, 1) := by decide +kernel
theorem dX5_count_7 : decode cX5_count 7 = .ok (.getfield 20, 3) := by decide +kernel
theorem dX5_count_10 : decode cX5_count 10 = .ok (.iload_n 1, 1) := by decide +kernel
theorem dX5_count_11 : decode cX5_count 11 = .ok (.invokevirtual 154, 3) := by decide +kernel
theorem dX5_count_14 : decode cX5_count 14 = .ok (.ireturn, 1) := by decide +kernel
theorem dX5_foresee_0 : decode cX5_foresee 0 = .ok (.aload_n 0, 1) := by decide +kernel
theorem dX5_foresee_1 : decode cX5_foresee 1 = .ok (.iload_n 1, 1) := by decide +kernel
theorem dX5_foresee_2 : decode cX5_foresee 2 = .ok (.invokevirtual 101, 3) := by decide +kernel
theorem dX5_foresee_5 : decode cX5_foresee 5 = .ok (.pop, 1) := by decide +kernel
theorem dX5_foresee_6 : decode cX5_foresee 6 = .ok (.iload_n 3, 1) := by decide +kernel
theorem dX5_foresee_7 : decode cX5_foresee 7 = .ok (.iconst 4, 1) := by decide +kernel
theorem dX5_foresee_8 : decode cX5_foresee 8 = .ok (.invokestatic 131, 3) := by decide +kernel
theorem dX5_foresee_11 : decode cX5_foresee 11 = .ok (.iload_n 2, 1) := by decide +kernel
theorem dX5_foresee_12 : decode cX5_foresee 12 = .ok (.iconst 1, 1) := by decide +kernel
theorem dX5_foresee_13 : decode cX5_foresee 13 = .ok (.if_icmp .lt 9, 3) := by decide +kernel
theorem dX5_foresee_16 : decode cX5_foresee 16 = .ok (.iload_n 2, 1) := by decide +kernel
theorem dX5_foresee_17 : decode cX5_foresee 17 = .ok (.bipush 20, 2) := by decide +kernel
theorem dX5_foresee_19 : decode cX5_foresee 19 = .ok (.if_icmp .le 13, 3) := by decide +kernel
theorem dX5_foresee_22 : decode cX5_foresee 22 = .ok (.new 31, 3) := by decide +kernel
theorem dX5_foresee_25 : decode cX5_foresee 25 = .ok (.dup, 1) := by decide +kernel
theorem dX5_foresee_26 : decode cX5_foresee 26 = .ok (.ldc 155, 2) := by decide +kernel
theorem dX5_foresee_28 : decode cX5_foresee 28 = .ok (.invokespecial 35, 3) := by decide +kernel
theorem dX5_foresee_31 : decode cX5_foresee 31 = .ok (.athrow, 1) := by decide +kernel
theorem dX5_foresee_32 : decode cX5_foresee 32 = .ok (.aload_n 0, 1) := by decide +kernel
theorem dX5_foresee_33 : decode cX5_foresee 33 = .ok (.getfield 24, 3) := by decide +kernel
theorem dX5_foresee_36 : decode cX5_foresee 36 = .ok (.aload_n 0, 1) := by decide +kernel
theorem dX5_foresee_37 : decode cX5_foresee 37 = .ok (.getfield 20, 3) := by decide +kernel
theorem dX5_foresee_40 : decode cX5_foresee 40 = .ok (.invokevirtual 157, 3) := by decide +kernel
theorem dX5_foresee_43 : decode cX5_foresee 43 = .ok (.iconst 0, 1) := by decide +kernel
theorem dX5_foresee_44 : decode cX5_foresee 44 = .ok (.istore 4, 2) := by decide +kernel
theorem dX5_foresee_46 : decode cX5_foresee 46 = .ok (.iload 4, 2) := by decide +kernel
theorem dX5_foresee_48 : decode cX5_foresee 48 = .ok (.iload_n 2, 1) := by decide +kernel
theorem dX5_foresee_49 : decode cX5_foresee 49 = .ok (.if_icmp .ge 17, 3) := by decide +kernel
theorem dX5_foresee_52 : decode cX5_foresee 52 = .ok (.aload_n 0, 1) := by decide +kernel
theorem dX5_foresee_53 : decode cX5_foresee 53 = .ok (.getfield 21, 3) := by decide +kernel
theorem dX5_foresee_56 : decode cX5_foresee 56 = .ok (.invokevirtual 142, 3) := by decide +kernel
theorem dX5_foresee_59 : decode cX5_foresee 59 = .ok (.pop, 1) := by decide +kernel
theorem dX5_foresee_60 : decode cX5_foresee 60 = .ok (.iinc 4 1, 3) := by decide +kernel
theorem dX5_foresee_63 : decode cX5_foresee 63 = .ok (.goto (-17), 3) := by decide +kernel
theorem dX5_foresee_66 : decode cX5_foresee 66 = .ok (.aload_n 0, 1) := by decide +kernel
theorem dX5_foresee_67 : decode cX5_foresee 67 = .ok (.getfield 24, 3) := by decide +kernel
theorem dX5_foresee_70 : decode cX5_foresee 70 = .ok (.iload_n 1, 1) := by decide +kernel
theorem dX5_foresee_71 : decode cX5_foresee 71 = .ok (.invokevirtual 161, 3) := by decide +kernel
theorem dX5_foresee_74 : decode cX5_foresee 74 = .ok (.astore 4, 2) := by decide +kernel
theorem dX5_foresee_76 : decode cX5_foresee 76 = .ok (.aload 4, 2) := by decide +kernel
theorem dX5_foresee_78 : decode cX5_foresee 78 = .ok (.ifnonnull 7, 3) := by decide +kernel
theorem dX5_foresee_81 : decode cX5_foresee 81 = .ok (.iconst (-1), 1) := by decide +kernel
theorem dX5_foresee_82 : decode cX5_foresee 82 = .ok (.goto 9, 3) := by decide +kernel
theorem dX5_foresee_85 : decode cX5_foresee 85 = .ok (.aload 4, 2) := by decide +kernel
theorem dX5_foresee_87 : decode cX5_foresee 87 = .ok (.iload_n 3, 1) := by decide +kernel
theorem dX5_foresee_88 : decode cX5_foresee 88 = .ok (.invokevirtual 164, 3) := by decide +kernel
theorem dX5_foresee_91 : decode cX5_foresee 91 = .ok (.ireturn, 1) := by decide +kernel
theorem dX5_advise_0 : decode cX5_advise 0 = .ok (.aload_n 0, 1) := by decide +kernel
theorem dX5_advise_1 : decode cX5_advise 1 = .ok (.iload_n 1, 1) := by decide +kernel
theorem dX5_advise_2 : decode cX5_advise 2 = .ok (.invokevirtual 101, 3) := by decide +kernel
theorem dX5_advise_5 : decode cX5_advise 5 = .ok (.pop, 1) := by decide +kernel
theorem dX5_advise_6 : decode cX5_advise 6 = .ok (.aload_n 0, 1) := by decide +kernel
theorem dX5_advise_7 : decode cX5_advise 7 = .ok (.getfield 24, 3) := by decide +kernel
theorem dX5_advise_10 : decode cX5_advise 10 = .ok (.aload_n 0, 1) := by decide +kernel
theorem dX5_advise_11 : decode cX5_advise 11 = .ok (.getfield 20, 3) := by decide +kernel
theorem dX5_advise_14 : decode cX5_advise 14 = .ok (.invokevirtual 157, 3) := by decide +kernel
theorem dX5_advise_17 : decode cX5_advise 17 = .ok (.aload_n 0, 1) := by decide +kernel
theorem dX5_advise_18 : decode cX5_advise 18 = .ok (.getfield 21, 3) := by decide +kernel
theorem dX5_advise_21 : decode cX5_advise 21 = .ok (.iload_n 1, 1) := by decide +kernel
theorem dX5_advise_22 : decode cX5_advise 22 = .ok (.invokevirtual 167, 3) := by decide +kernel
theorem dX5_advise_25 : decode cX5_advise 25 = .ok (.aload_n 0, 1) := by decide +kernel
theorem dX5_advise_26 : decode cX5_advise 26 = .ok (.getfield 21, 3) := by decide +kernel
theorem dX5_advise_29 : decode cX5_advise 29 = .ok (.iload_n 1, 1) := by decide +kernel
theorem dX5_advise_30 : decode cX5_advise 30 = .ok (.invokevirtual 170, 3) := by decide +kernel
theorem dX5_advise_33 : decode cX5_advise 33 = .ok (.ireturn, 1) := by decide +kernel
theorem dX5_free_0 : decode cX5_free 0 = .ok (.iload_n 1, 1) := by decide +kernel
theorem dX5_free_1 : decode cX5_free 1 = .ok (.invokestatic 117, 3) := by decide +kernel
theorem dX5_free_4 : decode cX5_free 4 = .ok (.aload_n 0, 1) := by decide +kernel
theorem dX5_free_5 : decode cX5_free 5 = .ok (.getfield 20, 3) := by decide +kernel
theorem dX5_free_8 : decode cX5_free 8 = .ok (.iload_n 1, 1) := by decide +kernel
theorem dX5_free_9 : decode cX5_free 9 = .ok (.invokevirtual 173, 3) := by decide +kernel
theorem dX5_free_12 : decode cX5_free 12 = .ok (.ireturn, 1) := by decide +kernel
theorem dX5_mean_0 : decode cX5_mean 0 = .ok (.aload_n 0, 1) := by decide +kernel
theorem dX5_mean_1 : decode cX5_mean 1 = .ok (.getfield 20, 3) := by decide +kernel
theorem dX5_mean_4 : decode cX5_mean 4 = .ok (.invokevirtual 176, 3) := by decide +kernel
theorem dX5_mean_7 : decode cX5_mean 7 = .ok (.dreturn, 1) := by decide +kernel
theorem dX5_digest_0 : decode cX5_digest 0 = .ok (.aload_n 0, 1) := by decide +kernel
theorem dX5_digest_1 : decode cX5_digest 1 = .ok (.getfield 20, 3) := by decide +kernel
theorem dX5_digest_4 : decode cX5_digest 4 = .ok (.invokevirtual 180, 3) := by decide +kernel
theorem dX5_digest_7 : decode cX5_digest 7 = .ok (.lreturn, 1) := by decide +kernel
theorem dX5_isSkill_0 : decode cX5_isSkill 0 = .ok (.iload_n 0, 1) := by decide +kernel
theorem dX5_isSkill_1 : decode cX5_isSkill 1 = .ok (.ifCond .lt 13, 3) := by decide +kernel
theorem dX5_isSkill_4 : decode cX5_isSkill 4 = .ok (.iload_n 0, 1) := by decide +kernel
theorem dX5_isSkill_5 : decode cX5_isSkill 5 = .ok (.bipush 9, 2) := by decide +kernel
theorem dX5_isSkill_7 : decode cX5_isSkill 7 = .ok (.if_icmp .gt 7, 3) := by decide +kernel
theorem dX5_isSkill_10 : decode cX5_isSkill 10 = .ok (.iconst 1, 1) := by decide +kernel
theorem dX5_isSkill_11 : decode cX5_isSkill 11 = .ok (.goto 4, 3) := by decide +kernel
theorem dX5_isSkill_14 : decode cX5_isSkill 14 = .ok (.iconst 0, 1) := by decide +kernel
theorem dX5_isSkill_15 : decode cX5_isSkill 15 = .ok (.ireturn, 1) := by decide +kernel
theorem dX5_seatsIn_0 : decode cX5_seatsIn 0 = .ok (.iload_n 0, 1) := by decide +kernel
theorem dX5_seatsIn_1 : decode cX5_seatsIn 1 = .ok (.istore_n 1, 1) := by decide +kernel
theorem dX5_seatsIn_2 : decode cX5_seatsIn 2 = .ok (.iconst 0, 1) := by decide +kernel
theorem dX5_seatsIn_3 : decode cX5_seatsIn 3 = .ok (.istore_n 2, 1) := by decide +kernel
theorem dX5_seatsIn_4 : decode cX5_seatsIn 4 = .ok (.iload_n 2, 1) := by decide +kernel
theorem dX5_seatsIn_5 : decode cX5_seatsIn 5 = .ok (.bipush 8, 2) := by decide +kernel
theorem dX5_seatsIn_7 : decode cX5_seatsIn 7 = .ok (.if_icmp .gt 37, 3) := by decide +kernel
theorem dX5_seatsIn_10 : decode cX5_seatsIn 10 = .ok (.iload_n 1, 1) := by decide +kernel
theorem dX5_seatsIn_11 : decode cX5_seatsIn 11 = .ok (.ifCond .gt 5, 3) := by decide +kernel
theorem dX5_seatsIn_14 : decode cX5_seatsIn 14 = .ok (.iload_n 2, 1) := by decide +kernel
theorem dX5_seatsIn_15 : decode cX5_seatsIn 15 = .ok (.ireturn, 1) := by decide +kernel
theorem dX5_seatsIn_16 : decode cX5_seatsIn 16 = .ok (.iload_n 1, 1) := by decide +kernel
theorem dX5_seatsIn_17 : decode cX5_seatsIn 17 = .ok (.bipush 10, 2) := by decide +kernel
theorem dX5_seatsIn_19 : decode cX5_seatsIn 19 = .ok (.irem, 1) := by decide +kernel
theorem dX5_seatsIn_20 : decode cX5_seatsIn 20 = .ok (.istore_n 3, 1) := by decide +kernel
theorem dX5_seatsIn_21 : decode cX5_seatsIn 21 = .ok (.iload_n 3, 1) := by decide +kernel
theorem dX5_seatsIn_22 : decode cX5_seatsIn 22 = .ok (.iconst 1, 1) := by decide +kernel
theorem dX5_seatsIn_23 : decode cX5_seatsIn 23 = .ok (.if_icmp .lt 8, 3) := by decide +kernel
theorem dX5_seatsIn_26 : decode cX5_seatsIn 26 = .ok (.iload_n 3, 1) := by decide +kernel
theorem dX5_seatsIn_27 : decode cX5_seatsIn 27 = .ok (.iconst 4, 1) := by decide +kernel
theorem dX5_seatsIn_28 : decode cX5_seatsIn 28 = .ok (.if_icmp .le 5, 3) := by decide +kernel
theorem dX5_seatsIn_31 : decode cX5_seatsIn 31 = .ok (.iconst 0, 1) := by decide +kernel
theorem dX5_seatsIn_32 : decode cX5_seatsIn 32 = .ok (.ireturn, 1) := by decide +kernel
theorem dX5_seatsIn_33 : decode cX5_seatsIn 33 = .ok (.iload_n 1, 1) := by decide +kernel
theorem dX5_seatsIn_34 : decode cX5_seatsIn 34 = .ok (.bipush 10, 2) := by decide +kernel
theorem dX5_seatsIn_36 : decode cX5_seatsIn 36 = .ok (.idiv, 1) := by decide +kernel
theorem dX5_seatsIn_37 : decode cX5_seatsIn 37 = .ok (.istore_n 1, 1) := by decide +kernel
theorem dX5_seatsIn_38 : decode cX5_seatsIn 38 = .ok (.iinc 2 1, 3) := by decide +kernel
theorem dX5_seatsIn_41 : decode cX5_seatsIn 41 = .ok (.goto (-37), 3) := by decide +kernel
theorem dX5_seatsIn_44 : decode cX5_seatsIn 44 = .ok (.iconst 0, 1) := by decide +kernel
theorem dX5_seatsIn_45 : decode cX5_seatsIn 45 = .ok (.ireturn, 1) := by decide +kernel
theorem dX5_needInstrument_0 : decode cX5_needInstrument 0 = .ok (.iload_n 0, 1) := by decide +kernel
theorem dX5_needInstrument_1 : decode cX5_needInstrument 1 = .ok (.ifCond .lt 8, 3) := by decide +kernel
theorem dX5_needInstrument_4 : decode cX5_needInstrument 4 = .ok (.iload_n 0, 1) := by decide +kernel
theorem dX5_needInstrument_5 : decode cX5_needInstrument 5 = .ok (.iconst 4, 1) := by decide +kernel
theorem dX5_needInstrument_6 : decode cX5_needInstrument 6 = .ok (.if_icmp .lt 13, 3) := by decide +kernel
theorem dX5_needInstrument_9 : decode cX5_needInstrument 9 = .ok (.new 146, 3) := by decide +kernel
theorem dX5_needInstrument_12 : decode cX5_needInstrument 12 = .ok (.dup, 1) := by decide +kernel
theorem dX5_needInstrument_13 : decode cX5_needInstrument 13 = .ok (.ldc 184, 2) := by decide +kernel
theorem dX5_needInstrument_15 : decode cX5_needInstrument 15 = .ok (.invokespecial 150, 3) := by decide +kernel
theorem dX5_needInstrument_18 : decode cX5_needInstrument 18 = .ok (.athrow, 1) := by decide +kernel
theorem dX5_needInstrument_19 : decode cX5_needInstrument 19 = .ok (.return_, 1) := by decide +kernel
theorem dX5_needWhat_0 : decode cX5_needWhat 0 = .ok (.iload_n 0, 1) := by decide +kernel
theorem dX5_needWhat_1 : decode cX5_needWhat 1 = .ok (.ifCond .lt 8, 3) := by decide +kernel
theorem dX5_needWhat_4 : decode cX5_needWhat 4 = .ok (.iload_n 0, 1) := by decide +kernel
theorem dX5_needWhat_5 : decode cX5_needWhat 5 = .ok (.iload_n 1, 1) := by decide +kernel
theorem dX5_needWhat_6 : decode cX5_needWhat 6 = .ok (.if_icmp .lt 13, 3) := by decide +kernel
theorem dX5_needWhat_9 : decode cX5_needWhat 9 = .ok (.new 146, 3) := by decide +kernel
theorem dX5_needWhat_12 : decode cX5_needWhat 12 = .ok (.dup, 1) := by decide +kernel
theorem dX5_needWhat_13 : decode cX5_needWhat 13 = .ok (.ldc 186, 2) := by decide +kernel
theorem dX5_needWhat_15 : decode cX5_needWhat 15 = .ok (.invokespecial 150, 3) := by decide +kernel
theorem dX5_needWhat_18 : decode cX5_needWhat 18 = .ok (.athrow, 1) := by decide +kernel
theorem dX5_needWhat_19 : decode cX5_needWhat 19 = .ok (.return_, 1) := by decide +kernel
theorem dX5_needPlayer_0 : decode cX5_needPlayer 0 = .ok (.aload_n 0, 1) := by decide +kernel
theorem dX5_needPlayer_1 : decode cX5_needPlayer 1 = .ok (.getfield 20, 3) := by decide +kernel
theorem dX5_needPlayer_4 : decode cX5_needPlayer 4 = .ok (.iload_n 1, 1) := by decide +kernel
theorem dX5_needPlayer_5 : decode cX5_needPlayer 5 = .ok (.invokevirtual 188, 3) := by decide +kernel
theorem dX5_needPlayer_8 : decode cX5_needPlayer 8 = .ok (.astore_n 2, 1) := by decide +kernel
theorem dX5_needPlayer_9 : decode cX5_needPlayer 9 = .ok (.aload_n 2, 1) := by decide +kernel
theorem dX5_needPlayer_10 : decode cX5_needPlayer 10 = .ok (.ifnonnull 13, 3) := by decide +kernel
theorem dX5_needPlayer_13 : decode cX5_needPlayer 13 = .ok (.new 146, 3) := by decide +kernel
theorem dX5_needPlayer_16 : decode cX5_needPlayer 16 = .ok (.dup, 1) := by decide +kernel
theorem dX5_needPlayer_17 : decode cX5_needPlayer 17 = .ok (.ldc 191, 2) := by decide +kernel
theorem dX5_needPlayer_19 : decode cX5_needPlayer 19 = .ok (.invokespecial 150, 3) := by decide +kernel
theorem dX5_needPlayer_22 : decode cX5_needPlayer 22 = .ok (.athrow, 1) := by decide +kernel
theorem dX5_needPlayer_23 : decode cX5_needPlayer 23 = .ok (.aload_n 2, 1) := by decide +kernel
theorem dX5_needPlayer_24 : decode cX5_needPlayer 24 = .ok (.areturn, 1) := by decide +kernel
theorem dX5_needBand_0 : decode cX5_needBand 0 = .ok (.aload_n 0, 1) := by decide +kernel
theorem dX5_needBand_1 : decode cX5_needBand 1 = .ok (.getfield 20, 3) := by decide +kernel
theorem dX5_needBand_4 : decode cX5_needBand 4 = .ok (.iload_n 1, 1) := by decide +kernel
theorem dX5_needBand_5 : decode cX5_needBand 5 = .ok (.invokevirtual 161, 3) := by decide +kernel
theorem dX5_needBand_8 : decode cX5_needBand 8 = .ok (.astore_n 2, 1) := by decide +kernel
theorem dX5_needBand_9 : decode cX5_needBand 9 = .ok (.aload_n 2, 1) := by decide +kernel
theorem dX5_needBand_10 : decode cX5_needBand 10 = .ok (.ifnonnull 13, 3) := by decide +kernel
theorem dX5_needBand_13 : decode cX5_needBand 13 = .ok (.new 146, 3) := by decide +kernel
theorem dX5_needBand_16 : decode cX5_needBand 16 = .ok (.dup, 1) := by decide +kernel
theorem dX5_needBand_17 : decode cX5_needBand 17 = .ok (.ldc 193, 2) := by decide +kernel
theorem dX5_needBand_19 : decode cX5_needBand 19 = .ok (.invokespecial 150, 3) := by decide +kernel
theorem dX5_needBand_22 : decode cX5_needBand 22 = .ok (.athrow, 1) := by decide +kernel
theorem dX5_needBand_23 : decode cX5_needBand 23 = .ok (.aload_n 2, 1) := by decide +kernel
theorem dX5_needBand_24 : decode cX5_needBand 24 = .ok (.areturn, 1) := by decide +kernel
theorem dX5_needChair_0 : decode cX5_needChair 0 = .ok (.aload_n 0, 1) := by decide +kernel
theorem dX5_needChair_1 : decode cX5_needChair 1 = .ok (.iload_n 1, 1) := by decide +kernel
theorem dX5_needChair_2 : decode cX5_needChair 2 = .ok (.invokevirtual 101, 3) := by decide +kernel
theorem dX5_needChair_5 : decode cX5_needChair 5 = .ok (.iload_n 2, 1) := by decide +kernel
theorem dX5_needChair_6 : decode cX5_needChair 6 = .ok (.invokevirtual 195, 3) := by decide +kernel
theorem dX5_needChair_9 : decode cX5_needChair 9 = .ok (.astore_n 3, 1) := by decide +kernel
theorem dX5_needChair_10 : decode cX5_needChair 10 = .ok (.aload_n 3, 1) := by decide +kernel
theorem dX5_needChair_11 : decode cX5_needChair 11 = .ok (.ifnonnull 13, 3) := by decide +kernel
theorem dX5_needChair_14 : decode cX5_needChair 14 = .ok (.new 146, 3) := by decide +kernel
theorem dX5_needChair_17 : decode cX5_needChair 17 = .ok (.dup, 1) := by decide +kernel
theorem dX5_needChair_18 : decode cX5_needChair 18 = .ok (.ldc 199, 2) := by decide +kernel
theorem dX5_needChair_20 : decode cX5_needChair 20 = .ok (.invokespecial 150, 3) := by decide +kernel
theorem dX5_needChair_23 : decode cX5_needChair 23 = .ok (.athrow, 1) := by decide +kernel
theorem dX5_needChair_24 : decode cX5_needChair 24 = .ok (.aload_n 3, 1) := by decide +kernel
theorem dX5_needChair_25 : decode cX5_needChair 25 = .ok (.areturn, 1) := by decide +kernel
