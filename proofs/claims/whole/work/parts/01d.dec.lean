theorem dX6_init_0 : decode cX6_init 0 = .ok (.aload_n 0, 1) := by decide +kernel
theorem dX6_init_1 : decode cX6_init 1 = .ok (.aload_n 1, 1) := by decide +kernel
theorem dX6_init_2 : decode cX6_init 2 = .ok (.putfield 3, 3) := by decide +kernel
theorem dX6_init_5 : decode cX6_init 5 = .ok (.aload_n 0, 1) := by decide +kernel
theorem dX6_init_6 : decode cX6_init 6 = .ok (.invokespecial 9, 3) := by decide +kernel
theorem dX6_init_9 : decode cX6_init 9 = .ok (.aload_n 0, 1) := by decide +kernel
theorem dX6_init_10 : decode cX6_init 10 = .ok (.bipush 24, 2) := by decide +kernel
theorem dX6_init_12 : decode cX6_init 12 = .ok (.newarray .int, 2) := by decide +kernel
theorem dX6_init_14 : decode cX6_init 14 = .ok (.putfield 15, 3) := by decide +kernel
theorem dX6_init_17 : decode cX6_init 17 = .ok (.aload_n 0, 1) := by decide +kernel
theorem dX6_init_18 : decode cX6_init 18 = .ok (.bipush 24, 2) := by decide +kernel
theorem dX6_init_20 : decode cX6_init 20 = .ok (.newarray .int, 2) := by decide +kernel
theorem dX6_init_22 : decode cX6_init 22 = .ok (.putfield 19, 3) := by decide +kernel
theorem dX6_init_25 : decode cX6_init 25 = .ok (.aload_n 0, 1) := by decide +kernel
theorem dX6_init_26 : decode cX6_init 26 = .ok (.bipush 24, 2) := by decide +kernel
theorem dX6_init_28 : decode cX6_init 28 = .ok (.newarray .int, 2) := by decide +kernel
theorem dX6_init_30 : decode cX6_init 30 = .ok (.putfield 22, 3) := by decide +kernel
theorem dX6_init_33 : decode cX6_init 33 = .ok (.aload_n 0, 1) := by decide +kernel
theorem dX6_init_34 : decode cX6_init 34 = .ok (.bipush 24, 2) := by decide +kernel
theorem dX6_init_36 : decode cX6_init 36 = .ok (.newarray .int, 2) := by decide +kernel
theorem dX6_init_38 : decode cX6_init 38 = .ok (.putfield 25, 3) := by decide +kernel
theorem dX6_init_41 : decode cX6_init 41 = .ok (.aload_n 0, 1) := by decide +kernel
theorem dX6_init_42 : decode cX6_init 42 = .ok (.bipush 48, 2) := by decide +kernel
theorem dX6_init_44 : decode cX6_init 44 = .ok (.newarray .int, 2) := by decide +kernel
theorem dX6_init_46 : decode cX6_init 46 = .ok (.putfield 28, 3) := by decide +kernel
theorem dX6_init_49 : decode cX6_init 49 = .ok (.aload_n 0, 1) := by decide +kernel
theorem dX6_init_50 : decode cX6_init 50 = .ok (.bipush 48, 2) := by decide +kernel
theorem dX6_init_52 : decode cX6_init 52 = .ok (.newarray .int, 2) := by decide +kernel
theorem dX6_init_54 : decode cX6_init 54 = .ok (.putfield 31, 3) := by decide +kernel
theorem dX6_init_57 : decode cX6_init 57 = .ok (.aload_n 0, 1) := by decide +kernel
theorem dX6_init_58 : decode cX6_init 58 = .ok (.bipush 6, 2) := by decide +kernel
theorem dX6_init_60 : decode cX6_init 60 = .ok (.newarray .int, 2) := by decide +kernel
theorem dX6_init_62 : decode cX6_init 62 = .ok (.putfield 34, 3) := by decide +kernel
theorem dX6_init_65 : decode cX6_init 65 = .ok (.aload_n 0, 1) := by decide +kernel
theorem dX6_init_66 : decode cX6_init 66 = .ok (.bipush 6, 2) := by decide +kernel
theorem dX6_init_68 : decode cX6_init 68 = .ok (.newarray .int, 2) := by decide +kernel
theorem dX6_init_70 : decode cX6_init 70 = .ok (.putfield 37, 3) := by decide +kernel
theorem dX6_init_73 : decode cX6_init 73 = .ok (.aload_n 0, 1) := by decide +kernel
theorem dX6_init_74 : decode cX6_init 74 = .ok (.bipush 6, 2) := by decide +kernel
theorem dX6_init_76 : decode cX6_init 76 = .ok (.newarray .int, 2) := by decide +kernel
theorem dX6_init_78 : decode cX6_init 78 = .ok (.putfield 40, 3) := by decide +kernel
theorem dX6_init_81 : decode cX6_init 81 = .ok (.aload_n 0, 1) := by decide +kernel
theorem dX6_init_82 : decode cX6_init 82 = .ok (.bipush 24, 2) := by decide +kernel
theorem dX6_init_84 : decode cX6_init 84 = .ok (.newarray .int, 2) := by decide +kernel
theorem dX6_init_86 : decode cX6_init 86 = .ok (.putfield 43, 3) := by decide +kernel
theorem dX6_init_89 : decode cX6_init 89 = .ok (.aload_n 0, 1) := by decide +kernel
theorem dX6_init_90 : decode cX6_init 90 = .ok (.bipush 24, 2) := by decide +kernel
theorem dX6_init_92 : decode cX6_init 92 = .ok (.newarray .int, 2) := by decide +kernel
theorem dX6_init_94 : decode cX6_init 94 = .ok (.putfield 46, 3) := by decide +kernel
theorem dX6_init_97 : decode cX6_init 97 = .ok (.return_, 1) := by decide +kernel
theorem dX6_copy_0 : decode cX6_copy 0 = .ok (.aload_n 1, 1) := by decide +kernel
theorem dX6_copy_1 : decode cX6_copy 1 = .ok (.iconst 0, 1) := by decide +kernel
theorem dX6_copy_2 : decode cX6_copy 2 = .ok (.aload_n 2, 1) := by decide +kernel
theorem dX6_copy_3 : decode cX6_copy 3 = .ok (.iconst 0, 1) := by decide +kernel
theorem dX6_copy_4 : decode cX6_copy 4 = .ok (.aload_n 1, 1) := by decide +kernel
theorem dX6_copy_5 : decode cX6_copy 5 = .ok (.arraylength, 1) := by decide +kernel
theorem dX6_copy_6 : decode cX6_copy 6 = .ok (.invokestatic 49, 3) := by decide +kernel
theorem dX6_copy_9 : decode cX6_copy 9 = .ok (.return_, 1) := by decide +kernel
theorem dX6_become_0 : decode cX6_become 0 = .ok (.aload_n 0, 1) := by decide +kernel
theorem dX6_become_1 : decode cX6_become 1 = .ok (.aload_n 1, 1) := by decide +kernel
theorem dX6_become_2 : decode cX6_become 2 = .ok (.getfield 55, 3) := by decide +kernel
theorem dX6_become_5 : decode cX6_become 5 = .ok (.putfield 55, 3) := by decide +kernel
theorem dX6_become_8 : decode cX6_become 8 = .ok (.aload_n 0, 1) := by decide +kernel
theorem dX6_become_9 : decode cX6_become 9 = .ok (.aload_n 1, 1) := by decide +kernel
theorem dX6_become_10 : decode cX6_become 10 = .ok (.getfield 59, 3) := by decide +kernel
theorem dX6_become_13 : decode cX6_become 13 = .ok (.putfield 59, 3) := by decide +kernel
theorem dX6_become_16 : decode cX6_become 16 = .ok (.aload_n 0, 1) := by decide +kernel
theorem dX6_become_17 : decode cX6_become 17 = .ok (.aload_n 1, 1) := by decide +kernel
theorem dX6_become_18 : decode cX6_become 18 = .ok (.getfield 62, 3) := by decide +kernel
theorem dX6_become_21 : decode cX6_become 21 = .ok (.putfield 62, 3) := by decide +kernel
theorem dX6_become_24 : decode cX6_become 24 = .ok (.aload_n 0, 1) := by decide +kernel
theorem dX6_become_25 : decode cX6_become 25 = .ok (.aload_n 1, 1) := by decide +kernel
theorem dX6_become_26 : decode cX6_become 26 = .ok (.getfield 15, 3) := by decide +kernel
theorem dX6_become_29 : decode cX6_become 29 = .ok (.aload_n 0, 1) := by decide +kernel
theorem dX6_become_30 : decode cX6_become 30 = .ok (.getfield 15, 3) := by decide +kernel
theorem dX6_become_33 : decode cX6_become 33 = .ok (.invokevirtual 65, 3) := by decide +kernel
theorem dX6_become_36 : decode cX6_become 36 = .ok (.aload_n 0, 1) := by decide +kernel
theorem dX6_become_37 : decode cX6_become 37 = .ok (.aload_n 1, 1) := by decide +kernel
theorem dX6_become_38 : decode cX6_become 38 = .ok (.getfield 19, 3) := by decide +kernel
theorem dX6_become_41 : decode cX6_become 41 = .ok (.aload_n 0, 1) := by decide +kernel
theorem dX6_become_42 : decode cX6_become 42 = .ok (.getfield 19, 3) := by decide +kernel
theorem dX6_become_45 : decode cX6_become 45 = .ok (.invokevirtual 65, 3) := by decide +kernel
theorem dX6_become_48 : decode cX6_become 48 = .ok (.aload_n 0, 1) := by decide +kernel
theorem dX6_become_49 : decode cX6_become 49 = .ok (.aload_n 1, 1) := by decide +kernel
theorem dX6_become_50 : decode cX6_become 50 = .ok (.getfield 22, 3) := by decide +kernel
theorem dX6_become_53 : decode cX6_become 53 = .ok (.aload_n 0, 1) := by decide +kernel
theorem dX6_become_54 : decode cX6_become 54 = .ok (.getfield 22, 3) := by decide +kernel
theorem dX6_become_57 : decode cX6_become 57 = .ok (.invokevirtual 65, 3) := by decide +kernel
theorem dX6_become_60 : decode cX6_become 60 = .ok (.aload_n 0, 1) := by decide +kernel
theorem dX6_become_61 : decode cX6_become 61 = .ok (.aload_n 1, 1) := by decide +kernel
theorem dX6_become_62 : decode cX6_become 62 = .ok (.getfield 25, 3) := by decide +kernel
theorem dX6_become_65 : decode cX6_become 65 = .ok (.aload_n 0, 1) := by decide +kernel
theorem dX6_become_66 : decode cX6_become 66 = .ok (.getfield 25, 3) := by decide +kernel
theorem dX6_become_69 : decode cX6_become 69 = .ok (.invokevirtual 65, 3) := by decide +kernel
theorem dX6_become_72 : decode cX6_become 72 = .ok (.aload_n 0, 1) := by decide +kernel
theorem dX6_become_73 : decode cX6_become 73 = .ok (.aload_n 1, 1) := by decide +kernel
theorem dX6_become_74 : decode cX6_become 74 = .ok (.getfield 28, 3) := by decide +kernel
theorem dX6_become_77 : decode cX6_become 77 = .ok (.aload_n 0, 1) := by decide +kernel
theorem dX6_become_78 : decode cX6_become 78 = .ok (.getfield 28, 3) := by decide +kernel
theorem dX6_become_81 : decode cX6_become 81 = .ok (.invokevirtual 65, 3) := by decide +kernel
theorem dX6_become_84 : decode cX6_become 84 = .ok (.aload_n 0, 1) := by decide +kernel
theorem dX6_become_85 : decode cX6_become 85 = .ok (.aload_n 1, 1) := by decide +kernel
theorem dX6_become_86 : decode cX6_become 86 = .ok (.getfield 31, 3) := by decide +kernel
theorem dX6_become_89 : decode cX6_become 89 = .ok (.aload_n 0, 1) := by decide +kernel
theorem dX6_become_90 : decode cX6_become 90 = .ok (.getfield 31, 3) := by decide +kernel
theorem dX6_become_93 : decode cX6_become 93 = .ok (.invokevirtual 65, 3) := by decide +kernel
theorem dX6_become_96 : decode cX6_become 96 = .ok (.aload_n 0, 1) := by decide +kernel
theorem dX6_become_97 : decode cX6_become 97 = .ok (.aload_n 1, 1) := by decide +kernel
theorem dX6_become_98 : decode cX6_become 98 = .ok (.getfield 34, 3) := by decide +kernel
theorem dX6_become_101 : decode cX6_become 101 = .ok (.aload_n 0, 1) := by decide +kernel
theorem dX6_become_102 : decode cX6_become 102 = .ok (.getfield 34, 3) := by decide +kernel
theorem dX6_become_105 : decode cX6_become 105 = .ok (.invokevirtual 65, 3) := by decide +kernel
theorem dX6_become_108 : decode cX6_become 108 = .ok (.aload_n 0, 1) := by decide +kernel
theorem dX6_become_109 : decode cX6_become 109 = .ok (.aload_n 1, 1) := by decide +kernel
theorem dX6_become_110 : decode cX6_become 110 = .ok (.getfield 37, 3) := by decide +kernel
theorem dX6_become_113 : decode cX6_become 113 = .ok (.aload_n 0, 1) := by decide +kernel
theorem dX6_become_114 : decode cX6_become 114 = .ok (.getfield 37, 3) := by decide +kernel
theorem dX6_become_117 : decode cX6_become 117 = .ok (.invokevirtual 65, 3) := by decide +kernel
theorem dX6_become_120 : decode cX6_become 120 = .ok (.aload_n 0, 1) := by decide +kernel
theorem dX6_become_121 : decode cX6_become 121 = .ok (.aload_n 1, 1) := by decide +kernel
theorem dX6_become_122 : decode cX6_become 122 = .ok (.getfield 40, 3) := by decide +kernel
theorem dX6_become_125 : decode cX6_become 125 = .ok (.aload_n 0, 1) := by decide +kernel
theorem dX6_become_126 : decode cX6_become 126 = .ok (.getfield 40, 3) := by decide +kernel
theorem dX6_become_129 : decode cX6_become 129 = .ok (.invokevirtual 65, 3) := by decide +kernel
theorem dX6_become_132 : decode cX6_become 132 = .ok (.aload_n 0, 1) := by decide +kernel
theorem dX6_become_133 : decode cX6_become 133 = .ok (.aload_n 1, 1) := by decide +kernel
theorem dX6_become_134 : decode cX6_become 134 = .ok (.getfield 43, 3) := by decide +kernel
theorem dX6_become_137 : decode cX6_become 137 = .ok (.aload_n 0, 1) := by decide +kernel
theorem dX6_become_138 : decode cX6_become 138 = .ok (.getfield 43, 3) := by decide +kernel
theorem dX6_become_141 : decode cX6_become 141 = .ok (.invokevirtual 65, 3) := by decide +kernel
theorem dX6_become_144 : decode cX6_become 144 = .ok (.return_, 1) := by decide +kernel
theorem dX6_sits_0 : decode cX6_sits 0 = .ok (.iconst 0, 1) := by decide +kernel
theorem dX6_sits_1 : decode cX6_sits 1 = .ok (.istore_n 3, 1) := by decide +kernel
theorem dX6_sits_2 : decode cX6_sits 2 = .ok (.bipush 8, 2) := by decide +kernel
theorem dX6_sits_4 : decode cX6_sits 4 = .ok (.iload_n 1, 1) := by decide +kernel
theorem dX6_sits_5 : decode cX6_sits 5 = .ok (.imul, 1) := by decide +kernel
theorem dX6_sits_6 : decode cX6_sits 6 = .ok (.istore 4, 2) := by decide +kernel
theorem dX6_sits_8 : decode cX6_sits 8 = .ok (.iload 4, 2) := by decide +kernel
theorem dX6_sits_10 : decode cX6_sits 10 = .ok (.bipush 8, 2) := by decide +kernel
theorem dX6_sits_12 : decode cX6_sits 12 = .ok (.iload_n 1, 1) := by decide +kernel
theorem dX6_sits_13 : decode cX6_sits 13 = .ok (.imul, 1) := by decide +kernel
theorem dX6_sits_14 : decode cX6_sits 14 = .ok (.aload_n 0, 1) := by decide +kernel
theorem dX6_sits_15 : decode cX6_sits 15 = .ok (.getfield 3, 3) := by decide +kernel
theorem dX6_sits_18 : decode cX6_sits 18 = .ok (.getfield 69, 3) := by decide +kernel
theorem dX6_sits_21 : decode cX6_sits 21 = .ok (.iload_n 1, 1) := by decide +kernel
theorem dX6_sits_22 : decode cX6_sits 22 = .ok (.iaload, 1) := by decide +kernel
theorem dX6_sits_23 : decode cX6_sits 23 = .ok (.iadd, 1) := by decide +kernel
theorem dX6_sits_24 : decode cX6_sits 24 = .ok (.if_icmp .ge 28, 3) := by decide +kernel
theorem dX6_sits_27 : decode cX6_sits 27 = .ok (.iload_n 3, 1) := by decide +kernel
theorem dX6_sits_28 : decode cX6_sits 28 = .ok (.aload_n 0, 1) := by decide +kernel
theorem dX6_sits_29 : decode cX6_sits 29 = .ok (.getfield 31, 3) := by decide +kernel
theorem dX6_sits_32 : decode cX6_sits 32 = .ok (.iload 4, 2) := by decide +kernel
theorem dX6_sits_34 : decode cX6_sits 34 = .ok (.iaload, 1) := by decide +kernel
theorem dX6_sits_35 : decode cX6_sits 35 = .ok (.iload_n 2, 1) := by decide +kernel
theorem dX6_sits_36 : decode cX6_sits 36 = .ok (.if_icmp .ne 7, 3) := by decide +kernel
theorem dX6_sits_39 : decode cX6_sits 39 = .ok (.iconst 1, 1) := by decide +kernel
theorem dX6_sits_40 : decode cX6_sits 40 = .ok (.goto 4, 3) := by decide +kernel
theorem dX6_sits_43 : decode cX6_sits 43 = .ok (.iconst 0, 1) := by decide +kernel
theorem dX6_sits_44 : decode cX6_sits 44 = .ok (.ior, 1) := by decide +kernel
theorem dX6_sits_45 : decode cX6_sits 45 = .ok (.istore_n 3, 1) := by decide +kernel
theorem dX6_sits_46 : decode cX6_sits 46 = .ok (.iinc 4 1, 3) := by decide +kernel
theorem dX6_sits_49 : decode cX6_sits 49 = .ok (.goto (-41), 3) := by decide +kernel
theorem dX6_sits_52 : decode cX6_sits 52 = .ok (.iload_n 3, 1) := by decide +kernel
theorem dX6_sits_53 : decode cX6_sits 53 = .ok (.ireturn, 1) := by decide +kernel
theorem dX6_find_0 : decode cX6_find 0 = .ok (.aload_n 0, 1) := by decide +kernel
theorem dX6_find_1 : decode cX6_find 1 = .ok (.getfield 3, 3) := by decide +kernel
theorem dX6_find_4 : decode cX6_find 4 = .ok (.getfield 72, 3) := by decide +kernel
theorem dX6_find_7 : decode cX6_find 7 = .ok (.iload_n 2, 1) := by decide +kernel
theorem dX6_find_8 : decode cX6_find 8 = .ok (.iaload, 1) := by decide +kernel
theorem dX6_find_9 : decode cX6_find 9 = .ok (.istore_n 3, 1) := by decide +kernel
theorem dX6_find_10 : decode cX6_find 10 = .ok (.aload_n 0, 1) := by decide +kernel
theorem dX6_find_11 : decode cX6_find 11 = .ok (.getfield 28, 3) := by decide +kernel
theorem dX6_find_14 : decode cX6_find 14 = .ok (.iload_n 2, 1) := by decide +kernel
theorem dX6_find_15 : decode cX6_find 15 = .ok (.iaload, 1) := by decide +kernel
theorem dX6_find_16 : decode cX6_find 16 = .ok (.iconst (-1), 1) := by decide +kernel
theorem dX6_find_17 : decode cX6_find 17 = .ok (.if_icmp .ne 7, 3) := by decide +kernel
theorem dX6_find_20 : decode cX6_find 20 = .ok (.iconst 5, 1) := by decide +kernel
theorem dX6_find_21 : decode cX6_find 21 = .ok (.goto 23, 3) := by decide +kernel
theorem dX6_find_24 : decode cX6_find 24 = .ok (.aload_n 0, 1) := by decide +kernel
theorem dX6_find_25 : decode cX6_find 25 = .ok (.getfield 3, 3) := by decide +kernel
theorem dX6_find_28 : decode cX6_find 28 = .ok (.getfield 75, 3) := by decide +kernel
theorem dX6_find_31 : decode cX6_find 31 = .ok (.iconst 4, 1) := by decide +kernel
theorem dX6_find_32 : decode cX6_find 32 = .ok (.aload_n 0, 1) := by decide +kernel
theorem dX6_find_33 : decode cX6_find 33 = .ok (.getfield 28, 3) := by decide +kernel
theorem dX6_find_36 : decode cX6_find 36 = .ok (.iload_n 2, 1) := by decide +kernel
theorem dX6_find_37 : decode cX6_find 37 = .ok (.iaload, 1) := by decide +kernel
theorem dX6_find_38 : decode cX6_find 38 = .ok (.imul, 1) := by decide +kernel
theorem dX6_find_39 : decode cX6_find 39 = .ok (.iload_n 3, 1) := by decide +kernel
theorem dX6_find_40 : decode cX6_find 40 = .ok (.iadd, 1) := by decide +kernel
theorem dX6_find_41 : decode cX6_find 41 = .ok (.iaload, 1) := by decide +kernel
theorem dX6_find_42 : decode cX6_find 42 = .ok (.iconst 1, 1) := by decide +kernel
theorem dX6_find_43 : decode cX6_find 43 = .ok (.iadd, 1) := by decide +kernel
theorem dX6_find_44 : decode cX6_find 44 = .ok (.istore 4, 2) := by decide +kernel
theorem dX6_find_46 : decode cX6_find 46 = .ok (.iconst (-1), 1) := by decide +kernel
theorem dX6_find_47 : decode cX6_find 47 = .ok (.istore 5, 2) := by decide +kernel
theorem dX6_find_49 : decode cX6_find 49 = .ok (.iconst 0, 1) := by decide +kernel
theorem dX6_find_50 : decode cX6_find 50 = .ok (.istore 6, 2) := by decide +kernel
theorem dX6_find_52 : decode cX6_find 52 = .ok (.iload 6, 2) := by decide +kernel
theorem dX6_find_54 : decode cX6_find 54 = .ok (.aload_n 0, 1) := by decide +kernel
theorem dX6_find_55 : decode cX6_find 55 = .ok (.getfield 3, 3) := by decide +kernel
theorem dX6_find_58 : decode cX6_find 58 = .ok (.getfield 78, 3) := by decide +kernel
theorem dX6_find_61 : decode cX6_find 61 = .ok (.if_icmp .ge 127, 3) := by decide +kernel
theorem dX6_find_64 : decode cX6_find 64 = .ok (.aload_n 0, 1) := by decide +kernel
theorem dX6_find_65 : decode cX6_find 65 = .ok (.getfield 3, 3) := by decide +kernel
theorem dX6_find_68 : decode cX6_find 68 = .ok (.getfield 75, 3) := by decide +kernel
theorem dX6_find_71 : decode cX6_find 71 = .ok (.iconst 4, 1) := by decide +kernel
theorem dX6_find_72 : decode cX6_find 72 = .ok (.iload 6, 2) := by decide +kernel
theorem dX6_find_74 : decode cX6_find 74 = .ok (.imul, 1) := by decide +kernel
theorem dX6_find_75 : decode cX6_find 75 = .ok (.iload_n 3, 1) := by decide +kernel
theorem dX6_find_76 : decode cX6_find 76 = .ok (.iadd, 1) := by decide +kernel
theorem dX6_find_77 : decode cX6_find 77 = .ok (.iaload, 1) := by decide +kernel
theorem dX6_find_78 : decode cX6_find 78 = .ok (.istore 7, 2) := by decide +kernel
theorem dX6_find_80 : decode cX6_find 80 = .ok (.aload_n 0, 1) := by decide +kernel
theorem dX6_find_81 : decode cX6_find 81 = .ok (.getfield 19, 3) := by decide +kernel
theorem dX6_find_84 : decode cX6_find 84 = .ok (.iload 6, 2) := by decide +kernel
theorem dX6_find_86 : decode cX6_find 86 = .ok (.iaload, 1) := by decide +kernel
theorem dX6_find_87 : decode cX6_find 87 = .ok (.ifCond .gt 95, 3) := by decide +kernel
theorem dX6_find_90 : decode cX6_find 90 = .ok (.aload_n 0, 1) := by decide +kernel
theorem dX6_find_91 : decode cX6_find 91 = .ok (.getfield 46, 3) := by decide +kernel
theorem dX6_find_94 : decode cX6_find 94 = .ok (.iload 6, 2) := by decide +kernel
theorem dX6_find_96 : decode cX6_find 96 = .ok (.iaload, 1) := by decide +kernel
theorem dX6_find_97 : decode cX6_find 97 = .ok (.iconst 1, 1) := by decide +kernel
theorem dX6_find_98 : decode cX6_find 98 = .ok (.if_icmp .gt 84, 3) := by decide +kernel
theorem dX6_find_101 : decode cX6_find 101 = .ok (.iload 7, 2) := by decide +kernel
theorem dX6_find_103 : decode cX6_find 103 = .ok (.iload 4, 2) := by decide +kernel
theorem dX6_find_105 : decode cX6_find 105 = .ok (.if_icmp .gt 77, 3) := by decide +kernel
theorem dX6_find_108 : decode cX6_find 108 = .ok (.aload_n 0, 1) := by decide +kernel
theorem dX6_find_109 : decode cX6_find 109 = .ok (.iload_n 1, 1) := by decide +kernel
theorem dX6_find_110 : decode cX6_find 110 = .ok (.iload 6, 2) := by decide +kernel
theorem dX6_find_112 : decode cX6_find 112 = .ok (.invokevirtual 81, 3) := by decide +kernel
theorem dX6_find_115 : decode cX6_find 115 = .ok (.ifCond .eq 6, 3) := by decide +kernel
theorem dX6_find_118 : decode cX6_find 118 = .ok (.goto 64, 3) := by decide +kernel
theorem dX6_find_121 : decode cX6_find 121 = .ok (.iload 5, 2) := by decide +kernel
theorem dX6_find_123 : decode cX6_find 123 = .ok (.iconst (-1), 1) := by decide +kernel
theorem dX6_find_124 : decode cX6_find 124 = .ok (.if_icmp .ne 7, 3) := by decide +kernel
theorem dX6_find_127 : decode cX6_find 127 = .ok (.iconst (-1), 1) := by decide +kernel
theorem dX6_find_128 : decode cX6_find 128 = .ok (.goto 17, 3) := by decide +kernel
theorem dX6_find_131 : decode cX6_find 131 = .ok (.aload_n 0, 1) := by decide +kernel
theorem dX6_find_132 : decode cX6_find 132 = .ok (.getfield 3, 3) := by decide +kernel
theorem dX6_find_135 : decode cX6_find 135 = .ok (.getfield 75, 3) := by decide +kernel
theorem dX6_find_138 : decode cX6_find 138 = .ok (.iconst 4, 1) := by decide +kernel
theorem dX6_find_139 : decode cX6_find 139 = .ok (.iload 5, 2) := by decide +kernel
theorem dX6_find_141 : decode cX6_find 141 = .ok (.imul, 1) := by decide +kernel
theorem dX6_find_142 : decode cX6_find 142 = .ok (.iload_n 3, 1) := by decide +kernel
theorem dX6_find_143 : decode cX6_find 143 = .ok (.iadd, 1) := by decide +kernel
theorem dX6_find_144 : decode cX6_find 144 = .ok (.iaload, 1) := by decide +kernel
theorem dX6_find_145 : decode cX6_find 145 = .ok (.istore 8, 2) := by decide +kernel
theorem dX6_find_147 : decode cX6_find 147 = .ok (.iload 7, 2) := by decide +kernel
theorem dX6_find_149 : decode cX6_find 149 = .ok (.iload 8, 2) := by decide +kernel
theorem dX6_find_151 : decode cX6_find 151 = .ok (.if_icmp .gt 27, 3) := by decide +kernel
theorem dX6_find_154 : decode cX6_find 154 = .ok (.iload 7, 2) := by decide +kernel
theorem dX6_find_156 : decode cX6_find 156 = .ok (.iload 8, 2) := by decide +kernel
theorem dX6_find_158 : decode cX6_find 158 = .ok (.if_icmp .ne 24, 3) := by decide +kernel
theorem dX6_find_161 : decode cX6_find 161 = .ok (.aload_n 0, 1) := by decide +kernel
theorem dX6_find_162 : decode cX6_find 162 = .ok (.getfield 15, 3) := by decide +kernel
theorem dX6_find_165 : decode cX6_find 165 = .ok (.iload 6, 2) := by decide +kernel
theorem dX6_find_167 : decode cX6_find 167 = .ok (.iaload, 1) := by decide +kernel
theorem dX6_find_168 : decode cX6_find 168 = .ok (.aload_n 0, 1) := by decide +kernel
theorem dX6_find_169 : decode cX6_find 169 = .ok (.getfield 15, 3) := by decide +kernel
theorem dX6_find_172 : decode cX6_find 172 = .ok (.iload 5, 2) := by decide +kernel
theorem dX6_find_174 : decode cX6_find 174 = .ok (.iaload, 1) := by decide +kernel
theorem dX6_find_175 : decode cX6_find 175 = .ok (.if_icmp .ge 7, 3) := by decide +kernel
theorem dX6_find_178 : decode cX6_find 178 = .ok (.iload 6, 2) := by decide +kernel
theorem dX6_find_180 : decode cX6_find 180 = .ok (.istore 5, 2) := by decide +kernel
theorem dX6_find_182 : decode cX6_find 182 = .ok (.iinc 6 1, 3) := by decide +kernel
theorem dX6_find_185 : decode cX6_find 185 = .ok (.goto (-133), 3) := by decide +kernel
theorem dX6_find_188 : decode cX6_find 188 = .ok (.iload 5, 2) := by decide +kernel
theorem dX6_find_190 : decode cX6_find 190 = .ok (.ireturn, 1) := by decide +kernel
theorem dX6_play_0 : decode cX6_play 0 = .ok (.bipush 8, 2) := by decide +kernel
theorem dX6_play_2 : decode cX6_play 2 = .ok (.iload_n 1, 1) := by decide +kernel
theorem dX6_play_3 : decode cX6_play 3 = .ok (.imul, 1) := by decide +kernel
theorem dX6_play_4 : decode cX6_play 4 = .ok (.istore_n 2, 1) := by decide +kernel
theorem dX6_play_5 : decode cX6_play 5 = .ok (.iload_n 2, 1) := by decide +kernel
theorem dX6_play_6 : decode cX6_play 6 = .ok (.aload_n 0, 1) := by decide +kernel
theorem dX6_play_7 : decode cX6_play 7 = .ok (.getfield 3, 3) := by decide +kernel
theorem dX6_play_10 : decode cX6_play 10 = .ok (.getfield 69, 3) := by decide +kernel
theorem dX6_play_13 : decode cX6_play 13 = .ok (.iload_n 1, 1) := by decide +kernel
theorem dX6_play_14 : decode cX6_play 14 = .ok (.iaload, 1) := by decide +kernel
theorem dX6_play_15 : decode cX6_play 15 = .ok (.iadd, 1) := by decide +kernel
theorem dX6_play_16 : decode cX6_play 16 = .ok (.istore_n 3, 1) := by decide +kernel
theorem dX6_play_17 : decode cX6_play 17 = .ok (.iconst 0, 1) := by decide +kernel
theorem dX6_play_18 : decode cX6_play 18 = .ok (.istore 4, 2) := by decide +kernel
theorem dX6_play_20 : decode cX6_play 20 = .ok (.iconst 0, 1) := by decide +kernel
theorem dX6_play_21 : decode cX6_play 21 = .ok (.istore 5, 2) := by decide +kernel
theorem dX6_play_23 : decode cX6_play 23 = .ok (.iload_n 2, 1) := by decide +kernel
theorem dX6_play_24 : decode cX6_play 24 = .ok (.istore 6, 2) := by decide +kernel
theorem dX6_play_26 : decode cX6_play 26 = .ok (.iload 6, 2) := by decide +kernel
theorem dX6_play_28 : decode cX6_play 28 = .ok (.iload_n 3, 1) := by decide +kernel
theorem dX6_play_29 : decode cX6_play 29 = .ok (.if_icmp .ge 53, 3) := by decide +kernel
theorem dX6_play_32 : decode cX6_play 32 = .ok (.aload_n 0, 1) := by decide +kernel
theorem dX6_play_33 : decode cX6_play 33 = .ok (.getfield 31, 3) := by decide +kernel
theorem dX6_play_36 : decode cX6_play 36 = .ok (.iload 6, 2) := by decide +kernel
theorem dX6_play_38 : decode cX6_play 38 = .ok (.aload_n 0, 1) := by decide +kernel
theorem dX6_play_39 : decode cX6_play 39 = .ok (.getfield 28, 3) := by decide +kernel
theorem dX6_play_42 : decode cX6_play 42 = .ok (.iload 6, 2) := by decide +kernel
theorem dX6_play_44 : decode cX6_play 44 = .ok (.iaload, 1) := by decide +kernel
theorem dX6_play_45 : decode cX6_play 45 = .ok (.iconst (-1), 1) := by decide +kernel
theorem dX6_play_46 : decode cX6_play 46 = .ok (.if_icmp .eq 28, 3) := by decide +kernel
theorem dX6_play_49 : decode cX6_play 49 = .ok (.aload_n 0, 1) := by decide +kernel
theorem dX6_play_50 : decode cX6_play 50 = .ok (.getfield 19, 3) := by decide +kernel
theorem dX6_play_53 : decode cX6_play 53 = .ok (.aload_n 0, 1) := by decide +kernel
theorem dX6_play_54 : decode cX6_play 54 = .ok (.getfield 28, 3) := by decide +kernel
theorem dX6_play_57 : decode cX6_play 57 = .ok (.iload 6, 2) := by decide +kernel
theorem dX6_play_59 : decode cX6_play 59 = .ok (.iaload, 1) := by decide +kernel
theorem dX6_play_60 : decode cX6_play 60 = .ok (.iaload, 1) := by decide +kernel
theorem dX6_play_61 : decode cX6_play 61 = .ok (.ifCond .ne 13, 3) := by decide +kernel
theorem dX6_play_64 : decode cX6_play 64 = .ok (.aload_n 0, 1) := by decide +kernel
theorem dX6_play_65 : decode cX6_play 65 = .ok (.getfield 28, 3) := by decide +kernel
theorem dX6_play_68 : decode cX6_play 68 = .ok (.iload 6, 2) := by decide +kernel
theorem dX6_play_70 : decode cX6_play 70 = .ok (.iaload, 1) := by decide +kernel
theorem dX6_play_71 : decode cX6_play 71 = .ok (.goto 4, 3) := by decide +kernel
theorem dX6_play_74 : decode cX6_play 74 = .ok (.iconst (-1), 1) := by decide +kernel
theorem dX6_play_75 : decode cX6_play 75 = .ok (.iastore, 1) := by decide +kernel
theorem dX6_play_76 : decode cX6_play 76 = .ok (.iinc 6 1, 3) := by decide +kernel
theorem dX6_play_79 : decode cX6_play 79 = .ok (.goto (-53), 3) := by decide +kernel
theorem dX6_play_82 : decode cX6_play 82 = .ok (.iconst 0, 1) := by decide +kernel
theorem dX6_play_83 : decode cX6_play 83 = .ok (.istore 6, 2) := by decide +kernel
theorem dX6_play_85 : decode cX6_play 85 = .ok (.iload_n 2, 1) := by decide +kernel
theorem dX6_play_86 : decode cX6_play 86 = .ok (.istore 7, 2) := by decide +kernel
theorem dX6_play_88 : decode cX6_play 88 = .ok (.iload 7, 2) := by decide +kernel
theorem dX6_play_90 : decode cX6_play 90 = .ok (.iload_n 3, 1) := by decide +kernel
theorem dX6_play_91 : decode cX6_play 91 = .ok (.if_icmp .ge 30, 3) := by decide +kernel
theorem dX6_play_94 : decode cX6_play 94 = .ok (.iload 6, 2) := by decide +kernel
theorem dX6_play_96 : decode cX6_play 96 = .ok (.aload_n 0, 1) := by decide +kernel
theorem dX6_play_97 : decode cX6_play 97 = .ok (.getfield 31, 3) := by decide +kernel
theorem dX6_play_100 : decode cX6_play 100 = .ok (.iload 7, 2) := by decide +kernel
theorem dX6_play_102 : decode cX6_play 102 = .ok (.iaload, 1) := by decide +kernel
theorem dX6_play_103 : decode cX6_play 103 = .ok (.iconst (-1), 1) := by decide +kernel
theorem dX6_play_104 : decode cX6_play 104 = .ok (.if_icmp .ne 7, 3) := by decide +kernel
theorem dX6_play_107 : decode cX6_play 107 = .ok (.iconst 0, 1) := by decide +kernel
theorem dX6_play_108 : decode cX6_play 108 = .ok (.goto 4, 3) := by decide +kernel
theorem dX6_play_111 : decode cX6_play 111 = .ok (.iconst 1, 1) := by decide +kernel
theorem dX6_play_112 : decode cX6_play 112 = .ok (.iadd, 1) := by decide +kernel
theorem dX6_play_113 : decode cX6_play 113 = .ok (.istore 6, 2) := by decide +kernel
theorem dX6_play_115 : decode cX6_play 115 = .ok (.iinc 7 1, 3) := by decide +kernel
theorem dX6_play_118 : decode cX6_play 118 = .ok (.goto (-30), 3) := by decide +kernel
theorem dX6_play_121 : decode cX6_play 121 = .ok (.iload_n 2, 1) := by decide +kernel
theorem dX6_play_122 : decode cX6_play 122 = .ok (.istore 7, 2) := by decide +kernel
theorem dX6_play_124 : decode cX6_play 124 = .ok (.iload 7, 2) := by decide +kernel
theorem dX6_play_126 : decode cX6_play 126 = .ok (.iload_n 3, 1) := by decide +kernel
theorem dX6_play_127 : decode cX6_play 127 = .ok (.if_icmp .ge 89, 3) := by decide +kernel
theorem dX6_play_130 : decode cX6_play 130 = .ok (.aload_n 0, 1) := by decide +kernel
theorem dX6_play_131 : decode cX6_play 131 = .ok (.getfield 31, 3) := by decide +kernel
theorem dX6_play_134 : decode cX6_play 134 = .ok (.iload 7, 2) := by decide +kernel
theorem dX6_play_136 : decode cX6_play 136 = .ok (.iaload, 1) := by decide +kernel
theorem dX6_play_137 : decode cX6_play 137 = .ok (.iconst (-1), 1) := by decide +kernel
theorem dX6_play_138 : decode cX6_play 138 = .ok (.if_icmp .eq 6, 3) := by decide +kernel
theorem dX6_play_141 : decode cX6_play 141 = .ok (.goto 69, 3) := by decide +kernel
theorem dX6_play_144 : decode cX6_play 144 = .ok (.aload_n 0, 1) := by decide +kernel
theorem dX6_play_145 : decode cX6_play 145 = .ok (.getfield 31, 3) := by decide +kernel
theorem dX6_play_148 : decode cX6_play 148 = .ok (.iload 7, 2) := by decide +kernel
theorem dX6_play_150 : decode cX6_play 150 = .ok (.aload_n 0, 1) := by decide +kernel
theorem dX6_play_151 : decode cX6_play 151 = .ok (.iload_n 1, 1) := by decide +kernel
theorem dX6_play_152 : decode cX6_play 152 = .ok (.iload 7, 2) := by decide +kernel
theorem dX6_play_154 : decode cX6_play 154 = .ok (.invokevirtual 85, 3) := by decide +kernel
theorem dX6_play_157 : decode cX6_play 157 = .ok (.iastore, 1) := by decide +kernel
theorem dX6_play_158 : decode cX6_play 158 = .ok (.aload_n 0, 1) := by decide +kernel
theorem dX6_play_159 : decode cX6_play 159 = .ok (.getfield 31, 3) := by decide +kernel
theorem dX6_play_162 : decode cX6_play 162 = .ok (.iload 7, 2) := by decide +kernel
theorem dX6_play_164 : decode cX6_play 164 = .ok (.iaload, 1) := by decide +kernel
theorem dX6_play_165 : decode cX6_play 165 = .ok (.iconst (-1), 1) := by decide +kernel
theorem dX6_play_166 : decode cX6_play 166 = .ok (.if_icmp .ne 9, 3) := by decide +kernel
theorem dX6_play_169 : decode cX6_play 169 = .ok (.iinc 5 1, 3) := by decide +kernel
theorem dX6_play_172 : decode cX6_play 172 = .ok (.goto 38, 3) := by decide +kernel
theorem dX6_play_175 : decode cX6_play 175 = .ok (.iinc 4 1, 3) := by decide +kernel
theorem dX6_play_178 : decode cX6_play 178 = .ok (.aload_n 0, 1) := by decide +kernel
theorem dX6_play_179 : decode cX6_play 179 = .ok (.getfield 46, 3) := by decide +kernel
theorem dX6_play_182 : decode cX6_play 182 = .ok (.aload_n 0, 1) := by decide +kernel
theorem dX6_play_183 : decode cX6_play 183 = .ok (.getfield 31, 3) := by decide +kernel
theorem dX6_play_186 : decode cX6_play 186 = .ok (.iload 7, 2) := by decide +kernel
theorem dX6_play_188 : decode cX6_play 188 = .ok (.iaload, 1) := by decide +kernel
theorem dX6_play_189 : decode cX6_play 189 = .ok (.dup2, 1) := by decide +kernel
theorem dX6_play_190 : decode cX6_play 190 = .ok (.iaload, 1) := by decide +kernel
theorem dX6_play_191 : decode cX6_play 191 = .ok (.iconst 1, 1) := by decide +kernel
theorem dX6_play_192 : decode cX6_play 192 = .ok (.iadd, 1) := by decide +kernel
theorem dX6_play_193 : decode cX6_play 193 = .ok (.iastore, 1) := by decide +kernel
theorem dX6_play_194 : decode cX6_play 194 = .ok (.aload_n 0, 1) := by decide +kernel
theorem dX6_play_195 : decode cX6_play 195 = .ok (.getfield 25, 3) := by decide +kernel
theorem dX6_play_198 : decode cX6_play 198 = .ok (.aload_n 0, 1) := by decide +kernel
theorem dX6_play_199 : decode cX6_play 199 = .ok (.getfield 31, 3) := by decide +kernel
theorem dX6_play_202 : decode cX6_play 202 = .ok (.iload 7, 2) := by decide +kernel
theorem dX6_play_204 : decode cX6_play 204 = .ok (.iaload, 1) := by decide +kernel
theorem dX6_play_205 : decode cX6_play 205 = .ok (.dup2, 1) := by decide +kernel
theorem dX6_play_206 : decode cX6_play 206 = .ok (.iaload, 1) := by decide +kernel
theorem dX6_play_207 : decode cX6_play 207 = .ok (.iconst 1, 1) := by decide +kernel
theorem dX6_play_208 : decode cX6_play 208 = .ok (.iadd, 1) := by decide +kernel
theorem dX6_play_209 : decode cX6_play 209 = .ok (.iastore, 1) := by decide +kernel
theorem dX6_play_210 : decode cX6_play 210 = .ok (.iinc 7 1, 3) := by decide +kernel
theorem dX6_play_213 : decode cX6_play 213 = .ok (.goto (-89), 3) := by decide +kernel
theorem dX6_play_216 : decode cX6_play 216 = .ok (.iload 6, 2) := by decide +kernel
theorem dX6_play_218 : decode cX6_play 218 = .ok (.aload_n 0, 1) := by decide +kernel
theorem dX6_play_219 : decode cX6_play 219 = .ok (.getfield 34, 3) := by decide +kernel
theorem dX6_play_222 : decode cX6_play 222 = .ok (.iload_n 1, 1) := by decide +kernel
theorem dX6_play_223 : decode cX6_play 223 = .ok (.iaload, 1) := by decide +kernel
theorem dX6_play_224 : decode cX6_play 224 = .ok (.iconst 5, 1) := by decide +kernel
theorem dX6_play_225 : decode cX6_play 225 = .ok (.idiv, 1) := by decide +kernel
theorem dX6_play_226 : decode cX6_play 226 = .ok (.iadd, 1) := by decide +kernel
theorem dX6_play_227 : decode cX6_play 227 = .ok (.iconst 5, 1) := by decide +kernel
theorem dX6_play_228 : decode cX6_play 228 = .ok (.iload 5, 2) := by decide +kernel
theorem dX6_play_230 : decode cX6_play 230 = .ok (.imul, 1) := by decide +kernel
theorem dX6_play_231 : decode cX6_play 231 = .ok (.isub, 1) := by decide +kernel
theorem dX6_play_232 : decode cX6_play 232 = .ok (.istore 7, 2) := by decide +kernel
theorem dX6_play_234 : decode cX6_play 234 = .ok (.iload_n 2, 1) := by decide +kernel
theorem dX6_play_235 : decode cX6_play 235 = .ok (.istore 8, 2) := by decide +kernel
theorem dX6_play_237 : decode cX6_play 237 = .ok (.iload 8, 2) := by decide +kernel
theorem dX6_play_239 : decode cX6_play 239 = .ok (.iload_n 3, 1) := by decide +kernel
theorem dX6_play_240 : decode cX6_play 240 = .ok (.if_icmp .ge 114, 3) := by decide +kernel
theorem dX6_play_243 : decode cX6_play 243 = .ok (.aload_n 0, 1) := by decide +kernel
theorem dX6_play_244 : decode cX6_play 244 = .ok (.getfield 31, 3) := by decide +kernel
theorem dX6_play_247 : decode cX6_play 247 = .ok (.iload 8, 2) := by decide +kernel
theorem dX6_play_249 : decode cX6_play 249 = .ok (.iaload, 1) := by decide +kernel
theorem dX6_play_250 : decode cX6_play 250 = .ok (.iconst (-1), 1) := by decide +kernel
theorem dX6_play_251 : decode cX6_play 251 = .ok (.if_icmp .eq 97, 3) := by decide +kernel
theorem dX6_play_254 : decode cX6_play 254 = .ok (.iload 7, 2) := by decide +kernel
theorem dX6_play_256 : decode cX6_play 256 = .ok (.aload_n 0, 1) := by decide +kernel
theorem dX6_play_257 : decode cX6_play 257 = .ok (.getfield 3, 3) := by decide +kernel
theorem dX6_play_260 : decode cX6_play 260 = .ok (.getfield 89, 3) := by decide +kernel
theorem dX6_play_263 : decode cX6_play 263 = .ok (.aload_n 0, 1) := by decide +kernel
theorem dX6_play_264 : decode cX6_play 264 = .ok (.getfield 3, 3) := by decide +kernel
theorem dX6_play_267 : decode cX6_play 267 = .ok (.getfield 72, 3) := by decide +kernel
theorem dX6_play_270 : decode cX6_play 270 = .ok (.iload 8, 2) := by decide +kernel
theorem dX6_play_272 : decode cX6_play 272 = .ok (.iaload, 1) := by decide +kernel
theorem dX6_play_273 : decode cX6_play 273 = .ok (.iaload, 1) := by decide +kernel
theorem dX6_play_274 : decode cX6_play 274 = .ok (.iconst 0, 1) := by decide +kernel
theorem dX6_play_275 : decode cX6_play 275 = .ok (.bipush 10, 2) := by decide +kernel
theorem dX6_play_277 : decode cX6_play 277 = .ok (.aload_n 0, 1) := by decide +kernel
theorem dX6_play_278 : decode cX6_play 278 = .ok (.getfield 3, 3) := by decide +kernel
theorem dX6_play_281 : decode cX6_play 281 = .ok (.getfield 75, 3) := by decide +kernel
theorem dX6_play_284 : decode cX6_play 284 = .ok (.iconst 4, 1) := by decide +kernel
theorem dX6_play_285 : decode cX6_play 285 = .ok (.aload_n 0, 1) := by decide +kernel
theorem dX6_play_286 : decode cX6_play 286 = .ok (.getfield 31, 3) := by decide +kernel
theorem dX6_play_289 : decode cX6_play 289 = .ok (.iload 8, 2) := by decide +kernel
theorem dX6_play_291 : decode cX6_play 291 = .ok (.iaload, 1) := by decide +kernel
theorem dX6_play_292 : decode cX6_play 292 = .ok (.imul, 1) := by decide +kernel
theorem dX6_play_293 : decode cX6_play 293 = .ok (.aload_n 0, 1) := by decide +kernel
theorem dX6_play_294 : decode cX6_play 294 = .ok (.getfield 3, 3) := by decide +kernel
theorem dX6_play_297 : decode cX6_play 297 = .ok (.getfield 72, 3) := by decide +kernel
theorem dX6_play_300 : decode cX6_play 300 = .ok (.iload 8, 2) := by decide +kernel
theorem dX6_play_302 : decode cX6_play 302 = .ok (.iaload, 1) := by decide +kernel
theorem dX6_play_303 : decode cX6_play 303 = .ok (.iadd, 1) := by decide +kernel
theorem dX6_play_304 : decode cX6_play 304 = .ok (.iaload, 1) := by decide +kernel
theorem dX6_play_305 : decode cX6_play 305 = .ok (.iadd, 1) := by decide +kernel
theorem dX6_play_306 : decode cX6_play 306 = .ok (.aload_n 0, 1) := by decide +kernel
theorem dX6_play_307 : decode cX6_play 307 = .ok (.getfield 3, 3) := by decide +kernel
theorem dX6_play_310 : decode cX6_play 310 = .ok (.getfield 92, 3) := by decide +kernel
theorem dX6_play_313 : decode cX6_play 313 = .ok (.aload_n 0, 1) := by decide +kernel
theorem dX6_play_314 : decode cX6_play 314 = .ok (.getfield 3, 3) := by decide +kernel
theorem dX6_play_317 : decode cX6_play 317 = .ok (.getfield 72, 3) := by decide +kernel
theorem dX6_play_320 : decode cX6_play 320 = .ok (.iload 8, 2) := by decide +kernel
theorem dX6_play_322 : decode cX6_play 322 = .ok (.iaload, 1) := by decide +kernel
theorem dX6_play_323 : decode cX6_play 323 = .ok (.iaload, 1) := by decide +kernel
theorem dX6_play_324 : decode cX6_play 324 = .ok (.isub, 1) := by decide +kernel
theorem dX6_play_325 : decode cX6_play 325 = .ok (.aload_n 0, 1) := by decide +kernel
theorem dX6_play_326 : decode cX6_play 326 = .ok (.getfield 15, 3) := by decide +kernel
theorem dX6_play_329 : decode cX6_play 329 = .ok (.aload_n 0, 1) := by decide +kernel
theorem dX6_play_330 : decode cX6_play 330 = .ok (.getfield 31, 3) := by decide +kernel
theorem dX6_play_333 : decode cX6_play 333 = .ok (.iload 8, 2) := by decide +kernel
theorem dX6_play_335 : decode cX6_play 335 = .ok (.iaload, 1) := by decide +kernel
theorem dX6_play_336 : decode cX6_play 336 = .ok (.iaload, 1) := by decide +kernel
theorem dX6_play_337 : decode cX6_play 337 = .ok (.bipush 20, 2) := by decide +kernel
theorem dX6_play_339 : decode cX6_play 339 = .ok (.idiv, 1) := by decide +kernel
theorem dX6_play_340 : decode cX6_play 340 = .ok (.isub, 1) := by decide +kernel
theorem dX6_play_341 : decode cX6_play 341 = .ok (.invokestatic 95, 3) := by decide +kernel
theorem dX6_play_344 : decode cX6_play 344 = .ok (.imul, 1) := by decide +kernel
theorem dX6_play_345 : decode cX6_play 345 = .ok (.iadd, 1) := by decide +kernel
theorem dX6_play_346 : decode cX6_play 346 = .ok (.istore 7, 2) := by decide +kernel
theorem dX6_play_348 : decode cX6_play 348 = .ok (.iinc 8 1, 3) := by decide +kernel
theorem dX6_play_351 : decode cX6_play 351 = .ok (.goto (-114), 3) := by decide +kernel
theorem dX6_play_354 : decode cX6_play 354 = .ok (.iload 4, 2) := by decide +kernel
theorem dX6_play_356 : decode cX6_play 356 = .ok (.iconst 3, 1) := by decide +kernel
theorem dX6_play_357 : decode cX6_play 357 = .ok (.if_icmp .le 7, 3) := by decide +kernel
theorem dX6_play_360 : decode cX6_play 360 = .ok (.iconst 1, 1) := by decide +kernel
theorem dX6_play_361 : decode cX6_play 361 = .ok (.goto 4, 3) := by decide +kernel
theorem dX6_play_364 : decode cX6_play 364 = .ok (.iconst 0, 1) := by decide +kernel
theorem dX6_play_365 : decode cX6_play 365 = .ok (.istore 8, 2) := by decide +kernel
theorem dX6_play_367 : decode cX6_play 367 = .ok (.iconst 4, 1) := by decide +kernel
theorem dX6_play_368 : decode cX6_play 368 = .ok (.newarray .int, 2) := by decide +kernel
theorem dX6_play_370 : decode cX6_play 370 = .ok (.dup, 1) := by decide +kernel
theorem dX6_play_371 : decode cX6_play 371 = .ok (.iconst 0, 1) := by decide +kernel
theorem dX6_play_372 : decode cX6_play 372 = .ok (.iload 8, 2) := by decide +kernel
theorem dX6_play_374 : decode cX6_play 374 = .ok (.ifCond .eq 7, 3) := by decide +kernel
theorem dX6_play_377 : decode cX6_play 377 = .ok (.iconst 0, 1) := by decide +kernel
theorem dX6_play_378 : decode cX6_play 378 = .ok (.goto 9, 3) := by decide +kernel
theorem dX6_play_381 : decode cX6_play 381 = .ok (.iconst 0, 1) := by decide +kernel
theorem dX6_play_382 : decode cX6_play 382 = .ok (.iload 7, 2) := by decide +kernel
theorem dX6_play_384 : decode cX6_play 384 = .ok (.invokestatic 95, 3) := by decide +kernel
theorem dX6_play_387 : decode cX6_play 387 = .ok (.iastore, 1) := by decide +kernel
theorem dX6_play_388 : decode cX6_play 388 = .ok (.dup, 1) := by decide +kernel
theorem dX6_play_389 : decode cX6_play 389 = .ok (.iconst 1, 1) := by decide +kernel
theorem dX6_play_390 : decode cX6_play 390 = .ok (.iconst (-1), 1) := by decide +kernel
theorem dX6_play_391 : decode cX6_play 391 = .ok (.iastore, 1) := by decide +kernel
theorem dX6_play_392 : decode cX6_play 392 = .ok (.dup, 1) := by decide +kernel
theorem dX6_play_393 : decode cX6_play 393 = .ok (.iconst 2, 1) := by decide +kernel
theorem dX6_play_394 : decode cX6_play 394 = .ok (.iload 4, 2) := by decide +kernel
theorem dX6_play_396 : decode cX6_play 396 = .ok (.iastore, 1) := by decide +kernel
theorem dX6_play_397 : decode cX6_play 397 = .ok (.dup, 1) := by decide +kernel
theorem dX6_play_398 : decode cX6_play 398 = .ok (.iconst 3, 1) := by decide +kernel
theorem dX6_play_399 : decode cX6_play 399 = .ok (.iload 5, 2) := by decide +kernel
theorem dX6_play_401 : decode cX6_play 401 = .ok (.iastore, 1) := by decide +kernel
theorem dX6_play_402 : decode cX6_play 402 = .ok (.astore 9, 2) := by decide +kernel
theorem dX6_play_404 : decode cX6_play 404 = .ok (.aload 9, 2) := by decide +kernel
theorem dX6_play_406 : decode cX6_play 406 = .ok (.iconst 0, 1) := by decide +kernel
theorem dX6_play_407 : decode cX6_play 407 = .ok (.aload_n 0, 1) := by decide +kernel
theorem dX6_play_408 : decode cX6_play 408 = .ok (.getfield 43, 3) := by decide +kernel
theorem dX6_play_411 : decode cX6_play 411 = .ok (.iconst 4, 1) := by decide +kernel
theorem dX6_play_412 : decode cX6_play 412 = .ok (.iload_n 1, 1) := by decide +kernel
theorem dX6_play_413 : decode cX6_play 413 = .ok (.imul, 1) := by decide +kernel
theorem dX6_play_414 : decode cX6_play 414 = .ok (.iconst 4, 1) := by decide +kernel
theorem dX6_play_415 : decode cX6_play 415 = .ok (.invokestatic 49, 3) := by decide +kernel
theorem dX6_play_418 : decode cX6_play 418 = .ok (.aload_n 0, 1) := by decide +kernel
theorem dX6_play_419 : decode cX6_play 419 = .ok (.getfield 40, 3) := by decide +kernel
theorem dX6_play_422 : decode cX6_play 422 = .ok (.iload_n 1, 1) := by decide +kernel
theorem dX6_play_423 : decode cX6_play 423 = .ok (.dup2, 1) := by decide +kernel
theorem dX6_play_424 : decode cX6_play 424 = .ok (.iaload, 1) := by decide +kernel
theorem dX6_play_425 : decode cX6_play 425 = .ok (.iload 8, 2) := by decide +kernel
theorem dX6_play_427 : decode cX6_play 427 = .ok (.ifCond .eq 7, 3) := by decide +kernel
theorem dX6_play_430 : decode cX6_play 430 = .ok (.iconst 1, 1) := by decide +kernel
theorem dX6_play_431 : decode cX6_play 431 = .ok (.goto 4, 3) := by decide +kernel
theorem dX6_play_434 : decode cX6_play 434 = .ok (.iconst 0, 1) := by decide +kernel
theorem dX6_play_435 : decode cX6_play 435 = .ok (.iadd, 1) := by decide +kernel
theorem dX6_play_436 : decode cX6_play 436 = .ok (.iastore, 1) := by decide +kernel
theorem dX6_play_437 : decode cX6_play 437 = .ok (.aload_n 0, 1) := by decide +kernel
theorem dX6_play_438 : decode cX6_play 438 = .ok (.dup, 1) := by decide +kernel
theorem dX6_play_439 : decode cX6_play 439 = .ok (.getfield 59, 3) := by decide +kernel
theorem dX6_play_442 : decode cX6_play 442 = .ok (.iload 4, 2) := by decide +kernel
theorem dX6_play_444 : decode cX6_play 444 = .ok (.iadd, 1) := by decide +kernel
theorem dX6_play_445 : decode cX6_play 445 = .ok (.putfield 59, 3) := by decide +kernel
theorem dX6_play_448 : decode cX6_play 448 = .ok (.aload_n 0, 1) := by decide +kernel
theorem dX6_play_449 : decode cX6_play 449 = .ok (.dup, 1) := by decide +kernel
theorem dX6_play_450 : decode cX6_play 450 = .ok (.getfield 62, 3) := by decide +kernel
theorem dX6_play_453 : decode cX6_play 453 = .ok (.iload 5, 2) := by decide +kernel
theorem dX6_play_455 : decode cX6_play 455 = .ok (.iadd, 1) := by decide +kernel
theorem dX6_play_456 : decode cX6_play 456 = .ok (.putfield 62, 3) := by decide +kernel
theorem dX6_play_459 : decode cX6_play 459 = .ok (.iconst 0, 1) := by decide +kernel
theorem dX6_play_460 : decode cX6_play 460 = .ok (.istore 10, 2) := by decide +kernel
theorem dX6_play_462 : decode cX6_play 462 = .ok (.iload 10, 2) := by decide +kernel
theorem dX6_play_464 : decode cX6_play 464 = .ok (.aload_n 0, 1) := by decide +kernel
theorem dX6_play_465 : decode cX6_play 465 = .ok (.getfield 3, 3) := by decide +kernel
theorem dX6_play_468 : decode cX6_play 468 = .ok (.getfield 78, 3) := by decide +kernel
theorem dX6_play_471 : decode cX6_play 471 = .ok (.if_icmp .ge 82, 3) := by decide +kernel
theorem dX6_play_474 : decode cX6_play 474 = .ok (.aload_n 0, 1) := by decide +kernel
theorem dX6_play_475 : decode cX6_play 475 = .ok (.iload_n 1, 1) := by decide +kernel
theorem dX6_play_476 : decode cX6_play 476 = .ok (.iload 10, 2) := by decide +kernel
theorem dX6_play_478 : decode cX6_play 478 = .ok (.invokevirtual 81, 3) := by decide +kernel
theorem dX6_play_481 : decode cX6_play 481 = .ok (.istore 11, 2) := by decide +kernel
theorem dX6_play_483 : decode cX6_play 483 = .ok (.aload_n 0, 1) := by decide +kernel
theorem dX6_play_484 : decode cX6_play 484 = .ok (.getfield 15, 3) := by decide +kernel
theorem dX6_play_487 : decode cX6_play 487 = .ok (.iload 10, 2) := by decide +kernel
theorem dX6_play_489 : decode cX6_play 489 = .ok (.iload 11, 2) := by decide +kernel
theorem dX6_play_491 : decode cX6_play 491 = .ok (.ifCond .eq 21, 3) := by decide +kernel
theorem dX6_play_494 : decode cX6_play 494 = .ok (.bipush 100, 2) := by decide +kernel
theorem dX6_play_496 : decode cX6_play 496 = .ok (.aload_n 0, 1) := by decide +kernel
theorem dX6_play_497 : decode cX6_play 497 = .ok (.getfield 15, 3) := by decide +kernel
theorem dX6_play_500 : decode cX6_play 500 = .ok (.iload 10, 2) := by decide +kernel
theorem dX6_play_502 : decode cX6_play 502 = .ok (.iaload, 1) := by decide +kernel
theorem dX6_play_503 : decode cX6_play 503 = .ok (.bipush 15, 2) := by decide +kernel
theorem dX6_play_505 : decode cX6_play 505 = .ok (.iadd, 1) := by decide +kernel
theorem dX6_play_506 : decode cX6_play 506 = .ok (.invokestatic 100, 3) := by decide +kernel
theorem dX6_play_509 : decode cX6_play 509 = .ok (.goto 17, 3) := by decide +kernel
theorem dX6_play_512 : decode cX6_play 512 = .ok (.iconst 0, 1) := by decide +kernel
theorem dX6_play_513 : decode cX6_play 513 = .ok (.aload_n 0, 1) := by decide +kernel
theorem dX6_play_514 : decode cX6_play 514 = .ok (.getfield 15, 3) := by decide +kernel
theorem dX6_play_517 : decode cX6_play 517 = .ok (.iload 10, 2) := by decide +kernel
theorem dX6_play_519 : decode cX6_play 519 = .ok (.iaload, 1) := by decide +kernel
theorem dX6_play_520 : decode cX6_play 520 = .ok (.bipush 10, 2) := by decide +kernel
theorem dX6_play_522 : decode cX6_play 522 = .ok (.isub, 1) := by decide +kernel
theorem dX6_play_523 : decode cX6_play 523 = .ok (.invokestatic 95, 3) := by decide +kernel
theorem dX6_play_526 : decode cX6_play 526 = .ok (.iastore, 1) := by decide +kernel
theorem dX6_play_527 : decode cX6_play 527 = .ok (.aload_n 0, 1) := by decide +kernel
theorem dX6_play_528 : decode cX6_play 528 = .ok (.getfield 22, 3) := by decide +kernel
theorem dX6_play_531 : decode cX6_play 531 = .ok (.iload 10, 2) := by decide +kernel
theorem dX6_play_533 : decode cX6_play 533 = .ok (.dup2, 1) := by decide +kernel
theorem dX6_play_534 : decode cX6_play 534 = .ok (.iaload, 1) := by decide +kernel
theorem dX6_play_535 : decode cX6_play 535 = .ok (.iload 11, 2) := by decide +kernel
theorem dX6_play_537 : decode cX6_play 537 = .ok (.ifCond .eq 7, 3) := by decide +kernel
theorem dX6_play_540 : decode cX6_play 540 = .ok (.iconst 1, 1) := by decide +kernel
theorem dX6_play_541 : decode cX6_play 541 = .ok (.goto 4, 3) := by decide +kernel
theorem dX6_play_544 : decode cX6_play 544 = .ok (.iconst 0, 1) := by decide +kernel
theorem dX6_play_545 : decode cX6_play 545 = .ok (.iadd, 1) := by decide +kernel
theorem dX6_play_546 : decode cX6_play 546 = .ok (.iastore, 1) := by decide +kernel
theorem dX6_play_547 : decode cX6_play 547 = .ok (.iinc 10 1, 3) := by decide +kernel
theorem dX6_play_550 : decode cX6_play 550 = .ok (.goto (-88), 3) := by decide +kernel
theorem dX6_play_553 : decode cX6_play 553 = .ok (.return_, 1) := by decide +kernel
theorem dX6_isAhead_0 : decode cX6_isAhead 0 = .ok (.aload_n 0, 1) := by decide +kernel
theorem dX6_isAhead_1 : decode cX6_isAhead 1 = .ok (.getfield 43, 3) := by decide +kernel
theorem dX6_isAhead_4 : decode cX6_isAhead 4 = .ok (.iconst 4, 1) := by decide +kernel
theorem dX6_isAhead_5 : decode cX6_isAhead 5 = .ok (.iload_n 1, 1) := by decide +kernel
theorem dX6_isAhead_6 : decode cX6_isAhead 6 = .ok (.imul, 1) := by decide +kernel
theorem dX6_isAhead_7 : decode cX6_isAhead 7 = .ok (.iaload, 1) := by decide +kernel
theorem dX6_isAhead_8 : decode cX6_isAhead 8 = .ok (.aload_n 0, 1) := by decide +kernel
theorem dX6_isAhead_9 : decode cX6_isAhead 9 = .ok (.getfield 43, 3) := by decide +kernel
theorem dX6_isAhead_12 : decode cX6_isAhead 12 = .ok (.iconst 4, 1) := by decide +kernel
theorem dX6_isAhead_13 : decode cX6_isAhead 13 = .ok (.iload_n 2, 1) := by decide +kernel
theorem dX6_isAhead_14 : decode cX6_isAhead 14 = .ok (.imul, 1) := by decide +kernel
theorem dX6_isAhead_15 : decode cX6_isAhead 15 = .ok (.iaload, 1) := by decide +kernel
theorem dX6_isAhead_16 : decode cX6_isAhead 16 = .ok (.if_icmp .eq 28, 3) := by decide +kernel
theorem dX6_isAhead_19 : decode cX6_isAhead 19 = .ok (.aload_n 0, 1) := by decide +kernel
theorem dX6_isAhead_20 : decode cX6_isAhead 20 = .ok (.getfield 43, 3) := by decide +kernel
theorem dX6_isAhead_23 : decode cX6_isAhead 23 = .ok (.iconst 4, 1) := by decide +kernel
theorem dX6_isAhead_24 : decode cX6_isAhead 24 = .ok (.iload_n 1, 1) := by decide +kernel
theorem dX6_isAhead_25 : decode cX6_isAhead 25 = .ok (.imul, 1) := by decide +kernel
theorem dX6_isAhead_26 : decode cX6_isAhead 26 = .ok (.iaload, 1) := by decide +kernel
theorem dX6_isAhead_27 : decode cX6_isAhead 27 = .ok (.aload_n 0, 1) := by decide +kernel
theorem dX6_isAhead_28 : decode cX6_isAhead 28 = .ok (.getfield 43, 3) := by decide +kernel
theorem dX6_isAhead_31 : decode cX6_isAhead 31 = .ok (.iconst 4, 1) := by decide +kernel
theorem dX6_isAhead_32 : decode cX6_isAhead 32 = .ok (.iload_n 2, 1) := by decide +kernel
theorem dX6_isAhead_33 : decode cX6_isAhead 33 = .ok (.imul, 1) := by decide +kernel
theorem dX6_isAhead_34 : decode cX6_isAhead 34 = .ok (.iaload, 1) := by decide +kernel
theorem dX6_isAhead_35 : decode cX6_isAhead 35 = .ok (.if_icmp .le 7, 3) := by decide +kernel
theorem dX6_isAhead_38 : decode cX6_isAhead 38 = .ok (.iconst 1, 1) := by decide +kernel
theorem dX6_isAhead_39 : decode cX6_isAhead 39 = .ok (.goto 4, 3) := by decide +kernel
theorem dX6_isAhead_42 : decode cX6_isAhead 42 = .ok (.iconst 0, 1) := by decide +kernel
theorem dX6_isAhead_43 : decode cX6_isAhead 43 = .ok (.ireturn, 1) := by decide +kernel
theorem dX6_isAhead_44 : decode cX6_isAhead 44 = .ok (.aload_n 0, 1) := by decide +kernel
theorem dX6_isAhead_45 : decode cX6_isAhead 45 = .ok (.getfield 43, 3) := by decide +kernel
theorem dX6_isAhead_48 : decode cX6_isAhead 48 = .ok (.iconst 4, 1) := by decide +kernel
theorem dX6_isAhead_49 : decode cX6_isAhead 49 = .ok (.iload_n 1, 1) := by decide +kernel
theorem dX6_isAhead_50 : decode cX6_isAhead 50 = .ok (.imul, 1) := by decide +kernel
theorem dX6_isAhead_51 : decode cX6_isAhead 51 = .ok (.iconst 2, 1) := by decide +kernel
theorem dX6_isAhead_52 : decode cX6_isAhead 52 = .ok (.iadd, 1) := by decide +kernel
theorem dX6_isAhead_53 : decode cX6_isAhead 53 = .ok (.iaload, 1) := by decide +kernel
theorem dX6_isAhead_54 : decode cX6_isAhead 54 = .ok (.aload_n 0, 1) := by decide +kernel
theorem dX6_isAhead_55 : decode cX6_isAhead 55 = .ok (.getfield 43, 3) := by decide +kernel
theorem dX6_isAhead_58 : decode cX6_isAhead 58 = .ok (.iconst 4, 1) := by decide +kernel
theorem dX6_isAhead_59 : decode cX6_isAhead 59 = .ok (.iload_n 2, 1) := by decide +kernel
theorem dX6_isAhead_60 : decode cX6_isAhead 60 = .ok (.imul, 1) := by decide +kernel
theorem dX6_isAhead_61 : decode cX6_isAhead 61 = .ok (.iconst 2, 1) := by decide +kernel
theorem dX6_isAhead_62 : decode cX6_isAhead 62 = .ok (.iadd, 1) := by decide +kernel
theorem dX6_isAhead_63 : decode cX6_isAhead 63 = .ok (.iaload, 1) := by decide +kernel
theorem dX6_isAhead_64 : decode cX6_isAhead 64 = .ok (.if_icmp .eq 34, 3) := by decide +kernel
theorem dX6_isAhead_67 : decode cX6_isAhead 67 = .ok (.aload_n 0, 1) := by decide +kernel
theorem dX6_isAhead_68 : decode cX6_isAhead 68 = .ok (.getfield 43, 3) := by decide +kernel
theorem dX6_isAhead_71 : decode cX6_isAhead 71 = .ok (.iconst 4, 1) := by decide +kernel
theorem dX6_isAhead_72 : decode cX6_isAhead 72 = .ok (.iload_n 1, 1) := by decide +kernel
theorem dX6_isAhead_73 : decode cX6_isAhead 73 = .ok (.imul, 1) := by decide +kernel
theorem dX6_isAhead_74 : decode cX6_isAhead 74 = .ok (.iconst 2, 1) := by decide +kernel
theorem dX6_isAhead_75 : decode cX6_isAhead 75 = .ok (.iadd, 1) := by decide +kernel
theorem dX6_isAhead_76 : decode cX6_isAhead 76 = .ok (.iaload, 1) := by decide +kernel
theorem dX6_isAhead_77 : decode cX6_isAhead 77 = .ok (.aload_n 0, 1) := by decide +kernel
theorem dX6_isAhead_78 : decode cX6_isAhead 78 = .ok (.getfield 43, 3) := by decide +kernel
theorem dX6_isAhead_81 : decode cX6_isAhead 81 = .ok (.iconst 4, 1) := by decide +kernel
theorem dX6_isAhead_82 : decode cX6_isAhead 82 = .ok (.iload_n 2, 1) := by decide +kernel
theorem dX6_isAhead_83 : decode cX6_isAhead 83 = .ok (.imul, 1) := by decide +kernel
theorem dX6_isAhead_84 : decode cX6_isAhead 84 = .ok (.iconst 2, 1) := by decide +kernel
theorem dX6_isAhead_85 : decode cX6_isAhead 85 = .ok (.iadd, 1) := by decide +kernel
theorem dX6_isAhead_86 : decode cX6_isAhead 86 = .ok (.iaload, 1) := by decide +kernel
theorem dX6_isAhead_87 : decode cX6_isAhead 87 = .ok (.if_icmp .ge 7, 3) := by decide +kernel
theorem dX6_isAhead_90 : decode cX6_isAhead 90 = .ok (.iconst 1, 1) := by decide +kernel
theorem dX6_isAhead_91 : decode cX6_isAhead 91 = .ok (.goto 17, 3) := by decide +kernel
theorem dX6_isAhead_94 : decode cX6_isAhead 94 = .ok (.iconst 0, 1) := by decide +kernel
theorem dX6_isAhead_95 : decode cX6_isAhead 95 = .ok (.goto 13, 3) := by decide +kernel
theorem dX6_isAhead_98 : decode cX6_isAhead 98 = .ok (.iload_n 1, 1) := by decide +kernel
theorem dX6_isAhead_99 : decode cX6_isAhead 99 = .ok (.iload_n 2, 1) := by decide +kernel
theorem dX6_isAhead_100 : decode cX6_isAhead 100 = .ok (.if_icmp .ge 7, 3) := by decide +kernel
theorem dX6_isAhead_103 : decode cX6_isAhead 103 = .ok (.iconst 1, 1) := by decide +kernel
theorem dX6_isAhead_104 : decode cX6_isAhead 104 = .ok (.goto 4, 3) := by decide +kernel
theorem dX6_isAhead_107 : decode cX6_isAhead 107 = .ok (.iconst 0, 1) := by decide +kernel
theorem dX6_isAhead_108 : decode cX6_isAhead 108 = .ok (.ireturn, 1) := by decide +kernel
theorem dX6_contest_0 : decode cX6_contest 0 = .ok (.iconst 0, 1) := by decide +kernel
theorem dX6_contest_1 : decode cX6_contest 1 = .ok (.istore_n 1, 1) := by decide +kernel
theorem dX6_contest_2 : decode cX6_contest 2 = .ok (.iload_n 1, 1) := by decide +kernel
theorem dX6_contest_3 : decode cX6_contest 3 = .ok (.aload_n 0, 1) := by decide +kernel
theorem dX6_contest_4 : decode cX6_contest 4 = .ok (.getfield 3, 3) := by decide +kernel
theorem dX6_contest_7 : decode cX6_contest 7 = .ok (.getfield 78, 3) := by decide +kernel
theorem dX6_contest_10 : decode cX6_contest 10 = .ok (.if_icmp .ge 16, 3) := by decide +kernel
theorem dX6_contest_13 : decode cX6_contest 13 = .ok (.aload_n 0, 1) := by decide +kernel
theorem dX6_contest_14 : decode cX6_contest 14 = .ok (.getfield 46, 3) := by decide +kernel
theorem dX6_contest_17 : decode cX6_contest 17 = .ok (.iload_n 1, 1) := by decide +kernel
theorem dX6_contest_18 : decode cX6_contest 18 = .ok (.iconst 0, 1) := by decide +kernel
theorem dX6_contest_19 : decode cX6_contest 19 = .ok (.iastore, 1) := by decide +kernel
theorem dX6_contest_20 : decode cX6_contest 20 = .ok (.iinc 1 1, 3) := by decide +kernel
theorem dX6_contest_23 : decode cX6_contest 23 = .ok (.goto (-21), 3) := by decide +kernel
theorem dX6_contest_26 : decode cX6_contest 26 = .ok (.iconst 0, 1) := by decide +kernel
theorem dX6_contest_27 : decode cX6_contest 27 = .ok (.istore_n 1, 1) := by decide +kernel
theorem dX6_contest_28 : decode cX6_contest 28 = .ok (.iload_n 1, 1) := by decide +kernel
theorem dX6_contest_29 : decode cX6_contest 29 = .ok (.aload_n 0, 1) := by decide +kernel
theorem dX6_contest_30 : decode cX6_contest 30 = .ok (.getfield 3, 3) := by decide +kernel
theorem dX6_contest_33 : decode cX6_contest 33 = .ok (.getfield 103, 3) := by decide +kernel
theorem dX6_contest_36 : decode cX6_contest 36 = .ok (.if_icmp .ge 27, 3) := by decide +kernel
theorem dX6_contest_39 : decode cX6_contest 39 = .ok (.aload_n 0, 1) := by decide +kernel
theorem dX6_contest_40 : decode cX6_contest 40 = .ok (.aload_n 0, 1) := by decide +kernel
theorem dX6_contest_41 : decode cX6_contest 41 = .ok (.getfield 55, 3) := by decide +kernel
theorem dX6_contest_44 : decode cX6_contest 44 = .ok (.iload_n 1, 1) := by decide +kernel
theorem dX6_contest_45 : decode cX6_contest 45 = .ok (.iadd, 1) := by decide +kernel
theorem dX6_contest_46 : decode cX6_contest 46 = .ok (.aload_n 0, 1) := by decide +kernel
theorem dX6_contest_47 : decode cX6_contest 47 = .ok (.getfield 3, 3) := by decide +kernel
theorem dX6_contest_50 : decode cX6_contest 50 = .ok (.getfield 103, 3) := by decide +kernel
theorem dX6_contest_53 : decode cX6_contest 53 = .ok (.irem, 1) := by decide +kernel
theorem dX6_contest_54 : decode cX6_contest 54 = .ok (.invokevirtual 106, 3) := by decide +kernel
theorem dX6_contest_57 : decode cX6_contest 57 = .ok (.iinc 1 1, 3) := by decide +kernel
theorem dX6_contest_60 : decode cX6_contest 60 = .ok (.goto (-32), 3) := by decide +kernel
theorem dX6_contest_63 : decode cX6_contest 63 = .ok (.iconst (-1), 1) := by decide +kernel
theorem dX6_contest_64 : decode cX6_contest 64 = .ok (.istore_n 1, 1) := by decide +kernel
theorem dX6_contest_65 : decode cX6_contest 65 = .ok (.iconst 0, 1) := by decide +kernel
theorem dX6_contest_66 : decode cX6_contest 66 = .ok (.istore_n 2, 1) := by decide +kernel
theorem dX6_contest_67 : decode cX6_contest 67 = .ok (.iload_n 2, 1) := by decide +kernel
theorem dX6_contest_68 : decode cX6_contest 68 = .ok (.aload_n 0, 1) := by decide +kernel
theorem dX6_contest_69 : decode cX6_contest 69 = .ok (.getfield 3, 3) := by decide +kernel
theorem dX6_contest_72 : decode cX6_contest 72 = .ok (.getfield 103, 3) := by decide +kernel
theorem dX6_contest_75 : decode cX6_contest 75 = .ok (.if_icmp .ge 216, 3) := by decide +kernel
theorem dX6_contest_78 : decode cX6_contest 78 = .ok (.iconst 0, 1) := by decide +kernel
theorem dX6_contest_79 : decode cX6_contest 79 = .ok (.istore_n 3, 1) := by decide +kernel
theorem dX6_contest_80 : decode cX6_contest 80 = .ok (.iconst 0, 1) := by decide +kernel
theorem dX6_contest_81 : decode cX6_contest 81 = .ok (.istore 4, 2) := by decide +kernel
theorem dX6_contest_83 : decode cX6_contest 83 = .ok (.iload 4, 2) := by decide +kernel
theorem dX6_contest_85 : decode cX6_contest 85 = .ok (.aload_n 0, 1) := by decide +kernel
theorem dX6_contest_86 : decode cX6_contest 86 = .ok (.getfield 3, 3) := by decide +kernel
theorem dX6_contest_89 : decode cX6_contest 89 = .ok (.getfield 103, 3) := by decide +kernel
theorem dX6_contest_92 : decode cX6_contest 92 = .ok (.if_icmp .ge 33, 3) := by decide +kernel
theorem dX6_contest_95 : decode cX6_contest 95 = .ok (.iload_n 3, 1) := by decide +kernel
theorem dX6_contest_96 : decode cX6_contest 96 = .ok (.iload 4, 2) := by decide +kernel
theorem dX6_contest_98 : decode cX6_contest 98 = .ok (.iload_n 2, 1) := by decide +kernel
theorem dX6_contest_99 : decode cX6_contest 99 = .ok (.if_icmp .eq 17, 3) := by decide +kernel
theorem dX6_contest_102 : decode cX6_contest 102 = .ok (.aload_n 0, 1) := by decide +kernel
theorem dX6_contest_103 : decode cX6_contest 103 = .ok (.iload 4, 2) := by decide +kernel
theorem dX6_contest_105 : decode cX6_contest 105 = .ok (.iload_n 2, 1) := by decide +kernel
theorem dX6_contest_106 : decode cX6_contest 106 = .ok (.invokevirtual 110, 3) := by decide +kernel
theorem dX6_contest_109 : decode cX6_contest 109 = .ok (.ifCond .eq 7, 3) := by decide +kernel
theorem dX6_contest_112 : decode cX6_contest 112 = .ok (.iconst 1, 1) := by decide +kernel
theorem dX6_contest_113 : decode cX6_contest 113 = .ok (.goto 4, 3) := by decide +kernel
theorem dX6_contest_116 : decode cX6_contest 116 = .ok (.iconst 0, 1) := by decide +kernel
theorem dX6_contest_117 : decode cX6_contest 117 = .ok (.iadd, 1) := by decide +kernel
theorem dX6_contest_118 : decode cX6_contest 118 = .ok (.istore_n 3, 1) := by decide +kernel
theorem dX6_contest_119 : decode cX6_contest 119 = .ok (.iinc 4 1, 3) := by decide +kernel
theorem dX6_contest_122 : decode cX6_contest 122 = .ok (.goto (-39), 3) := by decide +kernel
theorem dX6_contest_125 : decode cX6_contest 125 = .ok (.aload_n 0, 1) := by decide +kernel
theorem dX6_contest_126 : decode cX6_contest 126 = .ok (.getfield 43, 3) := by decide +kernel
theorem dX6_contest_129 : decode cX6_contest 129 = .ok (.iconst 4, 1) := by decide +kernel
theorem dX6_contest_130 : decode cX6_contest 130 = .ok (.iload_n 2, 1) := by decide +kernel
theorem dX6_contest_131 : decode cX6_contest 131 = .ok (.imul, 1) := by decide +kernel
theorem dX6_contest_132 : decode cX6_contest 132 = .ok (.iconst 1, 1) := by decide +kernel
theorem dX6_contest_133 : decode cX6_contest 133 = .ok (.iadd, 1) := by decide +kernel
theorem dX6_contest_134 : decode cX6_contest 134 = .ok (.iload_n 3, 1) := by decide +kernel
theorem dX6_contest_135 : decode cX6_contest 135 = .ok (.iastore, 1) := by decide +kernel
theorem dX6_contest_136 : decode cX6_contest 136 = .ok (.iload_n 3, 1) := by decide +kernel
theorem dX6_contest_137 : decode cX6_contest 137 = .ok (.ifCond .ne 5, 3) := by decide +kernel
theorem dX6_contest_140 : decode cX6_contest 140 = .ok (.iload_n 2, 1) := by decide +kernel
theorem dX6_contest_141 : decode cX6_contest 141 = .ok (.istore_n 1, 1) := by decide +kernel
theorem dX6_contest_142 : decode cX6_contest 142 = .ok (.aload_n 0, 1) := by decide +kernel
theorem dX6_contest_143 : decode cX6_contest 143 = .ok (.getfield 37, 3) := by decide +kernel
theorem dX6_contest_146 : decode cX6_contest 146 = .ok (.iload_n 2, 1) := by decide +kernel
theorem dX6_contest_147 : decode cX6_contest 147 = .ok (.dup2, 1) := by decide +kernel
theorem dX6_contest_148 : decode cX6_contest 148 = .ok (.iaload, 1) := by decide +kernel
theorem dX6_contest_149 : decode cX6_contest 149 = .ok (.aload_n 0, 1) := by decide +kernel
theorem dX6_contest_150 : decode cX6_contest 150 = .ok (.getfield 43, 3) := by decide +kernel
theorem dX6_contest_153 : decode cX6_contest 153 = .ok (.iconst 4, 1) := by decide +kernel
theorem dX6_contest_154 : decode cX6_contest 154 = .ok (.iload_n 2, 1) := by decide +kernel
theorem dX6_contest_155 : decode cX6_contest 155 = .ok (.imul, 1) := by decide +kernel
theorem dX6_contest_156 : decode cX6_contest 156 = .ok (.iaload, 1) := by decide +kernel
theorem dX6_contest_157 : decode cX6_contest 157 = .ok (.ifCond .eq 8, 3) := by decide +kernel
theorem dX6_contest_160 : decode cX6_contest 160 = .ok (.iload_n 3, 1) := by decide +kernel
theorem dX6_contest_161 : decode cX6_contest 161 = .ok (.iconst 2, 1) := by decide +kernel
theorem dX6_contest_162 : decode cX6_contest 162 = .ok (.if_icmp .le 7, 3) := by decide +kernel
theorem dX6_contest_165 : decode cX6_contest 165 = .ok (.iconst 0, 1) := by decide +kernel
theorem dX6_contest_166 : decode cX6_contest 166 = .ok (.goto 8, 3) := by decide +kernel
theorem dX6_contest_169 : decode cX6_contest 169 = .ok (.iconst 5, 1) := by decide +kernel
theorem dX6_contest_170 : decode cX6_contest 170 = .ok (.iconst 2, 1) := by decide +kernel
theorem dX6_contest_171 : decode cX6_contest 171 = .ok (.iload_n 3, 1) := by decide +kernel
theorem dX6_contest_172 : decode cX6_contest 172 = .ok (.imul, 1) := by decide +kernel
theorem dX6_contest_173 : decode cX6_contest 173 = .ok (.isub, 1) := by decide +kernel
theorem dX6_contest_174 : decode cX6_contest 174 = .ok (.iadd, 1) := by decide +kernel
theorem dX6_contest_175 : decode cX6_contest 175 = .ok (.iastore, 1) := by decide +kernel
theorem dX6_contest_176 : decode cX6_contest 176 = .ok (.iconst 0, 1) := by decide +kernel
theorem dX6_contest_177 : decode cX6_contest 177 = .ok (.istore 4, 2) := by decide +kernel
theorem dX6_contest_179 : decode cX6_contest 179 = .ok (.bipush 8, 2) := by decide +kernel
theorem dX6_contest_181 : decode cX6_contest 181 = .ok (.iload_n 2, 1) := by decide +kernel
theorem dX6_contest_182 : decode cX6_contest 182 = .ok (.imul, 1) := by decide +kernel
theorem dX6_contest_183 : decode cX6_contest 183 = .ok (.istore 5, 2) := by decide +kernel
theorem dX6_contest_185 : decode cX6_contest 185 = .ok (.iload 5, 2) := by decide +kernel
theorem dX6_contest_187 : decode cX6_contest 187 = .ok (.bipush 8, 2) := by decide +kernel
theorem dX6_contest_189 : decode cX6_contest 189 = .ok (.iload_n 2, 1) := by decide +kernel
theorem dX6_contest_190 : decode cX6_contest 190 = .ok (.imul, 1) := by decide +kernel
theorem dX6_contest_191 : decode cX6_contest 191 = .ok (.aload_n 0, 1) := by decide +kernel
theorem dX6_contest_192 : decode cX6_contest 192 = .ok (.getfield 3, 3) := by decide +kernel
theorem dX6_contest_195 : decode cX6_contest 195 = .ok (.getfield 69, 3) := by decide +kernel
theorem dX6_contest_198 : decode cX6_contest 198 = .ok (.iload_n 2, 1) := by decide +kernel
theorem dX6_contest_199 : decode cX6_contest 199 = .ok (.iaload, 1) := by decide +kernel
theorem dX6_contest_200 : decode cX6_contest 200 = .ok (.iadd, 1) := by decide +kernel
theorem dX6_contest_201 : decode cX6_contest 201 = .ok (.if_icmp .ge 47, 3) := by decide +kernel
theorem dX6_contest_204 : decode cX6_contest 204 = .ok (.iload 4, 2) := by decide +kernel
theorem dX6_contest_206 : decode cX6_contest 206 = .ok (.aload_n 0, 1) := by decide +kernel
theorem dX6_contest_207 : decode cX6_contest 207 = .ok (.getfield 31, 3) := by decide +kernel
theorem dX6_contest_210 : decode cX6_contest 210 = .ok (.iload 5, 2) := by decide +kernel
theorem dX6_contest_212 : decode cX6_contest 212 = .ok (.iaload, 1) := by decide +kernel
theorem dX6_contest_213 : decode cX6_contest 213 = .ok (.iconst (-1), 1) := by decide +kernel
theorem dX6_contest_214 : decode cX6_contest 214 = .ok (.if_icmp .eq 24, 3) := by decide +kernel
theorem dX6_contest_217 : decode cX6_contest 217 = .ok (.aload_n 0, 1) := by decide +kernel
theorem dX6_contest_218 : decode cX6_contest 218 = .ok (.getfield 31, 3) := by decide +kernel
theorem dX6_contest_221 : decode cX6_contest 221 = .ok (.iload 5, 2) := by decide +kernel
theorem dX6_contest_223 : decode cX6_contest 223 = .ok (.iaload, 1) := by decide +kernel
theorem dX6_contest_224 : decode cX6_contest 224 = .ok (.aload_n 0, 1) := by decide +kernel
theorem dX6_contest_225 : decode cX6_contest 225 = .ok (.getfield 28, 3) := by decide +kernel
theorem dX6_contest_228 : decode cX6_contest 228 = .ok (.iload 5, 2) := by decide +kernel
theorem dX6_contest_230 : decode cX6_contest 230 = .ok (.iaload, 1) := by decide +kernel
theorem dX6_contest_231 : decode cX6_contest 231 = .ok (.if_icmp .ne 7, 3) := by decide +kernel
theorem dX6_contest_234 : decode cX6_contest 234 = .ok (.iconst 1, 1) := by decide +kernel
theorem dX6_contest_235 : decode cX6_contest 235 = .ok (.goto 4, 3) := by decide +kernel
theorem dX6_contest_238 : decode cX6_contest 238 = .ok (.iconst 0, 1) := by decide +kernel
theorem dX6_contest_239 : decode cX6_contest 239 = .ok (.iadd, 1) := by decide +kernel
theorem dX6_contest_240 : decode cX6_contest 240 = .ok (.istore 4, 2) := by decide +kernel
theorem dX6_contest_242 : decode cX6_contest 242 = .ok (.iinc 5 1, 3) := by decide +kernel
theorem dX6_contest_245 : decode cX6_contest 245 = .ok (.goto (-60), 3) := by decide +kernel
theorem dX6_contest_248 : decode cX6_contest 248 = .ok (.aload_n 0, 1) := by decide +kernel
theorem dX6_contest_249 : decode cX6_contest 249 = .ok (.getfield 34, 3) := by decide +kernel
theorem dX6_contest_252 : decode cX6_contest 252 = .ok (.iload_n 2, 1) := by decide +kernel
theorem dX6_contest_253 : decode cX6_contest 253 = .ok (.iconst 0, 1) := by decide +kernel
theorem dX6_contest_254 : decode cX6_contest 254 = .ok (.bipush 50, 2) := by decide +kernel
theorem dX6_contest_256 : decode cX6_contest 256 = .ok (.aload_n 0, 1) := by decide +kernel
theorem dX6_contest_257 : decode cX6_contest 257 = .ok (.getfield 34, 3) := by decide +kernel
theorem dX6_contest_260 : decode cX6_contest 260 = .ok (.iload_n 2, 1) := by decide +kernel
theorem dX6_contest_261 : decode cX6_contest 261 = .ok (.iaload, 1) := by decide +kernel
theorem dX6_contest_262 : decode cX6_contest 262 = .ok (.iload 4, 2) := by decide +kernel
theorem dX6_contest_264 : decode cX6_contest 264 = .ok (.iadd, 1) := by decide +kernel
theorem dX6_contest_265 : decode cX6_contest 265 = .ok (.iconst 2, 1) := by decide +kernel
theorem dX6_contest_266 : decode cX6_contest 266 = .ok (.aload_n 0, 1) := by decide +kernel
theorem dX6_contest_267 : decode cX6_contest 267 = .ok (.getfield 43, 3) := by decide +kernel
theorem dX6_contest_270 : decode cX6_contest 270 = .ok (.iconst 4, 1) := by decide +kernel
theorem dX6_contest_271 : decode cX6_contest 271 = .ok (.iload_n 2, 1) := by decide +kernel
theorem dX6_contest_272 : decode cX6_contest 272 = .ok (.imul, 1) := by decide +kernel
theorem dX6_contest_273 : decode cX6_contest 273 = .ok (.iconst 2, 1) := by decide +kernel
theorem dX6_contest_274 : decode cX6_contest 274 = .ok (.iadd, 1) := by decide +kernel
theorem dX6_contest_275 : decode cX6_contest 275 = .ok (.iaload, 1) := by decide +kernel
theorem dX6_contest_276 : decode cX6_contest 276 = .ok (.imul, 1) := by decide +kernel
theorem dX6_contest_277 : decode cX6_contest 277 = .ok (.isub, 1) := by decide +kernel
theorem dX6_contest_278 : decode cX6_contest 278 = .ok (.invokestatic 100, 3) := by decide +kernel
theorem dX6_contest_281 : decode cX6_contest 281 = .ok (.invokestatic 95, 3) := by decide +kernel
theorem dX6_contest_284 : decode cX6_contest 284 = .ok (.iastore, 1) := by decide +kernel
theorem dX6_contest_285 : decode cX6_contest 285 = .ok (.iinc 2 1, 3) := by decide +kernel
theorem dX6_contest_288 : decode cX6_contest 288 = .ok (.goto (-221), 3) := by decide +kernel
theorem dX6_contest_291 : decode cX6_contest 291 = .ok (.iconst 0, 1) := by decide +kernel
theorem dX6_contest_292 : decode cX6_contest 292 = .ok (.istore_n 2, 1) := by decide +kernel
theorem dX6_contest_293 : decode cX6_contest 293 = .ok (.iload_n 2, 1) := by decide +kernel
theorem dX6_contest_294 : decode cX6_contest 294 = .ok (.aload_n 0, 1) := by decide +kernel
theorem dX6_contest_295 : decode cX6_contest 295 = .ok (.getfield 3, 3) := by decide +kernel
theorem dX6_contest_298 : decode cX6_contest 298 = .ok (.getfield 78, 3) := by decide +kernel
theorem dX6_contest_301 : decode cX6_contest 301 = .ok (.if_icmp .ge 27, 3) := by decide +kernel
theorem dX6_contest_304 : decode cX6_contest 304 = .ok (.aload_n 0, 1) := by decide +kernel
theorem dX6_contest_305 : decode cX6_contest 305 = .ok (.getfield 19, 3) := by decide +kernel
theorem dX6_contest_308 : decode cX6_contest 308 = .ok (.iload_n 2, 1) := by decide +kernel
theorem dX6_contest_309 : decode cX6_contest 309 = .ok (.iconst 0, 1) := by decide +kernel
theorem dX6_contest_310 : decode cX6_contest 310 = .ok (.aload_n 0, 1) := by decide +kernel
theorem dX6_contest_311 : decode cX6_contest 311 = .ok (.getfield 19, 3) := by decide +kernel
theorem dX6_contest_314 : decode cX6_contest 314 = .ok (.iload_n 2, 1) := by decide +kernel
theorem dX6_contest_315 : decode cX6_contest 315 = .ok (.iaload, 1) := by decide +kernel
theorem dX6_contest_316 : decode cX6_contest 316 = .ok (.iconst 1, 1) := by decide +kernel
theorem dX6_contest_317 : decode cX6_contest 317 = .ok (.isub, 1) := by decide +kernel
theorem dX6_contest_318 : decode cX6_contest 318 = .ok (.invokestatic 95, 3) := by decide +kernel
theorem dX6_contest_321 : decode cX6_contest 321 = .ok (.iastore, 1) := by decide +kernel
theorem dX6_contest_322 : decode cX6_contest 322 = .ok (.iinc 2 1, 3) := by decide +kernel
theorem dX6_contest_325 : decode cX6_contest 325 = .ok (.goto (-32), 3) := by decide +kernel
theorem dX6_contest_328 : decode cX6_contest 328 = .ok (.aload_n 0, 1) := by decide +kernel
theorem dX6_contest_329 : decode cX6_contest 329 = .ok (.dup, 1) := by decide +kernel
theorem dX6_contest_330 : decode cX6_contest 330 = .ok (.getfield 55, 3) := by decide +kernel
theorem dX6_contest_333 : decode cX6_contest 333 = .ok (.iconst 1, 1) := by decide +kernel
theorem dX6_contest_334 : decode cX6_contest 334 = .ok (.iadd, 1) := by decide +kernel
theorem dX6_contest_335 : decode cX6_contest 335 = .ok (.putfield 55, 3) := by decide +kernel
theorem dX6_contest_338 : decode cX6_contest 338 = .ok (.iload_n 1, 1) := by decide +kernel
theorem dX6_contest_339 : decode cX6_contest 339 = .ok (.ireturn, 1) := by decide +kernel
theorem dX6_seatOf_0 : decode cX6_seatOf 0 = .ok (.iconst 0, 1) := by decide +kernel
theorem dX6_seatOf_1 : decode cX6_seatOf 1 = .ok (.istore_n 2, 1) := by decide +kernel
theorem dX6_seatOf_2 : decode cX6_seatOf 2 = .ok (.iload_n 2, 1) := by decide +kernel
theorem dX6_seatOf_3 : decode cX6_seatOf 3 = .ok (.bipush 48, 2) := by decide +kernel
theorem dX6_seatOf_5 : decode cX6_seatOf 5 = .ok (.if_icmp .ge 54, 3) := by decide +kernel
theorem dX6_seatOf_8 : decode cX6_seatOf 8 = .ok (.iload_n 2, 1) := by decide +kernel
theorem dX6_seatOf_9 : decode cX6_seatOf 9 = .ok (.bipush 8, 2) := by decide +kernel
theorem dX6_seatOf_11 : decode cX6_seatOf 11 = .ok (.idiv, 1) := by decide +kernel
theorem dX6_seatOf_12 : decode cX6_seatOf 12 = .ok (.aload_n 0, 1) := by decide +kernel
theorem dX6_seatOf_13 : decode cX6_seatOf 13 = .ok (.getfield 3, 3) := by decide +kernel
theorem dX6_seatOf_16 : decode cX6_seatOf 16 = .ok (.getfield 103, 3) := by decide +kernel
theorem dX6_seatOf_19 : decode cX6_seatOf 19 = .ok (.if_icmp .ge 34, 3) := by decide +kernel
theorem dX6_seatOf_22 : decode cX6_seatOf 22 = .ok (.iload_n 2, 1) := by decide +kernel
theorem dX6_seatOf_23 : decode cX6_seatOf 23 = .ok (.bipush 8, 2) := by decide +kernel
theorem dX6_seatOf_25 : decode cX6_seatOf 25 = .ok (.irem, 1) := by decide +kernel
theorem dX6_seatOf_26 : decode cX6_seatOf 26 = .ok (.aload_n 0, 1) := by decide +kernel
theorem dX6_seatOf_27 : decode cX6_seatOf 27 = .ok (.getfield 3, 3) := by decide +kernel
theorem dX6_seatOf_30 : decode cX6_seatOf 30 = .ok (.getfield 69, 3) := by decide +kernel
theorem dX6_seatOf_33 : decode cX6_seatOf 33 = .ok (.iload_n 2, 1) := by decide +kernel
theorem dX6_seatOf_34 : decode cX6_seatOf 34 = .ok (.bipush 8, 2) := by decide +kernel
theorem dX6_seatOf_36 : decode cX6_seatOf 36 = .ok (.idiv, 1) := by decide +kernel
theorem dX6_seatOf_37 : decode cX6_seatOf 37 = .ok (.iaload, 1) := by decide +kernel
theorem dX6_seatOf_38 : decode cX6_seatOf 38 = .ok (.if_icmp .ge 15, 3) := by decide +kernel
theorem dX6_seatOf_41 : decode cX6_seatOf 41 = .ok (.aload_n 0, 1) := by decide +kernel
theorem dX6_seatOf_42 : decode cX6_seatOf 42 = .ok (.getfield 28, 3) := by decide +kernel
theorem dX6_seatOf_45 : decode cX6_seatOf 45 = .ok (.iload_n 2, 1) := by decide +kernel
theorem dX6_seatOf_46 : decode cX6_seatOf 46 = .ok (.iaload, 1) := by decide +kernel
theorem dX6_seatOf_47 : decode cX6_seatOf 47 = .ok (.iload_n 1, 1) := by decide +kernel
theorem dX6_seatOf_48 : decode cX6_seatOf 48 = .ok (.if_icmp .ne 5, 3) := by decide +kernel
theorem dX6_seatOf_51 : decode cX6_seatOf 51 = .ok (.iload_n 2, 1) := by decide +kernel
theorem dX6_seatOf_52 : decode cX6_seatOf 52 = .ok (.ireturn, 1) := by decide +kernel
theorem dX6_seatOf_53 : decode cX6_seatOf 53 = .ok (.iinc 2 1, 3) := by decide +kernel
theorem dX6_seatOf_56 : decode cX6_seatOf 56 = .ok (.goto (-54), 3) := by decide +kernel
theorem dX6_seatOf_59 : decode cX6_seatOf 59 = .ok (.iconst (-1), 1) := by decide +kernel
theorem dX6_seatOf_60 : decode cX6_seatOf 60 = .ok (.ireturn, 1) := by decide +kernel
theorem dX6_members_0 : decode cX6_members 0 = .ok (.iconst 0, 1) := by decide +kernel
theorem dX6_members_1 : decode cX6_members 1 = .ok (.istore_n 2, 1) := by decide +kernel
theorem dX6_members_2 : decode cX6_members 2 = .ok (.bipush 8, 2) := by decide +kernel
theorem dX6_members_4 : decode cX6_members 4 = .ok (.iload_n 1, 1) := by decide +kernel
theorem dX6_members_5 : decode cX6_members 5 = .ok (.imul, 1) := by decide +kernel
theorem dX6_members_6 : decode cX6_members 6 = .ok (.istore_n 3, 1) := by decide +kernel
theorem dX6_members_7 : decode cX6_members 7 = .ok (.iload_n 3, 1) := by decide +kernel
theorem dX6_members_8 : decode cX6_members 8 = .ok (.bipush 8, 2) := by decide +kernel
theorem dX6_members_10 : decode cX6_members 10 = .ok (.iload_n 1, 1) := by decide +kernel
theorem dX6_members_11 : decode cX6_members 11 = .ok (.imul, 1) := by decide +kernel
theorem dX6_members_12 : decode cX6_members 12 = .ok (.aload_n 0, 1) := by decide +kernel
theorem dX6_members_13 : decode cX6_members 13 = .ok (.getfield 3, 3) := by decide +kernel
theorem dX6_members_16 : decode cX6_members 16 = .ok (.getfield 69, 3) := by decide +kernel
theorem dX6_members_19 : decode cX6_members 19 = .ok (.iload_n 1, 1) := by decide +kernel
theorem dX6_members_20 : decode cX6_members 20 = .ok (.iaload, 1) := by decide +kernel
theorem dX6_members_21 : decode cX6_members 21 = .ok (.iadd, 1) := by decide +kernel
theorem dX6_members_22 : decode cX6_members 22 = .ok (.if_icmp .ge 27, 3) := by decide +kernel
theorem dX6_members_25 : decode cX6_members 25 = .ok (.iload_n 2, 1) := by decide +kernel
theorem dX6_members_26 : decode cX6_members 26 = .ok (.aload_n 0, 1) := by decide +kernel
theorem dX6_members_27 : decode cX6_members 27 = .ok (.getfield 28, 3) := by decide +kernel
theorem dX6_members_30 : decode cX6_members 30 = .ok (.iload_n 3, 1) := by decide +kernel
theorem dX6_members_31 : decode cX6_members 31 = .ok (.iaload, 1) := by decide +kernel
theorem dX6_members_32 : decode cX6_members 32 = .ok (.iconst (-1), 1) := by decide +kernel
theorem dX6_members_33 : decode cX6_members 33 = .ok (.if_icmp .ne 7, 3) := by decide +kernel
theorem dX6_members_36 : decode cX6_members 36 = .ok (.iconst 0, 1) := by decide +kernel
theorem dX6_members_37 : decode cX6_members 37 = .ok (.goto 4, 3) := by decide +kernel
theorem dX6_members_40 : decode cX6_members 40 = .ok (.iconst 1, 1) := by decide +kernel
theorem dX6_members_41 : decode cX6_members 41 = .ok (.iadd, 1) := by decide +kernel
theorem dX6_members_42 : decode cX6_members 42 = .ok (.istore_n 2, 1) := by decide +kernel
theorem dX6_members_43 : decode cX6_members 43 = .ok (.iinc 3 1, 3) := by decide +kernel
theorem dX6_members_46 : decode cX6_members 46 = .ok (.goto (-39), 3) := by decide +kernel
theorem dX6_members_49 : decode cX6_members 49 = .ok (.iload_n 2, 1) := by decide +kernel
theorem dX6_members_50 : decode cX6_members 50 = .ok (.ireturn, 1) := by decide +kernel
theorem dX7_init_0 : decode cX7_init 0 = .ok (.aload_n 0, 1) := by decide +kernel
theorem dX7_init_1 : decode cX7_init 1 = .ok (.invokespecial 1, 3) := by decide +kernel
theorem dX7_init_4 : decode cX7_init 4 = .ok (.aload_n 0, 1) := by decide +kernel
theorem dX7_init_5 : decode cX7_init 5 = .ok (.bipush 96, 2) := by decide +kernel
theorem dX7_init_7 : decode cX7_init 7 = .ok (.newarray .int, 2) := by decide +kernel
theorem dX7_init_9 : decode cX7_init 9 = .ok (.putfield 9, 3) := by decide +kernel
theorem dX7_init_12 : decode cX7_init 12 = .ok (.aload_n 0, 1) := by decide +kernel
theorem dX7_init_13 : decode cX7_init 13 = .ok (.bipush 6, 2) := by decide +kernel
theorem dX7_init_15 : decode cX7_init 15 = .ok (.newarray .int, 2) := by decide +kernel
theorem dX7_init_17 : decode cX7_init 17 = .ok (.putfield 13, 3) := by decide +kernel
theorem dX7_init_20 : decode cX7_init 20 = .ok (.aload_n 0, 1) := by decide +kernel
theorem dX7_init_21 : decode cX7_init 21 = .ok (.bipush 48, 2) := by decide +kernel
theorem dX7_init_23 : decode cX7_init 23 = .ok (.newarray .int, 2) := by decide +kernel
theorem dX7_init_25 : decode cX7_init 25 = .ok (.putfield 16, 3) := by decide +kernel
theorem dX7_init_28 : decode cX7_init 28 = .ok (.aload_n 0, 1) := by decide +kernel
theorem dX7_init_29 : decode cX7_init 29 = .ok (.iconst 4, 1) := by decide +kernel
theorem dX7_init_30 : decode cX7_init 30 = .ok (.newarray .int, 2) := by decide +kernel
theorem dX7_init_32 : decode cX7_init 32 = .ok (.dup, 1) := by decide +kernel
theorem dX7_init_33 : decode cX7_init 33 = .ok (.iconst 0, 1) := by decide +kernel
theorem dX7_init_34 : decode cX7_init 34 = .ok (.iconst 3, 1) := by decide +kernel
theorem dX7_init_35 : decode cX7_init 35 = .ok (.iastore, 1) := by decide +kernel
theorem dX7_init_36 : decode cX7_init 36 = .ok (.dup, 1) := by decide +kernel
theorem dX7_init_37 : decode cX7_init 37 = .ok (.iconst 1, 1) := by decide +kernel
theorem dX7_init_38 : decode cX7_init 38 = .ok (.iconst 3, 1) := by decide +kernel
theorem dX7_init_39 : decode cX7_init 39 = .ok (.iastore, 1) := by decide +kernel
theorem dX7_init_40 : decode cX7_init 40 = .ok (.dup, 1) := by decide +kernel
theorem dX7_init_41 : decode cX7_init 41 = .ok (.iconst 2, 1) := by decide +kernel
theorem dX7_init_42 : decode cX7_init 42 = .ok (.iconst 3, 1) := by decide +kernel
theorem dX7_init_43 : decode cX7_init 43 = .ok (.iastore, 1) := by decide +kernel
theorem dX7_init_44 : decode cX7_init 44 = .ok (.dup, 1) := by decide +kernel
theorem dX7_init_45 : decode cX7_init 45 = .ok (.iconst 3, 1) := by decide +kernel
theorem dX7_init_46 : decode cX7_init 46 = .ok (.iconst 3, 1) := by decide +kernel
theorem dX7_init_47 : decode cX7_init 47 = .ok (.iastore, 1) := by decide +kernel
theorem dX7_init_48 : decode cX7_init 48 = .ok (.putfield 19, 3) := by decide +kernel
theorem dX7_init_51 : decode cX7_init 51 = .ok (.aload_n 0, 1) := by decide +kernel
theorem dX7_init_52 : decode cX7_init 52 = .ok (.iconst 4, 1) := by decide +kernel
theorem dX7_init_53 : decode cX7_init 53 = .ok (.newarray .int, 2) := by decide +kernel
theorem dX7_init_55 : decode cX7_init 55 = .ok (.dup, 1) := by decide +kernel
theorem dX7_init_56 : decode cX7_init 56 = .ok (.iconst 0, 1) := by decide +kernel
theorem dX7_init_57 : decode cX7_init 57 = .ok (.iconst 1, 1) := by decide +kernel
theorem dX7_init_58 : decode cX7_init 58 = .ok (.iastore, 1) := by decide +kernel
theorem dX7_init_59 : decode cX7_init 59 = .ok (.dup, 1) := by decide +kernel
theorem dX7_init_60 : decode cX7_init 60 = .ok (.iconst 1, 1) := by decide +kernel
theorem dX7_init_61 : decode cX7_init 61 = .ok (.iconst 1, 1) := by decide +kernel
theorem dX7_init_62 : decode cX7_init 62 = .ok (.iastore, 1) := by decide +kernel
theorem dX7_init_63 : decode cX7_init 63 = .ok (.dup, 1) := by decide +kernel
theorem dX7_init_64 : decode cX7_init 64 = .ok (.iconst 2, 1) := by decide +kernel
theorem dX7_init_65 : decode cX7_init 65 = .ok (.iconst 1, 1) := by decide +kernel
theorem dX7_init_66 : decode cX7_init 66 = .ok (.iastore, 1) := by decide +kernel
theorem dX7_init_67 : decode cX7_init 67 = .ok (.dup, 1) := by decide +kernel
theorem dX7_init_68 : decode cX7_init 68 = .ok (.iconst 3, 1) := by decide +kernel
theorem dX7_init_69 : decode cX7_init 69 = .ok (.iconst 1, 1) := by decide +kernel
theorem dX7_init_70 : decode cX7_init 70 = .ok (.iastore, 1) := by decide +kernel
theorem dX7_init_71 : decode cX7_init 71 = .ok (.putfield 22, 3) := by decide +kernel
theorem dX7_init_74 : decode cX7_init 74 = .ok (.aload_n 0, 1) := by decide +kernel
theorem dX7_init_75 : decode cX7_init 75 = .ok (.new 25, 3) := by decide +kernel
theorem dX7_init_78 : decode cX7_init 78 = .ok (.dup, 1) := by decide +kernel
theorem dX7_init_79 : decode cX7_init 79 = .ok (.aload_n 0, 1) := by decide +kernel
theorem dX7_init_80 : decode cX7_init 80 = .ok (.invokespecial 27, 3) := by decide +kernel
theorem dX7_init_83 : decode cX7_init 83 = .ok (.putfield 30, 3) := by decide +kernel
theorem dX7_init_86 : decode cX7_init 86 = .ok (.aload_n 0, 1) := by decide +kernel
theorem dX7_init_87 : decode cX7_init 87 = .ok (.new 25, 3) := by decide +kernel
theorem dX7_init_90 : decode cX7_init 90 = .ok (.dup, 1) := by decide +kernel
theorem dX7_init_91 : decode cX7_init 91 = .ok (.aload_n 0, 1) := by decide +kernel
theorem dX7_init_92 : decode cX7_init 92 = .ok (.invokespecial 27, 3) := by decide +kernel
theorem dX7_init_95 : decode cX7_init 95 = .ok (.putfield 34, 3) := by decide +kernel
theorem dX7_init_98 : decode cX7_init 98 = .ok (.return_, 1) := by decide +kernel
theorem dX7_thrown_0 : decode cX7_thrown 0 = .ok (.aload_n 0, 1) := by decide +kernel
theorem dX7_thrown_1 : decode cX7_thrown 1 = .ok (.getfield 37, 3) := by decide +kernel
theorem dX7_thrown_4 : decode cX7_thrown 4 = .ok (.ireturn, 1) := by decide +kernel
theorem dX7_no_0 : decode cX7_no 0 = .ok (.aload_n 0, 1) := by decide +kernel
theorem dX7_no_1 : decode cX7_no 1 = .ok (.iload_n 1, 1) := by decide +kernel
theorem dX7_no_2 : decode cX7_no 2 = .ok (.putfield 37, 3) := by decide +kernel
theorem dX7_no_5 : decode cX7_no 5 = .ok (.iconst 0, 1) := by decide +kernel
theorem dX7_no_6 : decode cX7_no 6 = .ok (.ireturn, 1) := by decide +kernel
theorem dX7_isIn_0 : decode cX7_isIn 0 = .ok (.iload_n 0, 1) := by decide +kernel
theorem dX7_isIn_1 : decode cX7_isIn 1 = .ok (.iload_n 1, 1) := by decide +kernel
theorem dX7_isIn_2 : decode cX7_isIn 2 = .ok (.if_icmp .lt 12, 3) := by decide +kernel
theorem dX7_isIn_5 : decode cX7_isIn 5 = .ok (.iload_n 0, 1) := by decide +kernel
theorem dX7_isIn_6 : decode cX7_isIn 6 = .ok (.iload_n 2, 1) := by decide +kernel
theorem dX7_isIn_7 : decode cX7_isIn 7 = .ok (.if_icmp .gt 7, 3) := by decide +kernel
theorem dX7_isIn_10 : decode cX7_isIn 10 = .ok (.iconst 1, 1) := by decide +kernel
theorem dX7_isIn_11 : decode cX7_isIn 11 = .ok (.goto 4, 3) := by decide +kernel
theorem dX7_isIn_14 : decode cX7_isIn 14 = .ok (.iconst 0, 1) := by decide +kernel
theorem dX7_isIn_15 : decode cX7_isIn 15 = .ok (.ireturn, 1) := by decide +kernel
theorem dX7_isPlayer_0 : decode cX7_isPlayer 0 = .ok (.iload_n 1, 1) := by decide +kernel
theorem dX7_isPlayer_1 : decode cX7_isPlayer 1 = .ok (.iconst 0, 1) := by decide +kernel
theorem dX7_isPlayer_2 : decode cX7_isPlayer 2 = .ok (.aload_n 0, 1) := by decide +kernel
theorem dX7_isPlayer_3 : decode cX7_isPlayer 3 = .ok (.getfield 41, 3) := by decide +kernel
theorem dX7_isPlayer_6 : decode cX7_isPlayer 6 = .ok (.iconst 1, 1) := by decide +kernel
theorem dX7_isPlayer_7 : decode cX7_isPlayer 7 = .ok (.isub, 1) := by decide +kernel
theorem dX7_isPlayer_8 : decode cX7_isPlayer 8 = .ok (.invokestatic 44, 3) := by decide +kernel
theorem dX7_isPlayer_11 : decode cX7_isPlayer 11 = .ok (.ireturn, 1) := by decide +kernel
theorem dX7_isBand_0 : decode cX7_isBand 0 = .ok (.iload_n 1, 1) := by decide +kernel
theorem dX7_isBand_1 : decode cX7_isBand 1 = .ok (.iconst 0, 1) := by decide +kernel
theorem dX7_isBand_2 : decode cX7_isBand 2 = .ok (.aload_n 0, 1) := by decide +kernel
theorem dX7_isBand_3 : decode cX7_isBand 3 = .ok (.getfield 48, 3) := by decide +kernel
theorem dX7_isBand_6 : decode cX7_isBand 6 = .ok (.iconst 1, 1) := by decide +kernel
theorem dX7_isBand_7 : decode cX7_isBand 7 = .ok (.isub, 1) := by decide +kernel
theorem dX7_isBand_8 : decode cX7_isBand 8 = .ok (.invokestatic 44, 3) := by decide +kernel
theorem dX7_isBand_11 : decode cX7_isBand 11 = .ok (.ireturn, 1) := by decide +kernel
theorem dX7_isSeat_0 : decode cX7_isSeat 0 = .ok (.aload_n 0, 1) := by decide +kernel
theorem dX7_isSeat_1 : decode cX7_isSeat 1 = .ok (.iload_n 1, 1) := by decide +kernel
theorem dX7_isSeat_2 : decode cX7_isSeat 2 = .ok (.invokevirtual 51, 3) := by decide +kernel
theorem dX7_isSeat_5 : decode cX7_isSeat 5 = .ok (.ifCond .eq 23, 3) := by decide +kernel
theorem dX7_isSeat_8 : decode cX7_isSeat 8 = .ok (.iload_n 2, 1) := by decide +kernel
theorem dX7_isSeat_9 : decode cX7_isSeat 9 = .ok (.iconst 0, 1) := by decide +kernel
theorem dX7_isSeat_10 : decode cX7_isSeat 10 = .ok (.aload_n 0, 1) := by decide +kernel
theorem dX7_isSeat_11 : decode cX7_isSeat 11 = .ok (.getfield 13, 3) := by decide +kernel
theorem dX7_isSeat_14 : decode cX7_isSeat 14 = .ok (.iload_n 1, 1) := by decide +kernel
theorem dX7_isSeat_15 : decode cX7_isSeat 15 = .ok (.iaload, 1) := by decide +kernel
theorem dX7_isSeat_16 : decode cX7_isSeat 16 = .ok (.iconst 1, 1) := by decide +kernel
theorem dX7_isSeat_17 : decode cX7_isSeat 17 = .ok (.isub, 1) := by decide +kernel
theorem dX7_isSeat_18 : decode cX7_isSeat 18 = .ok (.invokestatic 44, 3) := by decide +kernel
theorem dX7_isSeat_21 : decode cX7_isSeat 21 = .ok (.ifCond .eq 7, 3) := by decide +kernel
theorem dX7_isSeat_24 : decode cX7_isSeat 24 = .ok (.iconst 1, 1) := by decide +kernel
theorem dX7_isSeat_25 : decode cX7_isSeat 25 = .ok (.goto 4, 3) := by decide +kernel
theorem dX7_isSeat_28 : decode cX7_isSeat 28 = .ok (.iconst 0, 1) := by decide +kernel
theorem dX7_isSeat_29 : decode cX7_isSeat 29 = .ok (.ireturn, 1) := by decide +kernel
theorem dX7_addPlayer_0 : decode cX7_addPlayer 0 = .ok (.aload_n 0, 1) := by decide +kernel
theorem dX7_addPlayer_1 : decode cX7_addPlayer 1 = .ok (.iconst 0, 1) := by decide +kernel
theorem dX7_addPlayer_2 : decode cX7_addPlayer 2 = .ok (.putfield 37, 3) := by decide +kernel
theorem dX7_addPlayer_5 : decode cX7_addPlayer 5 = .ok (.iload_n 1, 1) := by decide +kernel
theorem dX7_addPlayer_6 : decode cX7_addPlayer 6 = .ok (.iconst 0, 1) := by decide +kernel
theorem dX7_addPlayer_7 : decode cX7_addPlayer 7 = .ok (.bipush 9, 2) := by decide +kernel
theorem dX7_addPlayer_9 : decode cX7_addPlayer 9 = .ok (.invokestatic 44, 3) := by decide +kernel
theorem dX7_addPlayer_12 : decode cX7_addPlayer 12 = .ok (.ifCond .eq 34, 3) := by decide +kernel
theorem dX7_addPlayer_15 : decode cX7_addPlayer 15 = .ok (.iload_n 2, 1) := by decide +kernel
theorem dX7_addPlayer_16 : decode cX7_addPlayer 16 = .ok (.iconst 0, 1) := by decide +kernel
theorem dX7_addPlayer_17 : decode cX7_addPlayer 17 = .ok (.bipush 9, 2) := by decide +kernel
theorem dX7_addPlayer_19 : decode cX7_addPlayer 19 = .ok (.invokestatic 44, 3) := by decide +kernel
theorem dX7_addPlayer_22 : decode cX7_addPlayer 22 = .ok (.ifCond .eq 24, 3) := by decide +kernel
theorem dX7_addPlayer_25 : decode cX7_addPlayer 25 = .ok (.iload_n 3, 1) := by decide +kernel
theorem dX7_addPlayer_26 : decode cX7_addPlayer 26 = .ok (.iconst 0, 1) := by decide +kernel
theorem dX7_addPlayer_27 : decode cX7_addPlayer 27 = .ok (.bipush 9, 2) := by decide +kernel
theorem dX7_addPlayer_29 : decode cX7_addPlayer 29 = .ok (.invokestatic 44, 3) := by decide +kernel
theorem dX7_addPlayer_32 : decode cX7_addPlayer 32 = .ok (.ifCond .eq 14, 3) := by decide +kernel
theorem dX7_addPlayer_35 : decode cX7_addPlayer 35 = .ok (.iload 4, 2) := by decide +kernel
theorem dX7_addPlayer_37 : decode cX7_addPlayer 37 = .ok (.iconst 0, 1) := by decide +kernel
theorem dX7_addPlayer_38 : decode cX7_addPlayer 38 = .ok (.bipush 9, 2) := by decide +kernel
theorem dX7_addPlayer_40 : decode cX7_addPlayer 40 = .ok (.invokestatic 44, 3) := by decide +kernel
theorem dX7_addPlayer_43 : decode cX7_addPlayer 43 = .ok (.ifCond .ne 9, 3) := by decide +kernel
theorem dX7_addPlayer_46 : decode cX7_addPlayer 46 = .ok (.aload_n 0, 1) := by decide +kernel
theorem dX7_addPlayer_47 : decode cX7_addPlayer 47 = .ok (.iconst 1, 1) := by decide +kernel
theorem dX7_addPlayer_48 : decode cX7_addPlayer 48 = .ok (.invokevirtual 55, 3) := by decide +kernel
theorem dX7_addPlayer_51 : decode cX7_addPlayer 51 = .ok (.ireturn, 1) := by decide +kernel
theorem dX7_addPlayer_52 : decode cX7_addPlayer 52 = .ok (.aload_n 0, 1) := by decide +kernel
theorem dX7_addPlayer_53 : decode cX7_addPlayer 53 = .ok (.getfield 41, 3) := by decide +kernel
theorem dX7_addPlayer_56 : decode cX7_addPlayer 56 = .ok (.bipush 24, 2) := by decide +kernel
theorem dX7_addPlayer_58 : decode cX7_addPlayer 58 = .ok (.if_icmp .ne 9, 3) := by decide +kernel
theorem dX7_addPlayer_61 : decode cX7_addPlayer 61 = .ok (.aload_n 0, 1) := by decide +kernel
theorem dX7_addPlayer_62 : decode cX7_addPlayer 62 = .ok (.iconst 2, 1) := by decide +kernel
theorem dX7_addPlayer_63 : decode cX7_addPlayer 63 = .ok (.invokevirtual 55, 3) := by decide +kernel
theorem dX7_addPlayer_66 : decode cX7_addPlayer 66 = .ok (.ireturn, 1) := by decide +kernel
theorem dX7_addPlayer_67 : decode cX7_addPlayer 67 = .ok (.iconst 4, 1) := by decide +kernel
theorem dX7_addPlayer_68 : decode cX7_addPlayer 68 = .ok (.newarray .int, 2) := by decide +kernel
theorem dX7_addPlayer_70 : decode cX7_addPlayer 70 = .ok (.dup, 1) := by decide +kernel
theorem dX7_addPlayer_71 : decode cX7_addPlayer 71 = .ok (.iconst 0, 1) := by decide +kernel
theorem dX7_addPlayer_72 : decode cX7_addPlayer 72 = .ok (.iload_n 1, 1) := by decide +kernel
theorem dX7_addPlayer_73 : decode cX7_addPlayer 73 = .ok (.iastore, 1) := by decide +kernel
theorem dX7_addPlayer_74 : decode cX7_addPlayer 74 = .ok (.dup, 1) := by decide +kernel
theorem dX7_addPlayer_75 : decode cX7_addPlayer 75 = .ok (.iconst 1, 1) := by decide +kernel
theorem dX7_addPlayer_76 : decode cX7_addPlayer 76 = .ok (.iload_n 2, 1) := by decide +kernel
theorem dX7_addPlayer_77 : decode cX7_addPlayer 77 = .ok (.iastore, 1) := by decide +kernel
theorem dX7_addPlayer_78 : decode cX7_addPlayer 78 = .ok (.dup, 1) := by decide +kernel
theorem dX7_addPlayer_79 : decode cX7_addPlayer 79 = .ok (.iconst 2, 1) := by decide +kernel
theorem dX7_addPlayer_80 : decode cX7_addPlayer 80 = .ok (.iload_n 3, 1) := by decide +kernel
theorem dX7_addPlayer_81 : decode cX7_addPlayer 81 = .ok (.iastore, 1) := by decide +kernel
theorem dX7_addPlayer_82 : decode cX7_addPlayer 82 = .ok (.dup, 1) := by decide +kernel
theorem dX7_addPlayer_83 : decode cX7_addPlayer 83 = .ok (.iconst 3, 1) := by decide +kernel
theorem dX7_addPlayer_84 : decode cX7_addPlayer 84 = .ok (.iload 4, 2) := by decide +kernel
theorem dX7_addPlayer_86 : decode cX7_addPlayer 86 = .ok (.iastore, 1) := by decide +kernel
theorem dX7_addPlayer_87 : decode cX7_addPlayer 87 = .ok (.astore 5, 2) := by decide +kernel
theorem dX7_addPlayer_89 : decode cX7_addPlayer 89 = .ok (.aload 5, 2) := by decide +kernel
theorem dX7_addPlayer_91 : decode cX7_addPlayer 91 = .ok (.iconst 0, 1) := by decide +kernel
theorem dX7_addPlayer_92 : decode cX7_addPlayer 92 = .ok (.aload_n 0, 1) := by decide +kernel
theorem dX7_addPlayer_93 : decode cX7_addPlayer 93 = .ok (.getfield 9, 3) := by decide +kernel
theorem dX7_addPlayer_96 : decode cX7_addPlayer 96 = .ok (.iconst 4, 1) := by decide +kernel
theorem dX7_addPlayer_97 : decode cX7_addPlayer 97 = .ok (.aload_n 0, 1) := by decide +kernel
theorem dX7_addPlayer_98 : decode cX7_addPlayer 98 = .ok (.getfield 41, 3) := by decide +kernel
theorem dX7_addPlayer_101 : decode cX7_addPlayer 101 = .ok (.imul, 1) := by decide +kernel
theorem dX7_addPlayer_102 : decode cX7_addPlayer 102 = .ok (.iconst 4, 1) := by decide +kernel
theorem dX7_addPlayer_103 : decode cX7_addPlayer 103 = .ok (.invokestatic 59, 3) := by decide +kernel
theorem dX7_addPlayer_106 : decode cX7_addPlayer 106 = .ok (.aload_n 0, 1) := by decide +kernel
theorem dX7_addPlayer_107 : decode cX7_addPlayer 107 = .ok (.dup, 1) := by decide +kernel
theorem dX7_addPlayer_108 : decode cX7_addPlayer 108 = .ok (.getfield 41, 3) := by decide +kernel
theorem dX7_addPlayer_111 : decode cX7_addPlayer 111 = .ok (.iconst 1, 1) := by decide +kernel
theorem dX7_addPlayer_112 : decode cX7_addPlayer 112 = .ok (.iadd, 1) := by decide +kernel
theorem dX7_addPlayer_113 : decode cX7_addPlayer 113 = .ok (.putfield 41, 3) := by decide +kernel
theorem dX7_addPlayer_116 : decode cX7_addPlayer 116 = .ok (.aload_n 0, 1) := by decide +kernel
theorem dX7_addPlayer_117 : decode cX7_addPlayer 117 = .ok (.getfield 41, 3) := by decide +kernel
theorem dX7_addPlayer_120 : decode cX7_addPlayer 120 = .ok (.iconst 1, 1) := by decide +kernel
theorem dX7_addPlayer_121 : decode cX7_addPlayer 121 = .ok (.isub, 1) := by decide +kernel
theorem dX7_addPlayer_122 : decode cX7_addPlayer 122 = .ok (.ireturn, 1) := by decide +kernel
theorem dX7_found_0 : decode cX7_found 0 = .ok (.aload_n 0, 1) := by decide +kernel
theorem dX7_found_1 : decode cX7_found 1 = .ok (.iconst 0, 1) := by decide +kernel
theorem dX7_found_2 : decode cX7_found 2 = .ok (.putfield 37, 3) := by decide +kernel
theorem dX7_found_5 : decode cX7_found 5 = .ok (.iload_n 1, 1) := by decide +kernel
theorem dX7_found_6 : decode cX7_found 6 = .ok (.ifCond .le 13, 3) := by decide +kernel
theorem dX7_found_9 : decode cX7_found 9 = .ok (.iload_n 1, 1) := by decide +kernel
theorem dX7_found_10 : decode cX7_found 10 = .ok (.ldc 65, 2) := by decide +kernel
theorem dX7_found_12 : decode cX7_found 12 = .ok (.if_icmp .ge 7, 3) := by decide +kernel
theorem dX7_found_15 : decode cX7_found 15 = .ok (.iconst 1, 1) := by decide +kernel
theorem dX7_found_16 : decode cX7_found 16 = .ok (.goto 4, 3) := by decide +kernel
theorem dX7_found_19 : decode cX7_found 19 = .ok (.iconst 0, 1) := by decide +kernel
theorem dX7_found_20 : decode cX7_found 20 = .ok (.istore_n 2, 1) := by decide +kernel
theorem dX7_found_21 : decode cX7_found 21 = .ok (.iconst 0, 1) := by decide +kernel
theorem dX7_found_22 : decode cX7_found 22 = .ok (.istore_n 3, 1) := by decide +kernel
theorem dX7_found_23 : decode cX7_found 23 = .ok (.iload_n 1, 1) := by decide +kernel
theorem dX7_found_24 : decode cX7_found 24 = .ok (.istore 4, 2) := by decide +kernel
theorem dX7_found_26 : decode cX7_found 26 = .ok (.iload 4, 2) := by decide +kernel
theorem dX7_found_28 : decode cX7_found 28 = .ok (.ifCond .le 31, 3) := by decide +kernel
theorem dX7_found_31 : decode cX7_found 31 = .ok (.iload_n 2, 1) := by decide +kernel
theorem dX7_found_32 : decode cX7_found 32 = .ok (.ifCond .eq 27, 3) := by decide +kernel
theorem dX7_found_35 : decode cX7_found 35 = .ok (.iload 4, 2) := by decide +kernel
theorem dX7_found_37 : decode cX7_found 37 = .ok (.bipush 10, 2) := by decide +kernel
theorem dX7_found_39 : decode cX7_found 39 = .ok (.irem, 1) := by decide +kernel
theorem dX7_found_40 : decode cX7_found 40 = .ok (.iconst 1, 1) := by decide +kernel
theorem dX7_found_41 : decode cX7_found 41 = .ok (.iconst 4, 1) := by decide +kernel
theorem dX7_found_42 : decode cX7_found 42 = .ok (.invokestatic 44, 3) := by decide +kernel
theorem dX7_found_45 : decode cX7_found 45 = .ok (.istore_n 2, 1) := by decide +kernel
theorem dX7_found_46 : decode cX7_found 46 = .ok (.iinc 3 1, 3) := by decide +kernel
theorem dX7_found_49 : decode cX7_found 49 = .ok (.iload 4, 2) := by decide +kernel
theorem dX7_found_51 : decode cX7_found 51 = .ok (.bipush 10, 2) := by decide +kernel
theorem dX7_found_53 : decode cX7_found 53 = .ok (.idiv, 1) := by decide +kernel
theorem dX7_found_54 : decode cX7_found 54 = .ok (.istore 4, 2) := by decide +kernel
theorem dX7_found_56 : decode cX7_found 56 = .ok (.goto (-30), 3) := by decide +kernel
theorem dX7_found_59 : decode cX7_found 59 = .ok (.iload_n 2, 1) := by decide +kernel
theorem dX7_found_60 : decode cX7_found 60 = .ok (.ifCond .ne 9, 3) := by decide +kernel
theorem dX7_found_63 : decode cX7_found 63 = .ok (.aload_n 0, 1) := by decide +kernel
theorem dX7_found_64 : decode cX7_found 64 = .ok (.iconst 1, 1) := by decide +kernel
theorem dX7_found_65 : decode cX7_found 65 = .ok (.invokevirtual 55, 3) := by decide +kernel
theorem dX7_found_68 : decode cX7_found 68 = .ok (.ireturn, 1) := by decide +kernel
theorem dX7_found_69 : decode cX7_found 69 = .ok (.aload_n 0, 1) := by decide +kernel
theorem dX7_found_70 : decode cX7_found 70 = .ok (.getfield 48, 3) := by decide +kernel
theorem dX7_found_73 : decode cX7_found 73 = .ok (.bipush 6, 2) := by decide +kernel
theorem dX7_found_75 : decode cX7_found 75 = .ok (.if_icmp .ne 9, 3) := by decide +kernel
theorem dX7_found_78 : decode cX7_found 78 = .ok (.aload_n 0, 1) := by decide +kernel
theorem dX7_found_79 : decode cX7_found 79 = .ok (.iconst 2, 1) := by decide +kernel
theorem dX7_found_80 : decode cX7_found 80 = .ok (.invokevirtual 55, 3) := by decide +kernel
theorem dX7_found_83 : decode cX7_found 83 = .ok (.ireturn, 1) := by decide +kernel
theorem dX7_found_84 : decode cX7_found 84 = .ok (.aload_n 0, 1) := by decide +kernel
theorem dX7_found_85 : decode cX7_found 85 = .ok (.getfield 13, 3) := by decide +kernel
theorem dX7_found_88 : decode cX7_found 88 = .ok (.aload_n 0, 1) := by decide +kernel
theorem dX7_found_89 : decode cX7_found 89 = .ok (.getfield 48, 3) := by decide +kernel
theorem dX7_found_92 : decode cX7_found 92 = .ok (.iload_n 3, 1) := by decide +kernel
theorem dX7_found_93 : decode cX7_found 93 = .ok (.iastore, 1) := by decide +kernel
theorem dX7_found_94 : decode cX7_found 94 = .ok (.bipush 8, 2) := by decide +kernel
theorem dX7_found_96 : decode cX7_found 96 = .ok (.aload_n 0, 1) := by decide +kernel
theorem dX7_found_97 : decode cX7_found 97 = .ok (.getfield 48, 3) := by decide +kernel
theorem dX7_found_100 : decode cX7_found 100 = .ok (.imul, 1) := by decide +kernel
theorem dX7_found_101 : decode cX7_found 101 = .ok (.iload_n 3, 1) := by decide +kernel
theorem dX7_found_102 : decode cX7_found 102 = .ok (.iadd, 1) := by decide +kernel
theorem dX7_found_103 : decode cX7_found 103 = .ok (.istore 4, 2) := by decide +kernel
theorem dX7_found_105 : decode cX7_found 105 = .ok (.iload_n 1, 1) := by decide +kernel
theorem dX7_found_106 : decode cX7_found 106 = .ok (.istore 5, 2) := by decide +kernel
theorem dX7_found_108 : decode cX7_found 108 = .ok (.iload 5, 2) := by decide +kernel
theorem dX7_found_110 : decode cX7_found 110 = .ok (.ifCond .le 52, 3) := by decide +kernel
theorem dX7_found_113 : decode cX7_found 113 = .ok (.iinc 4 (-1), 3) := by decide +kernel
theorem dX7_found_116 : decode cX7_found 116 = .ok (.aload_n 0, 1) := by decide +kernel
theorem dX7_found_117 : decode cX7_found 117 = .ok (.getfield 16, 3) := by decide +kernel
theorem dX7_found_120 : decode cX7_found 120 = .ok (.iload 4, 2) := by decide +kernel
theorem dX7_found_122 : decode cX7_found 122 = .ok (.iload 5, 2) := by decide +kernel
theorem dX7_found_124 : decode cX7_found 124 = .ok (.bipush 10, 2) := by decide +kernel
theorem dX7_found_126 : decode cX7_found 126 = .ok (.irem, 1) := by decide +kernel
theorem dX7_found_127 : decode cX7_found 127 = .ok (.iconst 1, 1) := by decide +kernel
theorem dX7_found_128 : decode cX7_found 128 = .ok (.isub, 1) := by decide +kernel
theorem dX7_found_129 : decode cX7_found 129 = .ok (.iastore, 1) := by decide +kernel
theorem dX7_found_130 : decode cX7_found 130 = .ok (.aload_n 0, 1) := by decide +kernel
theorem dX7_found_131 : decode cX7_found 131 = .ok (.getfield 30, 3) := by decide +kernel
theorem dX7_found_134 : decode cX7_found 134 = .ok (.getfield 66, 3) := by decide +kernel
theorem dX7_found_137 : decode cX7_found 137 = .ok (.iload 4, 2) := by decide +kernel
theorem dX7_found_139 : decode cX7_found 139 = .ok (.iconst (-1), 1) := by decide +kernel
theorem dX7_found_140 : decode cX7_found 140 = .ok (.iastore, 1) := by decide +kernel
theorem dX7_found_141 : decode cX7_found 141 = .ok (.aload_n 0, 1) := by decide +kernel
theorem dX7_found_142 : decode cX7_found 142 = .ok (.getfield 30, 3) := by decide +kernel
theorem dX7_found_145 : decode cX7_found 145 = .ok (.getfield 69, 3) := by decide +kernel
theorem dX7_found_148 : decode cX7_found 148 = .ok (.iload 4, 2) := by decide +kernel
theorem dX7_found_150 : decode cX7_found 150 = .ok (.iconst (-1), 1) := by decide +kernel
theorem dX7_found_151 : decode cX7_found 151 = .ok (.iastore, 1) := by decide +kernel
theorem dX7_found_152 : decode cX7_found 152 = .ok (.iload 5, 2) := by decide +kernel
theorem dX7_found_154 : decode cX7_found 154 = .ok (.bipush 10, 2) := by decide +kernel
theorem dX7_found_156 : decode cX7_found 156 = .ok (.idiv, 1) := by decide +kernel
theorem dX7_found_157 : decode cX7_found 157 = .ok (.istore 5, 2) := by decide +kernel
theorem dX7_found_159 : decode cX7_found 159 = .ok (.goto (-51), 3) := by decide +kernel
theorem dX7_found_162 : decode cX7_found 162 = .ok (.iconst 0, 1) := by decide +kernel
theorem dX7_found_163 : decode cX7_found 163 = .ok (.istore 5, 2) := by decide +kernel
theorem dX7_found_165 : decode cX7_found 165 = .ok (.iload 5, 2) := by decide +kernel
theorem dX7_found_167 : decode cX7_found 167 = .ok (.iconst 4, 1) := by decide +kernel
theorem dX7_found_168 : decode cX7_found 168 = .ok (.if_icmp .ge 27, 3) := by decide +kernel
theorem dX7_found_171 : decode cX7_found 171 = .ok (.aload_n 0, 1) := by decide +kernel
theorem dX7_found_172 : decode cX7_found 172 = .ok (.getfield 30, 3) := by decide +kernel
theorem dX7_found_175 : decode cX7_found 175 = .ok (.getfield 72, 3) := by decide +kernel
theorem dX7_found_178 : decode cX7_found 178 = .ok (.iconst 4, 1) := by decide +kernel
theorem dX7_found_179 : decode cX7_found 179 = .ok (.aload_n 0, 1) := by decide +kernel
theorem dX7_found_180 : decode cX7_found 180 = .ok (.getfield 48, 3) := by decide +kernel
theorem dX7_found_183 : decode cX7_found 183 = .ok (.imul, 1) := by decide +kernel
theorem dX7_found_184 : decode cX7_found 184 = .ok (.iload 5, 2) := by decide +kernel
theorem dX7_found_186 : decode cX7_found 186 = .ok (.iadd, 1) := by decide +kernel
theorem dX7_found_187 : decode cX7_found 187 = .ok (.iconst (-1), 1) := by decide +kernel
theorem dX7_found_188 : decode cX7_found 188 = .ok (.iastore, 1) := by decide +kernel
theorem dX7_found_189 : decode cX7_found 189 = .ok (.iinc 5 1, 3) := by decide +kernel
theorem dX7_found_192 : decode cX7_found 192 = .ok (.goto (-27), 3) := by decide +kernel
theorem dX7_found_195 : decode cX7_found 195 = .ok (.aload_n 0, 1) := by decide +kernel
theorem dX7_found_196 : decode cX7_found 196 = .ok (.dup, 1) := by decide +kernel
theorem dX7_found_197 : decode cX7_found 197 = .ok (.getfield 48, 3) := by decide +kernel
theorem dX7_found_200 : decode cX7_found 200 = .ok (.iconst 1, 1) := by decide +kernel
theorem dX7_found_201 : decode cX7_found 201 = .ok (.iadd, 1) := by decide +kernel
theorem dX7_found_202 : decode cX7_found 202 = .ok (.putfield 48, 3) := by decide +kernel
theorem dX7_found_205 : decode cX7_found 205 = .ok (.aload_n 0, 1) := by decide +kernel
theorem dX7_found_206 : decode cX7_found 206 = .ok (.getfield 48, 3) := by decide +kernel
theorem dX7_found_209 : decode cX7_found 209 = .ok (.iconst 1, 1) := by decide +kernel
theorem dX7_found_210 : decode cX7_found 210 = .ok (.isub, 1) := by decide +kernel
theorem dX7_found_211 : decode cX7_found 211 = .ok (.ireturn, 1) := by decide +kernel
theorem dX7_seat_0 : decode cX7_seat 0 = .ok (.aload_n 0, 1) := by decide +kernel
theorem dX7_seat_1 : decode cX7_seat 1 = .ok (.iconst 0, 1) := by decide +kernel
theorem dX7_seat_2 : decode cX7_seat 2 = .ok (.putfield 37, 3) := by decide +kernel
theorem dX7_seat_5 : decode cX7_seat 5 = .ok (.aload_n 0, 1) := by decide +kernel
theorem dX7_seat_6 : decode cX7_seat 6 = .ok (.iload_n 1, 1) := by decide +kernel
theorem dX7_seat_7 : decode cX7_seat 7 = .ok (.iload_n 2, 1) := by decide +kernel
theorem dX7_seat_8 : decode cX7_seat 8 = .ok (.invokevirtual 75, 3) := by decide +kernel
theorem dX7_seat_11 : decode cX7_seat 11 = .ok (.ifCond .eq 16, 3) := by decide +kernel
theorem dX7_seat_14 : decode cX7_seat 14 = .ok (.iload_n 3, 1) := by decide +kernel
theorem dX7_seat_15 : decode cX7_seat 15 = .ok (.iconst (-1), 1) := by decide +kernel
theorem dX7_seat_16 : decode cX7_seat 16 = .ok (.if_icmp .eq 17, 3) := by decide +kernel
theorem dX7_seat_19 : decode cX7_seat 19 = .ok (.aload_n 0, 1) := by decide +kernel
theorem dX7_seat_20 : decode cX7_seat 20 = .ok (.iload_n 3, 1) := by decide +kernel
theorem dX7_seat_21 : decode cX7_seat 21 = .ok (.invokevirtual 79, 3) := by decide +kernel
theorem dX7_seat_24 : decode cX7_seat 24 = .ok (.ifCond .ne 9, 3) := by decide +kernel
theorem dX7_seat_27 : decode cX7_seat 27 = .ok (.aload_n 0, 1) := by decide +kernel
theorem dX7_seat_28 : decode cX7_seat 28 = .ok (.iconst 1, 1) := by decide +kernel
theorem dX7_seat_29 : decode cX7_seat 29 = .ok (.invokevirtual 55, 3) := by decide +kernel
theorem dX7_seat_32 : decode cX7_seat 32 = .ok (.ireturn, 1) := by decide +kernel
theorem dX7_seat_33 : decode cX7_seat 33 = .ok (.bipush 8, 2) := by decide +kernel
theorem dX7_seat_35 : decode cX7_seat 35 = .ok (.iload_n 1, 1) := by decide +kernel
theorem dX7_seat_36 : decode cX7_seat 36 = .ok (.imul, 1) := by decide +kernel
theorem dX7_seat_37 : decode cX7_seat 37 = .ok (.iload_n 2, 1) := by decide +kernel
theorem dX7_seat_38 : decode cX7_seat 38 = .ok (.iadd, 1) := by decide +kernel
theorem dX7_seat_39 : decode cX7_seat 39 = .ok (.istore 4, 2) := by decide +kernel
theorem dX7_seat_41 : decode cX7_seat 41 = .ok (.aload_n 0, 1) := by decide +kernel
theorem dX7_seat_42 : decode cX7_seat 42 = .ok (.getfield 30, 3) := by decide +kernel
theorem dX7_seat_45 : decode cX7_seat 45 = .ok (.getfield 66, 3) := by decide +kernel
theorem dX7_seat_48 : decode cX7_seat 48 = .ok (.iload 4, 2) := by decide +kernel
theorem dX7_seat_50 : decode cX7_seat 50 = .ok (.iaload, 1) := by decide +kernel
theorem dX7_seat_51 : decode cX7_seat 51 = .ok (.istore 5, 2) := by decide +kernel
theorem dX7_seat_53 : decode cX7_seat 53 = .ok (.iload_n 3, 1) := by decide +kernel
theorem dX7_seat_54 : decode cX7_seat 54 = .ok (.iconst (-1), 1) := by decide +kernel
theorem dX7_seat_55 : decode cX7_seat 55 = .ok (.if_icmp .eq 21, 3) := by decide +kernel
theorem dX7_seat_58 : decode cX7_seat 58 = .ok (.iload 5, 2) := by decide +kernel
theorem dX7_seat_60 : decode cX7_seat 60 = .ok (.iconst (-1), 1) := by decide +kernel
theorem dX7_seat_61 : decode cX7_seat 61 = .ok (.if_icmp .eq 15, 3) := by decide +kernel
theorem dX7_seat_64 : decode cX7_seat 64 = .ok (.iload 5, 2) := by decide +kernel
theorem dX7_seat_66 : decode cX7_seat 66 = .ok (.iload_n 3, 1) := by decide +kernel
theorem dX7_seat_67 : decode cX7_seat 67 = .ok (.if_icmp .eq 9, 3) := by decide +kernel
theorem dX7_seat_70 : decode cX7_seat 70 = .ok (.aload_n 0, 1) := by decide +kernel
theorem dX7_seat_71 : decode cX7_seat 71 = .ok (.iconst 2, 1) := by decide +kernel
theorem dX7_seat_72 : decode cX7_seat 72 = .ok (.invokevirtual 55, 3) := by decide +kernel
theorem dX7_seat_75 : decode cX7_seat 75 = .ok (.ireturn, 1) := by decide +kernel
theorem dX7_seat_76 : decode cX7_seat 76 = .ok (.iload_n 3, 1) := by decide +kernel
theorem dX7_seat_77 : decode cX7_seat 77 = .ok (.iconst (-1), 1) := by decide +kernel
theorem dX7_seat_78 : decode cX7_seat 78 = .ok (.if_icmp .ne 7, 3) := by decide +kernel
theorem dX7_seat_81 : decode cX7_seat 81 = .ok (.iconst (-1), 1) := by decide +kernel
theorem dX7_seat_82 : decode cX7_seat 82 = .ok (.goto 11, 3) := by decide +kernel
theorem dX7_seat_85 : decode cX7_seat 85 = .ok (.aload_n 0, 1) := by decide +kernel
theorem dX7_seat_86 : decode cX7_seat 86 = .ok (.getfield 30, 3) := by decide +kernel
theorem dX7_seat_89 : decode cX7_seat 89 = .ok (.iload_n 3, 1) := by decide +kernel
theorem dX7_seat_90 : decode cX7_seat 90 = .ok (.invokevirtual 82, 3) := by decide +kernel
theorem dX7_seat_93 : decode cX7_seat 93 = .ok (.istore 6, 2) := by decide +kernel
theorem dX7_seat_95 : decode cX7_seat 95 = .ok (.iload 6, 2) := by decide +kernel
theorem dX7_seat_97 : decode cX7_seat 97 = .ok (.iconst (-1), 1) := by decide +kernel
theorem dX7_seat_98 : decode cX7_seat 98 = .ok (.if_icmp .eq 14, 3) := by decide +kernel
theorem dX7_seat_101 : decode cX7_seat 101 = .ok (.aload_n 0, 1) := by decide +kernel
theorem dX7_seat_102 : decode cX7_seat 102 = .ok (.getfield 30, 3) := by decide +kernel
theorem dX7_seat_105 : decode cX7_seat 105 = .ok (.getfield 66, 3) := by decide +kernel
theorem dX7_seat_108 : decode cX7_seat 108 = .ok (.iload 6, 2) := by decide +kernel
theorem dX7_seat_110 : decode cX7_seat 110 = .ok (.iconst (-1), 1) := by decide +kernel
theorem dX7_seat_111 : decode cX7_seat 111 = .ok (.iastore, 1) := by decide +kernel
theorem dX7_seat_112 : decode cX7_seat 112 = .ok (.aload_n 0, 1) := by decide +kernel
theorem dX7_seat_113 : decode cX7_seat 113 = .ok (.getfield 30, 3) := by decide +kernel
theorem dX7_seat_116 : decode cX7_seat 116 = .ok (.getfield 66, 3) := by decide +kernel
theorem dX7_seat_119 : decode cX7_seat 119 = .ok (.iload 4, 2) := by decide +kernel
theorem dX7_seat_121 : decode cX7_seat 121 = .ok (.iload_n 3, 1) := by decide +kernel
theorem dX7_seat_122 : decode cX7_seat 122 = .ok (.iastore, 1) := by decide +kernel
theorem dX7_seat_123 : decode cX7_seat 123 = .ok (.iload 5, 2) := by decide +kernel
theorem dX7_seat_125 : decode cX7_seat 125 = .ok (.ireturn, 1) := by decide +kernel
theorem dX7_swap_0 : decode cX7_swap 0 = .ok (.aload_n 0, 1) := by decide +kernel
theorem dX7_swap_1 : decode cX7_swap 1 = .ok (.getfield 66, 3) := by decide +kernel
theorem dX7_swap_4 : decode cX7_swap 4 = .ok (.iload_n 1, 1) := by decide +kernel
theorem dX7_swap_5 : decode cX7_swap 5 = .ok (.iaload, 1) := by decide +kernel
theorem dX7_swap_6 : decode cX7_swap 6 = .ok (.istore_n 3, 1) := by decide +kernel
theorem dX7_swap_7 : decode cX7_swap 7 = .ok (.aload_n 0, 1) := by decide +kernel
theorem dX7_swap_8 : decode cX7_swap 8 = .ok (.getfield 66, 3) := by decide +kernel
theorem dX7_swap_11 : decode cX7_swap 11 = .ok (.iload_n 1, 1) := by decide +kernel
theorem dX7_swap_12 : decode cX7_swap 12 = .ok (.aload_n 0, 1) := by decide +kernel
theorem dX7_swap_13 : decode cX7_swap 13 = .ok (.getfield 66, 3) := by decide +kernel
theorem dX7_swap_16 : decode cX7_swap 16 = .ok (.iload_n 2, 1) := by decide +kernel
theorem dX7_swap_17 : decode cX7_swap 17 = .ok (.iaload, 1) := by decide +kernel
theorem dX7_swap_18 : decode cX7_swap 18 = .ok (.iastore, 1) := by decide +kernel
theorem dX7_swap_19 : decode cX7_swap 19 = .ok (.aload_n 0, 1) := by decide +kernel
theorem dX7_swap_20 : decode cX7_swap 20 = .ok (.getfield 66, 3) := by decide +kernel
theorem dX7_swap_23 : decode cX7_swap 23 = .ok (.iload_n 2, 1) := by decide +kernel
theorem dX7_swap_24 : decode cX7_swap 24 = .ok (.iload_n 3, 1) := by decide +kernel
theorem dX7_swap_25 : decode cX7_swap 25 = .ok (.iastore, 1) := by decide +kernel
theorem dX7_swap_26 : decode cX7_swap 26 = .ok (.return_, 1) := by decide +kernel
theorem dX7_change_0 : decode cX7_change 0 = .ok (.aload_n 0, 1) := by decide +kernel
theorem dX7_change_1 : decode cX7_change 1 = .ok (.iconst 0, 1) := by decide +kernel
theorem dX7_change_2 : decode cX7_change 2 = .ok (.putfield 37, 3) := by decide +kernel
theorem dX7_change_5 : decode cX7_change 5 = .ok (.aload_n 0, 1) := by decide +kernel
theorem dX7_change_6 : decode cX7_change 6 = .ok (.iload_n 1, 1) := by decide +kernel
theorem dX7_change_7 : decode cX7_change 7 = .ok (.iload_n 2, 1) := by decide +kernel
theorem dX7_change_8 : decode cX7_change 8 = .ok (.invokevirtual 75, 3) := by decide +kernel
theorem dX7_change_11 : decode cX7_change 11 = .ok (.ifCond .eq 12, 3) := by decide +kernel
theorem dX7_change_14 : decode cX7_change 14 = .ok (.aload_n 0, 1) := by decide +kernel
theorem dX7_change_15 : decode cX7_change 15 = .ok (.iload_n 1, 1) := by decide +kernel
theorem dX7_change_16 : decode cX7_change 16 = .ok (.iload_n 3, 1) := by decide +kernel
theorem dX7_change_17 : decode cX7_change 17 = .ok (.invokevirtual 75, 3) := by decide +kernel
theorem dX7_change_20 : decode cX7_change 20 = .ok (.ifCond .ne 9, 3) := by decide +kernel
theorem dX7_change_23 : decode cX7_change 23 = .ok (.aload_n 0, 1) := by decide +kernel
theorem dX7_change_24 : decode cX7_change 24 = .ok (.iconst 1, 1) := by decide +kernel
theorem dX7_change_25 : decode cX7_change 25 = .ok (.invokevirtual 55, 3) := by decide +kernel
theorem dX7_change_28 : decode cX7_change 28 = .ok (.ireturn, 1) := by decide +kernel
theorem dX7_change_29 : decode cX7_change 29 = .ok (.aload_n 0, 1) := by decide +kernel
theorem dX7_change_30 : decode cX7_change 30 = .ok (.getfield 30, 3) := by decide +kernel
theorem dX7_change_33 : decode cX7_change 33 = .ok (.bipush 8, 2) := by decide +kernel
theorem dX7_change_35 : decode cX7_change 35 = .ok (.iload_n 1, 1) := by decide +kernel
theorem dX7_change_36 : decode cX7_change 36 = .ok (.imul, 1) := by decide +kernel
theorem dX7_change_37 : decode cX7_change 37 = .ok (.iload_n 2, 1) := by decide +kernel
theorem dX7_change_38 : decode cX7_change 38 = .ok (.iadd, 1) := by decide +kernel
theorem dX7_change_39 : decode cX7_change 39 = .ok (.bipush 8, 2) := by decide +kernel
theorem dX7_change_41 : decode cX7_change 41 = .ok (.iload_n 1, 1) := by decide +kernel
theorem dX7_change_42 : decode cX7_change 42 = .ok (.imul, 1) := by decide +kernel
theorem dX7_change_43 : decode cX7_change 43 = .ok (.iload_n 3, 1) := by decide +kernel
theorem dX7_change_44 : decode cX7_change 44 = .ok (.iadd, 1) := by decide +kernel
theorem dX7_change_45 : decode cX7_change 45 = .ok (.invokestatic 85, 3) := by decide +kernel
theorem dX7_change_48 : decode cX7_change 48 = .ok (.aload_n 0, 1) := by decide +kernel
theorem dX7_change_49 : decode cX7_change 49 = .ok (.getfield 30, 3) := by decide +kernel
theorem dX7_change_52 : decode cX7_change 52 = .ok (.getfield 66, 3) := by decide +kernel
theorem dX7_change_55 : decode cX7_change 55 = .ok (.bipush 8, 2) := by decide +kernel
theorem dX7_change_57 : decode cX7_change 57 = .ok (.iload_n 1, 1) := by decide +kernel
theorem dX7_change_58 : decode cX7_change 58 = .ok (.imul, 1) := by decide +kernel
theorem dX7_change_59 : decode cX7_change 59 = .ok (.iload_n 2, 1) := by decide +kernel
theorem dX7_change_60 : decode cX7_change 60 = .ok (.iadd, 1) := by decide +kernel
theorem dX7_change_61 : decode cX7_change 61 = .ok (.iaload, 1) := by decide +kernel
theorem dX7_change_62 : decode cX7_change 62 = .ok (.ireturn, 1) := by decide +kernel
theorem dX7_absent_0 : decode cX7_absent 0 = .ok (.aload_n 0, 1) := by decide +kernel
theorem dX7_absent_1 : decode cX7_absent 1 = .ok (.iconst 0, 1) := by decide +kernel
theorem dX7_absent_2 : decode cX7_absent 2 = .ok (.putfield 37, 3) := by decide +kernel
theorem dX7_absent_5 : decode cX7_absent 5 = .ok (.aload_n 0, 1) := by decide +kernel
theorem dX7_absent_6 : decode cX7_absent 6 = .ok (.iload_n 1, 1) := by decide +kernel
theorem dX7_absent_7 : decode cX7_absent 7 = .ok (.invokevirtual 79, 3) := by decide +kernel
theorem dX7_absent_10 : decode cX7_absent 10 = .ok (.ifCond .ne 9, 3) := by decide +kernel
theorem dX7_absent_13 : decode cX7_absent 13 = .ok (.aload_n 0, 1) := by decide +kernel
theorem dX7_absent_14 : decode cX7_absent 14 = .ok (.iconst 1, 1) := by decide +kernel
theorem dX7_absent_15 : decode cX7_absent 15 = .ok (.invokevirtual 55, 3) := by decide +kernel
theorem dX7_absent_18 : decode cX7_absent 18 = .ok (.ireturn, 1) := by decide +kernel
theorem dX7_absent_19 : decode cX7_absent 19 = .ok (.iload_n 2, 1) := by decide +kernel
theorem dX7_absent_20 : decode cX7_absent 20 = .ok (.iconst 0, 1) := by decide +kernel
theorem dX7_absent_21 : decode cX7_absent 21 = .ok (.bipush 20, 2) := by decide +kernel
theorem dX7_absent_23 : decode cX7_absent 23 = .ok (.invokestatic 44, 3) := by decide +kernel
theorem dX7_absent_26 : decode cX7_absent 26 = .ok (.ifCond .ne 9, 3) := by decide +kernel
theorem dX7_absent_29 : decode cX7_absent 29 = .ok (.aload_n 0, 1) := by decide +kernel
theorem dX7_absent_30 : decode cX7_absent 30 = .ok (.iconst 2, 1) := by decide +kernel
theorem dX7_absent_31 : decode cX7_absent 31 = .ok (.invokevirtual 55, 3) := by decide +kernel
theorem dX7_absent_34 : decode cX7_absent 34 = .ok (.ireturn, 1) := by decide +kernel
theorem dX7_absent_35 : decode cX7_absent 35 = .ok (.aload_n 0, 1) := by decide +kernel
theorem dX7_absent_36 : decode cX7_absent 36 = .ok (.getfield 30, 3) := by decide +kernel
theorem dX7_absent_39 : decode cX7_absent 39 = .ok (.getfield 89, 3) := by decide +kernel
theorem dX7_absent_42 : decode cX7_absent 42 = .ok (.iload_n 1, 1) := by decide +kernel
theorem dX7_absent_43 : decode cX7_absent 43 = .ok (.iaload, 1) := by decide +kernel
theorem dX7_absent_44 : decode cX7_absent 44 = .ok (.istore_n 3, 1) := by decide +kernel
theorem dX7_absent_45 : decode cX7_absent 45 = .ok (.aload_n 0, 1) := by decide +kernel
theorem dX7_absent_46 : decode cX7_absent 46 = .ok (.getfield 30, 3) := by decide +kernel
theorem dX7_absent_49 : decode cX7_absent 49 = .ok (.getfield 89, 3) := by decide +kernel
theorem dX7_absent_52 : decode cX7_absent 52 = .ok (.iload_n 1, 1) := by decide +kernel
theorem dX7_absent_53 : decode cX7_absent 53 = .ok (.iload_n 2, 1) := by decide +kernel
theorem dX7_absent_54 : decode cX7_absent 54 = .ok (.iastore, 1) := by decide +kernel
theorem dX7_absent_55 : decode cX7_absent 55 = .ok (.iload_n 3, 1) := by decide +kernel
theorem dX7_absent_56 : decode cX7_absent 56 = .ok (.ireturn, 1) := by decide +kernel
theorem dX7_rehearse_0 : decode cX7_rehearse 0 = .ok (.aload_n 0, 1) := by decide +kernel
theorem dX7_rehearse_1 : decode cX7_rehearse 1 = .ok (.iconst 0, 1) := by decide +kernel
theorem dX7_rehearse_2 : decode cX7_rehearse 2 = .ok (.putfield 37, 3) := by decide +kernel
theorem dX7_rehearse_5 : decode cX7_rehearse 5 = .ok (.aload_n 0, 1) := by decide +kernel
theorem dX7_rehearse_6 : decode cX7_rehearse 6 = .ok (.iload_n 1, 1) := by decide +kernel
theorem dX7_rehearse_7 : decode cX7_rehearse 7 = .ok (.invokevirtual 51, 3) := by decide +kernel
theorem dX7_rehearse_10 : decode cX7_rehearse 10 = .ok (.ifCond .ne 9, 3) := by decide +kernel
theorem dX7_rehearse_13 : decode cX7_rehearse 13 = .ok (.aload_n 0, 1) := by decide +kernel
theorem dX7_rehearse_14 : decode cX7_rehearse 14 = .ok (.iconst 1, 1) := by decide +kernel
theorem dX7_rehearse_15 : decode cX7_rehearse 15 = .ok (.invokevirtual 55, 3) := by decide +kernel
theorem dX7_rehearse_18 : decode cX7_rehearse 18 = .ok (.ireturn, 1) := by decide +kernel
theorem dX7_rehearse_19 : decode cX7_rehearse 19 = .ok (.aload_n 0, 1) := by decide +kernel
theorem dX7_rehearse_20 : decode cX7_rehearse 20 = .ok (.getfield 30, 3) := by decide +kernel
theorem dX7_rehearse_23 : decode cX7_rehearse 23 = .ok (.getfield 92, 3) := by decide +kernel
theorem dX7_rehearse_26 : decode cX7_rehearse 26 = .ok (.iload_n 1, 1) := by decide +kernel
theorem dX7_rehearse_27 : decode cX7_rehearse 27 = .ok (.bipush 50, 2) := by decide +kernel
theorem dX7_rehearse_29 : decode cX7_rehearse 29 = .ok (.aload_n 0, 1) := by decide +kernel
theorem dX7_rehearse_30 : decode cX7_rehearse 30 = .ok (.getfield 30, 3) := by decide +kernel
theorem dX7_rehearse_33 : decode cX7_rehearse 33 = .ok (.getfield 92, 3) := by decide +kernel
theorem dX7_rehearse_36 : decode cX7_rehearse 36 = .ok (.iload_n 1, 1) := by decide +kernel
theorem dX7_rehearse_37 : decode cX7_rehearse 37 = .ok (.iaload, 1) := by decide +kernel
theorem dX7_rehearse_38 : decode cX7_rehearse 38 = .ok (.iconst 3, 1) := by decide +kernel
theorem dX7_rehearse_39 : decode cX7_rehearse 39 = .ok (.iadd, 1) := by decide +kernel
theorem dX7_rehearse_40 : decode cX7_rehearse 40 = .ok (.invokestatic 95, 3) := by decide +kernel
theorem dX7_rehearse_43 : decode cX7_rehearse 43 = .ok (.iastore, 1) := by decide +kernel
theorem dX7_rehearse_44 : decode cX7_rehearse 44 = .ok (.bipush 8, 2) := by decide +kernel
theorem dX7_rehearse_46 : decode cX7_rehearse 46 = .ok (.iload_n 1, 1) := by decide +kernel
theorem dX7_rehearse_47 : decode cX7_rehearse 47 = .ok (.imul, 1) := by decide +kernel
theorem dX7_rehearse_48 : decode cX7_rehearse 48 = .ok (.istore_n 2, 1) := by decide +kernel
theorem dX7_rehearse_49 : decode cX7_rehearse 49 = .ok (.iload_n 2, 1) := by decide +kernel
theorem dX7_rehearse_50 : decode cX7_rehearse 50 = .ok (.bipush 8, 2) := by decide +kernel
theorem dX7_rehearse_52 : decode cX7_rehearse 52 = .ok (.iload_n 1, 1) := by decide +kernel
theorem dX7_rehearse_53 : decode cX7_rehearse 53 = .ok (.imul, 1) := by decide +kernel
theorem dX7_rehearse_54 : decode cX7_rehearse 54 = .ok (.aload_n 0, 1) := by decide +kernel
theorem dX7_rehearse_55 : decode cX7_rehearse 55 = .ok (.getfield 13, 3) := by decide +kernel
theorem dX7_rehearse_58 : decode cX7_rehearse 58 = .ok (.iload_n 1, 1) := by decide +kernel
theorem dX7_rehearse_59 : decode cX7_rehearse 59 = .ok (.iaload, 1) := by decide +kernel
theorem dX7_rehearse_60 : decode cX7_rehearse 60 = .ok (.iadd, 1) := by decide +kernel
theorem dX7_rehearse_61 : decode cX7_rehearse 61 = .ok (.if_icmp .ge 61, 3) := by decide +kernel
theorem dX7_rehearse_64 : decode cX7_rehearse 64 = .ok (.aload_n 0, 1) := by decide +kernel
theorem dX7_rehearse_65 : decode cX7_rehearse 65 = .ok (.getfield 30, 3) := by decide +kernel
theorem dX7_rehearse_68 : decode cX7_rehearse 68 = .ok (.getfield 66, 3) := by decide +kernel
theorem dX7_rehearse_71 : decode cX7_rehearse 71 = .ok (.iload_n 2, 1) := by decide +kernel
theorem dX7_rehearse_72 : decode cX7_rehearse 72 = .ok (.iaload, 1) := by decide +kernel
theorem dX7_rehearse_73 : decode cX7_rehearse 73 = .ok (.istore_n 3, 1) := by decide +kernel
theorem dX7_rehearse_74 : decode cX7_rehearse 74 = .ok (.iload_n 3, 1) := by decide +kernel
theorem dX7_rehearse_75 : decode cX7_rehearse 75 = .ok (.iconst (-1), 1) := by decide +kernel
theorem dX7_rehearse_76 : decode cX7_rehearse 76 = .ok (.if_icmp .eq 40, 3) := by decide +kernel
theorem dX7_rehearse_79 : decode cX7_rehearse 79 = .ok (.aload_n 0, 1) := by decide +kernel
theorem dX7_rehearse_80 : decode cX7_rehearse 80 = .ok (.getfield 30, 3) := by decide +kernel
theorem dX7_rehearse_83 : decode cX7_rehearse 83 = .ok (.getfield 89, 3) := by decide +kernel
theorem dX7_rehearse_86 : decode cX7_rehearse 86 = .ok (.iload_n 3, 1) := by decide +kernel
theorem dX7_rehearse_87 : decode cX7_rehearse 87 = .ok (.iaload, 1) := by decide +kernel
theorem dX7_rehearse_88 : decode cX7_rehearse 88 = .ok (.ifCond .ne 28, 3) := by decide +kernel
theorem dX7_rehearse_91 : decode cX7_rehearse 91 = .ok (.aload_n 0, 1) := by decide +kernel
theorem dX7_rehearse_92 : decode cX7_rehearse 92 = .ok (.getfield 30, 3) := by decide +kernel
theorem dX7_rehearse_95 : decode cX7_rehearse 95 = .ok (.getfield 101, 3) := by decide +kernel
theorem dX7_rehearse_98 : decode cX7_rehearse 98 = .ok (.iload_n 3, 1) := by decide +kernel
theorem dX7_rehearse_99 : decode cX7_rehearse 99 = .ok (.bipush 100, 2) := by decide +kernel
theorem dX7_rehearse_101 : decode cX7_rehearse 101 = .ok (.aload_n 0, 1) := by decide +kernel
theorem dX7_rehearse_102 : decode cX7_rehearse 102 = .ok (.getfield 30, 3) := by decide +kernel
theorem dX7_rehearse_105 : decode cX7_rehearse 105 = .ok (.getfield 101, 3) := by decide +kernel
theorem dX7_rehearse_108 : decode cX7_rehearse 108 = .ok (.iload_n 3, 1) := by decide +kernel
theorem dX7_rehearse_109 : decode cX7_rehearse 109 = .ok (.iaload, 1) := by decide +kernel
theorem dX7_rehearse_110 : decode cX7_rehearse 110 = .ok (.iconst 5, 1) := by decide +kernel
theorem dX7_rehearse_111 : decode cX7_rehearse 111 = .ok (.iadd, 1) := by decide +kernel
theorem dX7_rehearse_112 : decode cX7_rehearse 112 = .ok (.invokestatic 95, 3) := by decide +kernel
theorem dX7_rehearse_115 : decode cX7_rehearse 115 = .ok (.iastore, 1) := by decide +kernel
theorem dX7_rehearse_116 : decode cX7_rehearse 116 = .ok (.iinc 2 1, 3) := by decide +kernel
theorem dX7_rehearse_119 : decode cX7_rehearse 119 = .ok (.goto (-70), 3) := by decide +kernel
theorem dX7_rehearse_122 : decode cX7_rehearse 122 = .ok (.aload_n 0, 1) := by decide +kernel
theorem dX7_rehearse_123 : decode cX7_rehearse 123 = .ok (.getfield 30, 3) := by decide +kernel
theorem dX7_rehearse_126 : decode cX7_rehearse 126 = .ok (.getfield 92, 3) := by decide +kernel
theorem dX7_rehearse_129 : decode cX7_rehearse 129 = .ok (.iload_n 1, 1) := by decide +kernel
theorem dX7_rehearse_130 : decode cX7_rehearse 130 = .ok (.iaload, 1) := by decide +kernel
theorem dX7_rehearse_131 : decode cX7_rehearse 131 = .ok (.ireturn, 1) := by decide +kernel
theorem dX7_setPiece_0 : decode cX7_setPiece 0 = .ok (.aload_n 0, 1) := by decide +kernel
theorem dX7_setPiece_1 : decode cX7_setPiece 1 = .ok (.iconst 0, 1) := by decide +kernel
theorem dX7_setPiece_2 : decode cX7_setPiece 2 = .ok (.putfield 37, 3) := by decide +kernel
theorem dX7_setPiece_5 : decode cX7_setPiece 5 = .ok (.iload_n 1, 1) := by decide +kernel
theorem dX7_setPiece_6 : decode cX7_setPiece 6 = .ok (.iconst 0, 1) := by decide +kernel
theorem dX7_setPiece_7 : decode cX7_setPiece 7 = .ok (.iconst 3, 1) := by decide +kernel
theorem dX7_setPiece_8 : decode cX7_setPiece 8 = .ok (.invokestatic 44, 3) := by decide +kernel
theorem dX7_setPiece_11 : decode cX7_setPiece 11 = .ok (.ifCond .ne 9, 3) := by decide +kernel
theorem dX7_setPiece_14 : decode cX7_setPiece 14 = .ok (.aload_n 0, 1) := by decide +kernel
theorem dX7_setPiece_15 : decode cX7_setPiece 15 = .ok (.iconst 1, 1) := by decide +kernel
theorem dX7_setPiece_16 : decode cX7_setPiece 16 = .ok (.invokevirtual 55, 3) := by decide +kernel
theorem dX7_setPiece_19 : decode cX7_setPiece 19 = .ok (.ireturn, 1) := by decide +kernel
theorem dX7_setPiece_20 : decode cX7_setPiece 20 = .ok (.iload_n 2, 1) := by decide +kernel
theorem dX7_setPiece_21 : decode cX7_setPiece 21 = .ok (.iconst 0, 1) := by decide +kernel
theorem dX7_setPiece_22 : decode cX7_setPiece 22 = .ok (.bipush 9, 2) := by decide +kernel
theorem dX7_setPiece_24 : decode cX7_setPiece 24 = .ok (.invokestatic 44, 3) := by decide +kernel
theorem dX7_setPiece_27 : decode cX7_setPiece 27 = .ok (.ifCond .ne 9, 3) := by decide +kernel
theorem dX7_setPiece_30 : decode cX7_setPiece 30 = .ok (.aload_n 0, 1) := by decide +kernel
theorem dX7_setPiece_31 : decode cX7_setPiece 31 = .ok (.iconst 2, 1) := by decide +kernel
theorem dX7_setPiece_32 : decode cX7_setPiece 32 = .ok (.invokevirtual 55, 3) := by decide +kernel
theorem dX7_setPiece_35 : decode cX7_setPiece 35 = .ok (.ireturn, 1) := by decide +kernel
theorem dX7_setPiece_36 : decode cX7_setPiece 36 = .ok (.aload_n 0, 1) := by decide +kernel
theorem dX7_setPiece_37 : decode cX7_setPiece 37 = .ok (.getfield 19, 3) := by decide +kernel
theorem dX7_setPiece_40 : decode cX7_setPiece 40 = .ok (.iload_n 1, 1) := by decide +kernel
theorem dX7_setPiece_41 : decode cX7_setPiece 41 = .ok (.iaload, 1) := by decide +kernel
theorem dX7_setPiece_42 : decode cX7_setPiece 42 = .ok (.istore_n 3, 1) := by decide +kernel
theorem dX7_setPiece_43 : decode cX7_setPiece 43 = .ok (.aload_n 0, 1) := by decide +kernel
theorem dX7_setPiece_44 : decode cX7_setPiece 44 = .ok (.getfield 19, 3) := by decide +kernel
theorem dX7_setPiece_47 : decode cX7_setPiece 47 = .ok (.iload_n 1, 1) := by decide +kernel
theorem dX7_setPiece_48 : decode cX7_setPiece 48 = .ok (.iload_n 2, 1) := by decide +kernel
theorem dX7_setPiece_49 : decode cX7_setPiece 49 = .ok (.iastore, 1) := by decide +kernel
theorem dX7_setPiece_50 : decode cX7_setPiece 50 = .ok (.iload_n 3, 1) := by decide +kernel
theorem dX7_setPiece_51 : decode cX7_setPiece 51 = .ok (.ireturn, 1) := by decide +kernel
theorem dX7_setTaste_0 : decode cX7_setTaste 0 = .ok (.aload_n 0, 1) := by decide +kernel
theorem dX7_setTaste_1 : decode cX7_setTaste 1 = .ok (.iconst 0, 1) := by decide +kernel
theorem dX7_setTaste_2 : decode cX7_setTaste 2 = .ok (.putfield 37, 3) := by decide +kernel
theorem dX7_setTaste_5 : decode cX7_setTaste 5 = .ok (.iload_n 1, 1) := by decide +kernel
theorem dX7_setTaste_6 : decode cX7_setTaste 6 = .ok (.iconst 0, 1) := by decide +kernel
theorem dX7_setTaste_7 : decode cX7_setTaste 7 = .ok (.iconst 3, 1) := by decide +kernel
theorem dX7_setTaste_8 : decode cX7_setTaste 8 = .ok (.invokestatic 44, 3) := by decide +kernel
theorem dX7_setTaste_11 : decode cX7_setTaste 11 = .ok (.ifCond .ne 9, 3) := by decide +kernel
theorem dX7_setTaste_14 : decode cX7_setTaste 14 = .ok (.aload_n 0, 1) := by decide +kernel
theorem dX7_setTaste_15 : decode cX7_setTaste 15 = .ok (.iconst 1, 1) := by decide +kernel
theorem dX7_setTaste_16 : decode cX7_setTaste 16 = .ok (.invokevirtual 55, 3) := by decide +kernel
theorem dX7_setTaste_19 : decode cX7_setTaste 19 = .ok (.ireturn, 1) := by decide +kernel
theorem dX7_setTaste_20 : decode cX7_setTaste 20 = .ok (.iload_n 2, 1) := by decide +kernel
theorem dX7_setTaste_21 : decode cX7_setTaste 21 = .ok (.iconst 1, 1) := by decide +kernel
theorem dX7_setTaste_22 : decode cX7_setTaste 22 = .ok (.iconst 5, 1) := by decide +kernel
theorem dX7_setTaste_23 : decode cX7_setTaste 23 = .ok (.invokestatic 44, 3) := by decide +kernel
theorem dX7_setTaste_26 : decode cX7_setTaste 26 = .ok (.ifCond .ne 9, 3) := by decide +kernel
theorem dX7_setTaste_29 : decode cX7_setTaste 29 = .ok (.aload_n 0, 1) := by decide +kernel
theorem dX7_setTaste_30 : decode cX7_setTaste 30 = .ok (.iconst 2, 1) := by decide +kernel
theorem dX7_setTaste_31 : decode cX7_setTaste 31 = .ok (.invokevirtual 55, 3) := by decide +kernel
theorem dX7_setTaste_34 : decode cX7_setTaste 34 = .ok (.ireturn, 1) := by decide +kernel
theorem dX7_setTaste_35 : decode cX7_setTaste 35 = .ok (.aload_n 0, 1) := by decide +kernel
theorem dX7_setTaste_36 : decode cX7_setTaste 36 = .ok (.getfield 22, 3) := by decide +kernel
theorem dX7_setTaste_39 : decode cX7_setTaste 39 = .ok (.iload_n 1, 1) := by decide +kernel
theorem dX7_setTaste_40 : decode cX7_setTaste 40 = .ok (.iaload, 1) := by decide +kernel
theorem dX7_setTaste_41 : decode cX7_setTaste 41 = .ok (.istore_n 3, 1) := by decide +kernel
theorem dX7_setTaste_42 : decode cX7_setTaste 42 = .ok (.aload_n 0, 1) := by decide +kernel
theorem dX7_setTaste_43 : decode cX7_setTaste 43 = .ok (.getfield 22, 3) := by decide +kernel
theorem dX7_setTaste_46 : decode cX7_setTaste 46 = .ok (.iload_n 1, 1) := by decide +kernel
theorem dX7_setTaste_47 : decode cX7_setTaste 47 = .ok (.iload_n 2, 1) := by decide +kernel
theorem dX7_setTaste_48 : decode cX7_setTaste 48 = .ok (.iastore, 1) := by decide +kernel
theorem dX7_setTaste_49 : decode cX7_setTaste 49 = .ok (.iload_n 3, 1) := by decide +kernel
theorem dX7_setTaste_50 : decode cX7_setTaste 50 = .ok (.ireturn, 1) := by decide +kernel
theorem dX7_playerTold_0 : decode cX7_playerTold 0 = .ok (.iload_n 2, 1) := by decide +kernel
theorem dX7_playerTold_1 : decode cX7_playerTold 1 = .ok (.iconst 4, 1) := by decide +kernel
theorem dX7_playerTold_2 : decode cX7_playerTold 2 = .ok (.if_icmp .ge 14, 3) := by decide +kernel
theorem dX7_playerTold_5 : decode cX7_playerTold 5 = .ok (.aload_n 0, 1) := by decide +kernel
theorem dX7_playerTold_6 : decode cX7_playerTold 6 = .ok (.getfield 9, 3) := by decide +kernel
theorem dX7_playerTold_9 : decode cX7_playerTold 9 = .ok (.iconst 4, 1) := by decide +kernel
theorem dX7_playerTold_10 : decode cX7_playerTold 10 = .ok (.iload_n 1, 1) := by decide +kernel
theorem dX7_playerTold_11 : decode cX7_playerTold 11 = .ok (.imul, 1) := by decide +kernel
theorem dX7_playerTold_12 : decode cX7_playerTold 12 = .ok (.iload_n 2, 1) := by decide +kernel
theorem dX7_playerTold_13 : decode cX7_playerTold 13 = .ok (.iadd, 1) := by decide +kernel
theorem dX7_playerTold_14 : decode cX7_playerTold 14 = .ok (.iaload, 1) := by decide +kernel
theorem dX7_playerTold_15 : decode cX7_playerTold 15 = .ok (.ireturn, 1) := by decide +kernel
theorem dX7_playerTold_16 : decode cX7_playerTold 16 = .ok (.aload_n 0, 1) := by decide +kernel
theorem dX7_playerTold_17 : decode cX7_playerTold 17 = .ok (.getfield 30, 3) := by decide +kernel
theorem dX7_playerTold_20 : decode cX7_playerTold 20 = .ok (.iload_n 1, 1) := by decide +kernel
theorem dX7_playerTold_21 : decode cX7_playerTold 21 = .ok (.invokevirtual 82, 3) := by decide +kernel
theorem dX7_playerTold_24 : decode cX7_playerTold 24 = .ok (.istore_n 3, 1) := by decide +kernel
theorem dX7_playerTold_25 : decode cX7_playerTold 25 = .ok (.iload_n 2, 1) := by decide +kernel
theorem dX7_playerTold_26 : decode cX7_playerTold 26 = .ok (.tableswitch 92 4 8 #[34, 44, 54, 68, 82], 34) := by decide +kernel
theorem dX7_playerTold_60 : decode cX7_playerTold 60 = .ok (.aload_n 0, 1) := by decide +kernel
theorem dX7_playerTold_61 : decode cX7_playerTold 61 = .ok (.getfield 30, 3) := by decide +kernel
theorem dX7_playerTold_64 : decode cX7_playerTold 64 = .ok (.getfield 101, 3) := by decide +kernel
theorem dX7_playerTold_67 : decode cX7_playerTold 67 = .ok (.iload_n 1, 1) := by decide +kernel
theorem dX7_playerTold_68 : decode cX7_playerTold 68 = .ok (.iaload, 1) := by decide +kernel
theorem dX7_playerTold_69 : decode cX7_playerTold 69 = .ok (.ireturn, 1) := by decide +kernel
theorem dX7_playerTold_70 : decode cX7_playerTold 70 = .ok (.aload_n 0, 1) := by decide +kernel
theorem dX7_playerTold_71 : decode cX7_playerTold 71 = .ok (.getfield 30, 3) := by decide +kernel
theorem dX7_playerTold_74 : decode cX7_playerTold 74 = .ok (.getfield 89, 3) := by decide +kernel
theorem dX7_playerTold_77 : decode cX7_playerTold 77 = .ok (.iload_n 1, 1) := by decide +kernel
theorem dX7_playerTold_78 : decode cX7_playerTold 78 = .ok (.iaload, 1) := by decide +kernel
theorem dX7_playerTold_79 : decode cX7_playerTold 79 = .ok (.ireturn, 1) := by decide +kernel
theorem dX7_playerTold_80 : decode cX7_playerTold 80 = .ok (.iload_n 3, 1) := by decide +kernel
theorem dX7_playerTold_81 : decode cX7_playerTold 81 = .ok (.iconst (-1), 1) := by decide +kernel
theorem dX7_playerTold_82 : decode cX7_playerTold 82 = .ok (.if_icmp .ne 7, 3) := by decide +kernel
theorem dX7_playerTold_85 : decode cX7_playerTold 85 = .ok (.iconst (-1), 1) := by decide +kernel
theorem dX7_playerTold_86 : decode cX7_playerTold 86 = .ok (.goto 7, 3) := by decide +kernel
theorem dX7_playerTold_89 : decode cX7_playerTold 89 = .ok (.iload_n 3, 1) := by decide +kernel
theorem dX7_playerTold_90 : decode cX7_playerTold 90 = .ok (.bipush 8, 2) := by decide +kernel
theorem dX7_playerTold_92 : decode cX7_playerTold 92 = .ok (.idiv, 1) := by decide +kernel
theorem dX7_playerTold_93 : decode cX7_playerTold 93 = .ok (.ireturn, 1) := by decide +kernel
theorem dX7_playerTold_94 : decode cX7_playerTold 94 = .ok (.iload_n 3, 1) := by decide +kernel
theorem dX7_playerTold_95 : decode cX7_playerTold 95 = .ok (.iconst (-1), 1) := by decide +kernel
theorem dX7_playerTold_96 : decode cX7_playerTold 96 = .ok (.if_icmp .ne 7, 3) := by decide +kernel
theorem dX7_playerTold_99 : decode cX7_playerTold 99 = .ok (.iconst (-1), 1) := by decide +kernel
theorem dX7_playerTold_100 : decode cX7_playerTold 100 = .ok (.goto 7, 3) := by decide +kernel
theorem dX7_playerTold_103 : decode cX7_playerTold 103 = .ok (.iload_n 3, 1) := by decide +kernel
theorem dX7_playerTold_104 : decode cX7_playerTold 104 = .ok (.bipush 8, 2) := by decide +kernel
theorem dX7_playerTold_106 : decode cX7_playerTold 106 = .ok (.irem, 1) := by decide +kernel
theorem dX7_playerTold_107 : decode cX7_playerTold 107 = .ok (.ireturn, 1) := by decide +kernel
theorem dX7_playerTold_108 : decode cX7_playerTold 108 = .ok (.aload_n 0, 1) := by decide +kernel
theorem dX7_playerTold_109 : decode cX7_playerTold 109 = .ok (.getfield 30, 3) := by decide +kernel
theorem dX7_playerTold_112 : decode cX7_playerTold 112 = .ok (.getfield 104, 3) := by decide +kernel
theorem dX7_playerTold_115 : decode cX7_playerTold 115 = .ok (.iload_n 1, 1) := by decide +kernel
theorem dX7_playerTold_116 : decode cX7_playerTold 116 = .ok (.iaload, 1) := by decide +kernel
theorem dX7_playerTold_117 : decode cX7_playerTold 117 = .ok (.ireturn, 1) := by decide +kernel
theorem dX7_playerTold_118 : decode cX7_playerTold 118 = .ok (.aload_n 0, 1) := by decide +kernel
theorem dX7_playerTold_119 : decode cX7_playerTold 119 = .ok (.getfield 30, 3) := by decide +kernel
theorem dX7_playerTold_122 : decode cX7_playerTold 122 = .ok (.getfield 107, 3) := by decide +kernel
theorem dX7_playerTold_125 : decode cX7_playerTold 125 = .ok (.iload_n 1, 1) := by decide +kernel
theorem dX7_playerTold_126 : decode cX7_playerTold 126 = .ok (.iaload, 1) := by decide +kernel
theorem dX7_playerTold_127 : decode cX7_playerTold 127 = .ok (.ireturn, 1) := by decide +kernel
theorem dX7_player_0 : decode cX7_player 0 = .ok (.aload_n 0, 1) := by decide +kernel
theorem dX7_player_1 : decode cX7_player 1 = .ok (.iconst 0, 1) := by decide +kernel
theorem dX7_player_2 : decode cX7_player 2 = .ok (.putfield 37, 3) := by decide +kernel
theorem dX7_player_5 : decode cX7_player 5 = .ok (.aload_n 0, 1) := by decide +kernel
theorem dX7_player_6 : decode cX7_player 6 = .ok (.iload_n 1, 1) := by decide +kernel
theorem dX7_player_7 : decode cX7_player 7 = .ok (.invokevirtual 79, 3) := by decide +kernel
theorem dX7_player_10 : decode cX7_player 10 = .ok (.ifCond .eq 22, 3) := by decide +kernel
theorem dX7_player_13 : decode cX7_player 13 = .ok (.iload_n 2, 1) := by decide +kernel
theorem dX7_player_14 : decode cX7_player 14 = .ok (.iconst 0, 1) := by decide +kernel
theorem dX7_player_15 : decode cX7_player 15 = .ok (.bipush 9, 2) := by decide +kernel
theorem dX7_player_17 : decode cX7_player 17 = .ok (.invokestatic 44, 3) := by decide +kernel
theorem dX7_player_20 : decode cX7_player 20 = .ok (.ifCond .eq 12, 3) := by decide +kernel
theorem dX7_player_23 : decode cX7_player 23 = .ok (.aload_n 0, 1) := by decide +kernel
theorem dX7_player_24 : decode cX7_player 24 = .ok (.iload_n 1, 1) := by decide +kernel
theorem dX7_player_25 : decode cX7_player 25 = .ok (.iload_n 2, 1) := by decide +kernel
theorem dX7_player_26 : decode cX7_player 26 = .ok (.invokevirtual 110, 3) := by decide +kernel
theorem dX7_player_29 : decode cX7_player 29 = .ok (.goto 8, 3) := by decide +kernel
theorem dX7_player_32 : decode cX7_player 32 = .ok (.aload_n 0, 1) := by decide +kernel
theorem dX7_player_33 : decode cX7_player 33 = .ok (.iconst 1, 1) := by decide +kernel
theorem dX7_player_34 : decode cX7_player 34 = .ok (.invokevirtual 55, 3) := by decide +kernel
theorem dX7_player_37 : decode cX7_player 37 = .ok (.ireturn, 1) := by decide +kernel
theorem dX7_bandTold_0 : decode cX7_bandTold 0 = .ok (.bipush 9, 2) := by decide +kernel
theorem dX7_bandTold_2 : decode cX7_bandTold 2 = .ok (.newarray .int, 2) := by decide +kernel
theorem dX7_bandTold_4 : decode cX7_bandTold 4 = .ok (.dup, 1) := by decide +kernel
theorem dX7_bandTold_5 : decode cX7_bandTold 5 = .ok (.iconst 0, 1) := by decide +kernel
theorem dX7_bandTold_6 : decode cX7_bandTold 6 = .ok (.aload_n 0, 1) := by decide +kernel
theorem dX7_bandTold_7 : decode cX7_bandTold 7 = .ok (.getfield 13, 3) := by decide +kernel
theorem dX7_bandTold_10 : decode cX7_bandTold 10 = .ok (.iload_n 1, 1) := by decide +kernel
theorem dX7_bandTold_11 : decode cX7_bandTold 11 = .ok (.iaload, 1) := by decide +kernel
theorem dX7_bandTold_12 : decode cX7_bandTold 12 = .ok (.iastore, 1) := by decide +kernel
theorem dX7_bandTold_13 : decode cX7_bandTold 13 = .ok (.dup, 1) := by decide +kernel
theorem dX7_bandTold_14 : decode cX7_bandTold 14 = .ok (.iconst 1, 1) := by decide +kernel
theorem dX7_bandTold_15 : decode cX7_bandTold 15 = .ok (.aload_n 0, 1) := by decide +kernel
theorem dX7_bandTold_16 : decode cX7_bandTold 16 = .ok (.getfield 30, 3) := by decide +kernel
theorem dX7_bandTold_19 : decode cX7_bandTold 19 = .ok (.iload_n 1, 1) := by decide +kernel
theorem dX7_bandTold_20 : decode cX7_bandTold 20 = .ok (.invokevirtual 113, 3) := by decide +kernel
theorem dX7_bandTold_23 : decode cX7_bandTold 23 = .ok (.iastore, 1) := by decide +kernel
theorem dX7_bandTold_24 : decode cX7_bandTold 24 = .ok (.dup, 1) := by decide +kernel
theorem dX7_bandTold_25 : decode cX7_bandTold 25 = .ok (.iconst 2, 1) := by decide +kernel
theorem dX7_bandTold_26 : decode cX7_bandTold 26 = .ok (.aload_n 0, 1) := by decide +kernel
theorem dX7_bandTold_27 : decode cX7_bandTold 27 = .ok (.getfield 30, 3) := by decide +kernel
theorem dX7_bandTold_30 : decode cX7_bandTold 30 = .ok (.getfield 92, 3) := by decide +kernel
theorem dX7_bandTold_33 : decode cX7_bandTold 33 = .ok (.iload_n 1, 1) := by decide +kernel
theorem dX7_bandTold_34 : decode cX7_bandTold 34 = .ok (.iaload, 1) := by decide +kernel
theorem dX7_bandTold_35 : decode cX7_bandTold 35 = .ok (.iastore, 1) := by decide +kernel
theorem dX7_bandTold_36 : decode cX7_bandTold 36 = .ok (.dup, 1) := by decide +kernel
theorem dX7_bandTold_37 : decode cX7_bandTold 37 = .ok (.iconst 3, 1) := by decide +kernel
theorem dX7_bandTold_38 : decode cX7_bandTold 38 = .ok (.aload_n 0, 1) := by decide +kernel
theorem dX7_bandTold_39 : decode cX7_bandTold 39 = .ok (.getfield 30, 3) := by decide +kernel
theorem dX7_bandTold_42 : decode cX7_bandTold 42 = .ok (.getfield 72, 3) := by decide +kernel
theorem dX7_bandTold_45 : decode cX7_bandTold 45 = .ok (.iconst 4, 1) := by decide +kernel
theorem dX7_bandTold_46 : decode cX7_bandTold 46 = .ok (.iload_n 1, 1) := by decide +kernel
theorem dX7_bandTold_47 : decode cX7_bandTold 47 = .ok (.imul, 1) := by decide +kernel
theorem dX7_bandTold_48 : decode cX7_bandTold 48 = .ok (.iaload, 1) := by decide +kernel
theorem dX7_bandTold_49 : decode cX7_bandTold 49 = .ok (.iastore, 1) := by decide +kernel
theorem dX7_bandTold_50 : decode cX7_bandTold 50 = .ok (.dup, 1) := by decide +kernel
theorem dX7_bandTold_51 : decode cX7_bandTold 51 = .ok (.iconst 4, 1) := by decide +kernel
theorem dX7_bandTold_52 : decode cX7_bandTold 52 = .ok (.aload_n 0, 1) := by decide +kernel
theorem dX7_bandTold_53 : decode cX7_bandTold 53 = .ok (.getfield 30, 3) := by decide +kernel
theorem dX7_bandTold_56 : decode cX7_bandTold 56 = .ok (.getfield 72, 3) := by decide +kernel
theorem dX7_bandTold_59 : decode cX7_bandTold 59 = .ok (.iconst 4, 1) := by decide +kernel
theorem dX7_bandTold_60 : decode cX7_bandTold 60 = .ok (.iload_n 1, 1) := by decide +kernel
theorem dX7_bandTold_61 : decode cX7_bandTold 61 = .ok (.imul, 1) := by decide +kernel
theorem dX7_bandTold_62 : decode cX7_bandTold 62 = .ok (.iconst 1, 1) := by decide +kernel
theorem dX7_bandTold_63 : decode cX7_bandTold 63 = .ok (.iadd, 1) := by decide +kernel
theorem dX7_bandTold_64 : decode cX7_bandTold 64 = .ok (.iaload, 1) := by decide +kernel
theorem dX7_bandTold_65 : decode cX7_bandTold 65 = .ok (.iastore, 1) := by decide +kernel
theorem dX7_bandTold_66 : decode cX7_bandTold 66 = .ok (.dup, 1) := by decide +kernel
theorem dX7_bandTold_67 : decode cX7_bandTold 67 = .ok (.iconst 5, 1) := by decide +kernel
theorem dX7_bandTold_68 : decode cX7_bandTold 68 = .ok (.aload_n 0, 1) := by decide +kernel
theorem dX7_bandTold_69 : decode cX7_bandTold 69 = .ok (.getfield 30, 3) := by decide +kernel
theorem dX7_bandTold_72 : decode cX7_bandTold 72 = .ok (.getfield 72, 3) := by decide +kernel
theorem dX7_bandTold_75 : decode cX7_bandTold 75 = .ok (.iconst 4, 1) := by decide +kernel
theorem dX7_bandTold_76 : decode cX7_bandTold 76 = .ok (.iload_n 1, 1) := by decide +kernel
theorem dX7_bandTold_77 : decode cX7_bandTold 77 = .ok (.imul, 1) := by decide +kernel
theorem dX7_bandTold_78 : decode cX7_bandTold 78 = .ok (.iconst 2, 1) := by decide +kernel
theorem dX7_bandTold_79 : decode cX7_bandTold 79 = .ok (.iadd, 1) := by decide +kernel
theorem dX7_bandTold_80 : decode cX7_bandTold 80 = .ok (.iaload, 1) := by decide +kernel
theorem dX7_bandTold_81 : decode cX7_bandTold 81 = .ok (.iastore, 1) := by decide +kernel
theorem dX7_bandTold_82 : decode cX7_bandTold 82 = .ok (.dup, 1) := by decide +kernel
theorem dX7_bandTold_83 : decode cX7_bandTold 83 = .ok (.bipush 6, 2) := by decide +kernel
theorem dX7_bandTold_85 : decode cX7_bandTold 85 = .ok (.aload_n 0, 1) := by decide +kernel
theorem dX7_bandTold_86 : decode cX7_bandTold 86 = .ok (.getfield 30, 3) := by decide +kernel
theorem dX7_bandTold_89 : decode cX7_bandTold 89 = .ok (.getfield 72, 3) := by decide +kernel
theorem dX7_bandTold_92 : decode cX7_bandTold 92 = .ok (.iconst 4, 1) := by decide +kernel
theorem dX7_bandTold_93 : decode cX7_bandTold 93 = .ok (.iload_n 1, 1) := by decide +kernel
theorem dX7_bandTold_94 : decode cX7_bandTold 94 = .ok (.imul, 1) := by decide +kernel
theorem dX7_bandTold_95 : decode cX7_bandTold 95 = .ok (.iconst 3, 1) := by decide +kernel
theorem dX7_bandTold_96 : decode cX7_bandTold 96 = .ok (.iadd, 1) := by decide +kernel
theorem dX7_bandTold_97 : decode cX7_bandTold 97 = .ok (.iaload, 1) := by decide +kernel
theorem dX7_bandTold_98 : decode cX7_bandTold 98 = .ok (.iastore, 1) := by decide +kernel
theorem dX7_bandTold_99 : decode cX7_bandTold 99 = .ok (.dup, 1) := by decide +kernel
theorem dX7_bandTold_100 : decode cX7_bandTold 100 = .ok (.bipush 7, 2) := by decide +kernel
theorem dX7_bandTold_102 : decode cX7_bandTold 102 = .ok (.aload_n 0, 1) := by decide +kernel
theorem dX7_bandTold_103 : decode cX7_bandTold 103 = .ok (.getfield 30, 3) := by decide +kernel
theorem dX7_bandTold_106 : decode cX7_bandTold 106 = .ok (.getfield 116, 3) := by decide +kernel
theorem dX7_bandTold_109 : decode cX7_bandTold 109 = .ok (.iload_n 1, 1) := by decide +kernel
theorem dX7_bandTold_110 : decode cX7_bandTold 110 = .ok (.iaload, 1) := by decide +kernel
theorem dX7_bandTold_111 : decode cX7_bandTold 111 = .ok (.iastore, 1) := by decide +kernel
theorem dX7_bandTold_112 : decode cX7_bandTold 112 = .ok (.dup, 1) := by decide +kernel
theorem dX7_bandTold_113 : decode cX7_bandTold 113 = .ok (.bipush 8, 2) := by decide +kernel
theorem dX7_bandTold_115 : decode cX7_bandTold 115 = .ok (.aload_n 0, 1) := by decide +kernel
theorem dX7_bandTold_116 : decode cX7_bandTold 116 = .ok (.getfield 30, 3) := by decide +kernel
theorem dX7_bandTold_119 : decode cX7_bandTold 119 = .ok (.getfield 119, 3) := by decide +kernel
theorem dX7_bandTold_122 : decode cX7_bandTold 122 = .ok (.iload_n 1, 1) := by decide +kernel
theorem dX7_bandTold_123 : decode cX7_bandTold 123 = .ok (.iaload, 1) := by decide +kernel
theorem dX7_bandTold_124 : decode cX7_bandTold 124 = .ok (.iastore, 1) := by decide +kernel
theorem dX7_bandTold_125 : decode cX7_bandTold 125 = .ok (.astore_n 3, 1) := by decide +kernel
theorem dX7_bandTold_126 : decode cX7_bandTold 126 = .ok (.aload_n 3, 1) := by decide +kernel
theorem dX7_bandTold_127 : decode cX7_bandTold 127 = .ok (.iload_n 2, 1) := by decide +kernel
theorem dX7_bandTold_128 : decode cX7_bandTold 128 = .ok (.iaload, 1) := by decide +kernel
theorem dX7_bandTold_129 : decode cX7_bandTold 129 = .ok (.ireturn, 1) := by decide +kernel
theorem dX7_band_0 : decode cX7_band 0 = .ok (.aload_n 0, 1) := by decide +kernel
theorem dX7_band_1 : decode cX7_band 1 = .ok (.iconst 0, 1) := by decide +kernel
theorem dX7_band_2 : decode cX7_band 2 = .ok (.putfield 37, 3) := by decide +kernel
theorem dX7_band_5 : decode cX7_band 5 = .ok (.aload_n 0, 1) := by decide +kernel
theorem dX7_band_6 : decode cX7_band 6 = .ok (.iload_n 1, 1) := by decide +kernel
theorem dX7_band_7 : decode cX7_band 7 = .ok (.invokevirtual 51, 3) := by decide +kernel
theorem dX7_band_10 : decode cX7_band 10 = .ok (.ifCond .eq 22, 3) := by decide +kernel
theorem dX7_band_13 : decode cX7_band 13 = .ok (.iload_n 2, 1) := by decide +kernel
theorem dX7_band_14 : decode cX7_band 14 = .ok (.iconst 0, 1) := by decide +kernel
theorem dX7_band_15 : decode cX7_band 15 = .ok (.bipush 8, 2) := by decide +kernel
theorem dX7_band_17 : decode cX7_band 17 = .ok (.invokestatic 44, 3) := by decide +kernel
theorem dX7_band_20 : decode cX7_band 20 = .ok (.ifCond .eq 12, 3) := by decide +kernel
theorem dX7_band_23 : decode cX7_band 23 = .ok (.aload_n 0, 1) := by decide +kernel
theorem dX7_band_24 : decode cX7_band 24 = .ok (.iload_n 1, 1) := by decide +kernel
theorem dX7_band_25 : decode cX7_band 25 = .ok (.iload_n 2, 1) := by decide +kernel
theorem dX7_band_26 : decode cX7_band 26 = .ok (.invokevirtual 122, 3) := by decide +kernel
theorem dX7_band_29 : decode cX7_band 29 = .ok (.goto 8, 3) := by decide +kernel
theorem dX7_band_32 : decode cX7_band 32 = .ok (.aload_n 0, 1) := by decide +kernel
theorem dX7_band_33 : decode cX7_band 33 = .ok (.iconst 1, 1) := by decide +kernel
theorem dX7_band_34 : decode cX7_band 34 = .ok (.invokevirtual 55, 3) := by decide +kernel
theorem dX7_band_37 : decode cX7_band 37 = .ok (.ireturn, 1) := by decide +kernel
theorem dX7_chairTold_0 : decode cX7_chairTold 0 = .ok (.iload_n 2, 1) := by decide +kernel
theorem dX7_chairTold_1 : decode cX7_chairTold 1 = .ok (.ifCond .ne 12, 3) := by decide +kernel
theorem dX7_chairTold_4 : decode cX7_chairTold 4 = .ok (.aload_n 0, 1) := by decide +kernel
theorem dX7_chairTold_5 : decode cX7_chairTold 5 = .ok (.getfield 16, 3) := by decide +kernel
theorem dX7_chairTold_8 : decode cX7_chairTold 8 = .ok (.iload_n 1, 1) := by decide +kernel
theorem dX7_chairTold_9 : decode cX7_chairTold 9 = .ok (.iaload, 1) := by decide +kernel
theorem dX7_chairTold_10 : decode cX7_chairTold 10 = .ok (.goto 29, 3) := by decide +kernel
theorem dX7_chairTold_13 : decode cX7_chairTold 13 = .ok (.iload_n 2, 1) := by decide +kernel
theorem dX7_chairTold_14 : decode cX7_chairTold 14 = .ok (.iconst 1, 1) := by decide +kernel
theorem dX7_chairTold_15 : decode cX7_chairTold 15 = .ok (.if_icmp .ne 15, 3) := by decide +kernel
theorem dX7_chairTold_18 : decode cX7_chairTold 18 = .ok (.aload_n 0, 1) := by decide +kernel
theorem dX7_chairTold_19 : decode cX7_chairTold 19 = .ok (.getfield 30, 3) := by decide +kernel
theorem dX7_chairTold_22 : decode cX7_chairTold 22 = .ok (.getfield 66, 3) := by decide +kernel
theorem dX7_chairTold_25 : decode cX7_chairTold 25 = .ok (.iload_n 1, 1) := by decide +kernel
theorem dX7_chairTold_26 : decode cX7_chairTold 26 = .ok (.iaload, 1) := by decide +kernel
theorem dX7_chairTold_27 : decode cX7_chairTold 27 = .ok (.goto 12, 3) := by decide +kernel
theorem dX7_chairTold_30 : decode cX7_chairTold 30 = .ok (.aload_n 0, 1) := by decide +kernel
theorem dX7_chairTold_31 : decode cX7_chairTold 31 = .ok (.getfield 30, 3) := by decide +kernel
theorem dX7_chairTold_34 : decode cX7_chairTold 34 = .ok (.getfield 69, 3) := by decide +kernel
theorem dX7_chairTold_37 : decode cX7_chairTold 37 = .ok (.iload_n 1, 1) := by decide +kernel
theorem dX7_chairTold_38 : decode cX7_chairTold 38 = .ok (.iaload, 1) := by decide +kernel
theorem dX7_chairTold_39 : decode cX7_chairTold 39 = .ok (.ireturn, 1) := by decide +kernel
theorem dX7_chair_0 : decode cX7_chair 0 = .ok (.aload_n 0, 1) := by decide +kernel
theorem dX7_chair_1 : decode cX7_chair 1 = .ok (.iconst 0, 1) := by decide +kernel
theorem dX7_chair_2 : decode cX7_chair 2 = .ok (.putfield 37, 3) := by decide +kernel
theorem dX7_chair_5 : decode cX7_chair 5 = .ok (.aload_n 0, 1) := by decide +kernel
theorem dX7_chair_6 : decode cX7_chair 6 = .ok (.iload_n 1, 1) := by decide +kernel
theorem dX7_chair_7 : decode cX7_chair 7 = .ok (.iload_n 2, 1) := by decide +kernel
theorem dX7_chair_8 : decode cX7_chair 8 = .ok (.invokevirtual 75, 3) := by decide +kernel
theorem dX7_chair_11 : decode cX7_chair 11 = .ok (.ifCond .eq 26, 3) := by decide +kernel
theorem dX7_chair_14 : decode cX7_chair 14 = .ok (.iload_n 3, 1) := by decide +kernel
theorem dX7_chair_15 : decode cX7_chair 15 = .ok (.iconst 0, 1) := by decide +kernel
theorem dX7_chair_16 : decode cX7_chair 16 = .ok (.iconst 2, 1) := by decide +kernel
theorem dX7_chair_17 : decode cX7_chair 17 = .ok (.invokestatic 44, 3) := by decide +kernel
theorem dX7_chair_20 : decode cX7_chair 20 = .ok (.ifCond .eq 17, 3) := by decide +kernel
theorem dX7_chair_23 : decode cX7_chair 23 = .ok (.aload_n 0, 1) := by decide +kernel
theorem dX7_chair_24 : decode cX7_chair 24 = .ok (.bipush 8, 2) := by decide +kernel
theorem dX7_chair_26 : decode cX7_chair 26 = .ok (.iload_n 1, 1) := by decide +kernel
theorem dX7_chair_27 : decode cX7_chair 27 = .ok (.imul, 1) := by decide +kernel
theorem dX7_chair_28 : decode cX7_chair 28 = .ok (.iload_n 2, 1) := by decide +kernel
theorem dX7_chair_29 : decode cX7_chair 29 = .ok (.iadd, 1) := by decide +kernel
theorem dX7_chair_30 : decode cX7_chair 30 = .ok (.iload_n 3, 1) := by decide +kernel
theorem dX7_chair_31 : decode cX7_chair 31 = .ok (.invokevirtual 125, 3) := by decide +kernel
theorem dX7_chair_34 : decode cX7_chair 34 = .ok (.goto 8, 3) := by decide +kernel
theorem dX7_chair_37 : decode cX7_chair 37 = .ok (.aload_n 0, 1) := by decide +kernel
theorem dX7_chair_38 : decode cX7_chair 38 = .ok (.iconst 1, 1) := by decide +kernel
theorem dX7_chair_39 : decode cX7_chair 39 = .ok (.invokevirtual 55, 3) := by decide +kernel
theorem dX7_chair_42 : decode cX7_chair 42 = .ok (.ireturn, 1) := by decide +kernel
theorem dX7_contest_0 : decode cX7_contest 0 = .ok (.aload_n 0, 1) := by decide +kernel
theorem dX7_contest_1 : decode cX7_contest 1 = .ok (.iconst 0, 1) := by decide +kernel
theorem dX7_contest_2 : decode cX7_contest 2 = .ok (.putfield 37, 3) := by decide +kernel
theorem dX7_contest_5 : decode cX7_contest 5 = .ok (.aload_n 0, 1) := by decide +kernel
theorem dX7_contest_6 : decode cX7_contest 6 = .ok (.getfield 48, 3) := by decide +kernel
theorem dX7_contest_9 : decode cX7_contest 9 = .ok (.ifCond .ne 11, 3) := by decide +kernel
theorem dX7_contest_12 : decode cX7_contest 12 = .ok (.aload_n 0, 1) := by decide +kernel
theorem dX7_contest_13 : decode cX7_contest 13 = .ok (.iconst 1, 1) := by decide +kernel
theorem dX7_contest_14 : decode cX7_contest 14 = .ok (.invokevirtual 55, 3) := by decide +kernel
theorem dX7_contest_17 : decode cX7_contest 17 = .ok (.goto 10, 3) := by decide +kernel
theorem dX7_contest_20 : decode cX7_contest 20 = .ok (.aload_n 0, 1) := by decide +kernel
theorem dX7_contest_21 : decode cX7_contest 21 = .ok (.getfield 30, 3) := by decide +kernel
theorem dX7_contest_24 : decode cX7_contest 24 = .ok (.invokevirtual 128, 3) := by decide +kernel
theorem dX7_contest_27 : decode cX7_contest 27 = .ok (.ireturn, 1) := by decide +kernel
theorem dX7_rank_0 : decode cX7_rank 0 = .ok (.aload_n 0, 1) := by decide +kernel
theorem dX7_rank_1 : decode cX7_rank 1 = .ok (.iconst 0, 1) := by decide +kernel
theorem dX7_rank_2 : decode cX7_rank 2 = .ok (.putfield 37, 3) := by decide +kernel
theorem dX7_rank_5 : decode cX7_rank 5 = .ok (.aload_n 0, 1) := by decide +kernel
theorem dX7_rank_6 : decode cX7_rank 6 = .ok (.iload_n 1, 1) := by decide +kernel
theorem dX7_rank_7 : decode cX7_rank 7 = .ok (.invokevirtual 51, 3) := by decide +kernel
theorem dX7_rank_10 : decode cX7_rank 10 = .ok (.ifCond .ne 9, 3) := by decide +kernel
theorem dX7_rank_13 : decode cX7_rank 13 = .ok (.aload_n 0, 1) := by decide +kernel
theorem dX7_rank_14 : decode cX7_rank 14 = .ok (.iconst 1, 1) := by decide +kernel
theorem dX7_rank_15 : decode cX7_rank 15 = .ok (.invokevirtual 55, 3) := by decide +kernel
theorem dX7_rank_18 : decode cX7_rank 18 = .ok (.ireturn, 1) := by decide +kernel
theorem dX7_rank_19 : decode cX7_rank 19 = .ok (.iconst 0, 1) := by decide +kernel
theorem dX7_rank_20 : decode cX7_rank 20 = .ok (.istore_n 2, 1) := by decide +kernel
theorem dX7_rank_21 : decode cX7_rank 21 = .ok (.iload_n 2, 1) := by decide +kernel
theorem dX7_rank_22 : decode cX7_rank 22 = .ok (.aload_n 0, 1) := by decide +kernel
theorem dX7_rank_23 : decode cX7_rank 23 = .ok (.getfield 48, 3) := by decide +kernel
theorem dX7_rank_26 : decode cX7_rank 26 = .ok (.if_icmp .ge 94, 3) := by decide +kernel
theorem dX7_rank_29 : decode cX7_rank 29 = .ok (.iconst 0, 1) := by decide +kernel
theorem dX7_rank_30 : decode cX7_rank 30 = .ok (.istore_n 3, 1) := by decide +kernel
theorem dX7_rank_31 : decode cX7_rank 31 = .ok (.iconst 0, 1) := by decide +kernel
theorem dX7_rank_32 : decode cX7_rank 32 = .ok (.istore 4, 2) := by decide +kernel
theorem dX7_rank_34 : decode cX7_rank 34 = .ok (.iload 4, 2) := by decide +kernel
theorem dX7_rank_36 : decode cX7_rank 36 = .ok (.aload_n 0, 1) := by decide +kernel
theorem dX7_rank_37 : decode cX7_rank 37 = .ok (.getfield 48, 3) := by decide +kernel
theorem dX7_rank_40 : decode cX7_rank 40 = .ok (.if_icmp .ge 67, 3) := by decide +kernel
theorem dX7_rank_43 : decode cX7_rank 43 = .ok (.iload_n 3, 1) := by decide +kernel
theorem dX7_rank_44 : decode cX7_rank 44 = .ok (.aload_n 0, 1) := by decide +kernel
theorem dX7_rank_45 : decode cX7_rank 45 = .ok (.getfield 30, 3) := by decide +kernel
theorem dX7_rank_48 : decode cX7_rank 48 = .ok (.getfield 116, 3) := by decide +kernel
theorem dX7_rank_51 : decode cX7_rank 51 = .ok (.iload 4, 2) := by decide +kernel
theorem dX7_rank_53 : decode cX7_rank 53 = .ok (.iaload, 1) := by decide +kernel
theorem dX7_rank_54 : decode cX7_rank 54 = .ok (.aload_n 0, 1) := by decide +kernel
theorem dX7_rank_55 : decode cX7_rank 55 = .ok (.getfield 30, 3) := by decide +kernel
theorem dX7_rank_58 : decode cX7_rank 58 = .ok (.getfield 116, 3) := by decide +kernel
theorem dX7_rank_61 : decode cX7_rank 61 = .ok (.iload_n 2, 1) := by decide +kernel
theorem dX7_rank_62 : decode cX7_rank 62 = .ok (.iaload, 1) := by decide +kernel
theorem dX7_rank_63 : decode cX7_rank 63 = .ok (.if_icmp .gt 31, 3) := by decide +kernel
theorem dX7_rank_66 : decode cX7_rank 66 = .ok (.aload_n 0, 1) := by decide +kernel
theorem dX7_rank_67 : decode cX7_rank 67 = .ok (.getfield 30, 3) := by decide +kernel
theorem dX7_rank_70 : decode cX7_rank 70 = .ok (.getfield 116, 3) := by decide +kernel
theorem dX7_rank_73 : decode cX7_rank 73 = .ok (.iload 4, 2) := by decide +kernel
theorem dX7_rank_75 : decode cX7_rank 75 = .ok (.iaload, 1) := by decide +kernel
theorem dX7_rank_76 : decode cX7_rank 76 = .ok (.aload_n 0, 1) := by decide +kernel
theorem dX7_rank_77 : decode cX7_rank 77 = .ok (.getfield 30, 3) := by decide +kernel
theorem dX7_rank_80 : decode cX7_rank 80 = .ok (.getfield 116, 3) := by decide +kernel
theorem dX7_rank_83 : decode cX7_rank 83 = .ok (.iload_n 2, 1) := by decide +kernel
theorem dX7_rank_84 : decode cX7_rank 84 = .ok (.iaload, 1) := by decide +kernel
theorem dX7_rank_85 : decode cX7_rank 85 = .ok (.if_icmp .ne 13, 3) := by decide +kernel
theorem dX7_rank_88 : decode cX7_rank 88 = .ok (.iload 4, 2) := by decide +kernel
theorem dX7_rank_90 : decode cX7_rank 90 = .ok (.iload_n 2, 1) := by decide +kernel
theorem dX7_rank_91 : decode cX7_rank 91 = .ok (.if_icmp .ge 7, 3) := by decide +kernel
theorem dX7_rank_94 : decode cX7_rank 94 = .ok (.iconst 1, 1) := by decide +kernel
theorem dX7_rank_95 : decode cX7_rank 95 = .ok (.goto 4, 3) := by decide +kernel
theorem dX7_rank_98 : decode cX7_rank 98 = .ok (.iconst 0, 1) := by decide +kernel
theorem dX7_rank_99 : decode cX7_rank 99 = .ok (.iadd, 1) := by decide +kernel
theorem dX7_rank_100 : decode cX7_rank 100 = .ok (.istore_n 3, 1) := by decide +kernel
theorem dX7_rank_101 : decode cX7_rank 101 = .ok (.iinc 4 1, 3) := by decide +kernel
theorem dX7_rank_104 : decode cX7_rank 104 = .ok (.goto (-70), 3) := by decide +kernel
theorem dX7_rank_107 : decode cX7_rank 107 = .ok (.iload_n 3, 1) := by decide +kernel
theorem dX7_rank_108 : decode cX7_rank 108 = .ok (.iload_n 1, 1) := by decide +kernel
theorem dX7_rank_109 : decode cX7_rank 109 = .ok (.if_icmp .ne 5, 3) := by decide +kernel
theorem dX7_rank_112 : decode cX7_rank 112 = .ok (.iload_n 2, 1) := by decide +kernel
theorem dX7_rank_113 : decode cX7_rank 113 = .ok (.ireturn, 1) := by decide +kernel
theorem dX7_rank_114 : decode cX7_rank 114 = .ok (.iinc 2 1, 3) := by decide +kernel
theorem dX7_rank_117 : decode cX7_rank 117 = .ok (.goto (-96), 3) := by decide +kernel
theorem dX7_rank_120 : decode cX7_rank 120 = .ok (.iconst (-1), 1) := by decide +kernel
theorem dX7_rank_121 : decode cX7_rank 121 = .ok (.ireturn, 1) := by decide +kernel
theorem dX7_counted_0 : decode cX7_counted 0 = .ok (.iconst 0, 1) := by decide +kernel
theorem dX7_counted_1 : decode cX7_counted 1 = .ok (.istore_n 2, 1) := by decide +kernel
theorem dX7_counted_2 : decode cX7_counted 2 = .ok (.iconst 0, 1) := by decide +kernel
theorem dX7_counted_3 : decode cX7_counted 3 = .ok (.istore_n 3, 1) := by decide +kernel
theorem dX7_counted_4 : decode cX7_counted 4 = .ok (.iconst 0, 1) := by decide +kernel
theorem dX7_counted_5 : decode cX7_counted 5 = .ok (.istore 4, 2) := by decide +kernel
theorem dX7_counted_7 : decode cX7_counted 7 = .ok (.iload 4, 2) := by decide +kernel
theorem dX7_counted_9 : decode cX7_counted 9 = .ok (.aload_n 0, 1) := by decide +kernel
theorem dX7_counted_10 : decode cX7_counted 10 = .ok (.getfield 48, 3) := by decide +kernel
theorem dX7_counted_13 : decode cX7_counted 13 = .ok (.if_icmp .ge 21, 3) := by decide +kernel
theorem dX7_counted_16 : decode cX7_counted 16 = .ok (.iload_n 2, 1) := by decide +kernel
theorem dX7_counted_17 : decode cX7_counted 17 = .ok (.aload_n 0, 1) := by decide +kernel
theorem dX7_counted_18 : decode cX7_counted 18 = .ok (.getfield 30, 3) := by decide +kernel
theorem dX7_counted_21 : decode cX7_counted 21 = .ok (.iload 4, 2) := by decide +kernel
theorem dX7_counted_23 : decode cX7_counted 23 = .ok (.invokevirtual 113, 3) := by decide +kernel
theorem dX7_counted_26 : decode cX7_counted 26 = .ok (.iadd, 1) := by decide +kernel
theorem dX7_counted_27 : decode cX7_counted 27 = .ok (.istore_n 2, 1) := by decide +kernel
theorem dX7_counted_28 : decode cX7_counted 28 = .ok (.iinc 4 1, 3) := by decide +kernel
theorem dX7_counted_31 : decode cX7_counted 31 = .ok (.goto (-24), 3) := by decide +kernel
theorem dX7_counted_34 : decode cX7_counted 34 = .ok (.iconst 0, 1) := by decide +kernel
theorem dX7_counted_35 : decode cX7_counted 35 = .ok (.istore 4, 2) := by decide +kernel
theorem dX7_counted_37 : decode cX7_counted 37 = .ok (.iload 4, 2) := by decide +kernel
theorem dX7_counted_39 : decode cX7_counted 39 = .ok (.aload_n 0, 1) := by decide +kernel
theorem dX7_counted_40 : decode cX7_counted 40 = .ok (.getfield 41, 3) := by decide +kernel
theorem dX7_counted_43 : decode cX7_counted 43 = .ok (.if_icmp .ge 30, 3) := by decide +kernel
theorem dX7_counted_46 : decode cX7_counted 46 = .ok (.iload_n 3, 1) := by decide +kernel
theorem dX7_counted_47 : decode cX7_counted 47 = .ok (.aload_n 0, 1) := by decide +kernel
theorem dX7_counted_48 : decode cX7_counted 48 = .ok (.getfield 30, 3) := by decide +kernel
theorem dX7_counted_51 : decode cX7_counted 51 = .ok (.getfield 89, 3) := by decide +kernel
theorem dX7_counted_54 : decode cX7_counted 54 = .ok (.iload 4, 2) := by decide +kernel
theorem dX7_counted_56 : decode cX7_counted 56 = .ok (.iaload, 1) := by decide +kernel
theorem dX7_counted_57 : decode cX7_counted 57 = .ok (.ifCond .le 7, 3) := by decide +kernel
theorem dX7_counted_60 : decode cX7_counted 60 = .ok (.iconst 1, 1) := by decide +kernel
theorem dX7_counted_61 : decode cX7_counted 61 = .ok (.goto 4, 3) := by decide +kernel
theorem dX7_counted_64 : decode cX7_counted 64 = .ok (.iconst 0, 1) := by decide +kernel
theorem dX7_counted_65 : decode cX7_counted 65 = .ok (.iadd, 1) := by decide +kernel
theorem dX7_counted_66 : decode cX7_counted 66 = .ok (.istore_n 3, 1) := by decide +kernel
theorem dX7_counted_67 : decode cX7_counted 67 = .ok (.iinc 4 1, 3) := by decide +kernel
theorem dX7_counted_70 : decode cX7_counted 70 = .ok (.goto (-33), 3) := by decide +kernel
theorem dX7_counted_73 : decode cX7_counted 73 = .ok (.bipush 7, 2) := by decide +kernel
theorem dX7_counted_75 : decode cX7_counted 75 = .ok (.newarray .int, 2) := by decide +kernel
theorem dX7_counted_77 : decode cX7_counted 77 = .ok (.dup, 1) := by decide +kernel
theorem dX7_counted_78 : decode cX7_counted 78 = .ok (.iconst 0, 1) := by decide +kernel
theorem dX7_counted_79 : decode cX7_counted 79 = .ok (.aload_n 0, 1) := by decide +kernel
theorem dX7_counted_80 : decode cX7_counted 80 = .ok (.getfield 30, 3) := by decide +kernel
theorem dX7_counted_83 : decode cX7_counted 83 = .ok (.getfield 132, 3) := by decide +kernel
theorem dX7_counted_86 : decode cX7_counted 86 = .ok (.iastore, 1) := by decide +kernel
theorem dX7_counted_87 : decode cX7_counted 87 = .ok (.dup, 1) := by decide +kernel
theorem dX7_counted_88 : decode cX7_counted 88 = .ok (.iconst 1, 1) := by decide +kernel
theorem dX7_counted_89 : decode cX7_counted 89 = .ok (.aload_n 0, 1) := by decide +kernel
theorem dX7_counted_90 : decode cX7_counted 90 = .ok (.getfield 41, 3) := by decide +kernel
theorem dX7_counted_93 : decode cX7_counted 93 = .ok (.iastore, 1) := by decide +kernel
theorem dX7_counted_94 : decode cX7_counted 94 = .ok (.dup, 1) := by decide +kernel
theorem dX7_counted_95 : decode cX7_counted 95 = .ok (.iconst 2, 1) := by decide +kernel
theorem dX7_counted_96 : decode cX7_counted 96 = .ok (.aload_n 0, 1) := by decide +kernel
theorem dX7_counted_97 : decode cX7_counted 97 = .ok (.getfield 48, 3) := by decide +kernel
theorem dX7_counted_100 : decode cX7_counted 100 = .ok (.iastore, 1) := by decide +kernel
theorem dX7_counted_101 : decode cX7_counted 101 = .ok (.dup, 1) := by decide +kernel
theorem dX7_counted_102 : decode cX7_counted 102 = .ok (.iconst 3, 1) := by decide +kernel
theorem dX7_counted_103 : decode cX7_counted 103 = .ok (.iload_n 2, 1) := by decide +kernel
theorem dX7_counted_104 : decode cX7_counted 104 = .ok (.iastore, 1) := by decide +kernel
theorem dX7_counted_105 : decode cX7_counted 105 = .ok (.dup, 1) := by decide +kernel
theorem dX7_counted_106 : decode cX7_counted 106 = .ok (.iconst 4, 1) := by decide +kernel
theorem dX7_counted_107 : decode cX7_counted 107 = .ok (.iload_n 3, 1) := by decide +kernel
theorem dX7_counted_108 : decode cX7_counted 108 = .ok (.iastore, 1) := by decide +kernel
theorem dX7_counted_109 : decode cX7_counted 109 = .ok (.dup, 1) := by decide +kernel
theorem dX7_counted_110 : decode cX7_counted 110 = .ok (.iconst 5, 1) := by decide +kernel
theorem dX7_counted_111 : decode cX7_counted 111 = .ok (.aload_n 0, 1) := by decide +kernel
theorem dX7_counted_112 : decode cX7_counted 112 = .ok (.getfield 30, 3) := by decide +kernel
theorem dX7_counted_115 : decode cX7_counted 115 = .ok (.getfield 135, 3) := by decide +kernel
theorem dX7_counted_118 : decode cX7_counted 118 = .ok (.iastore, 1) := by decide +kernel
theorem dX7_counted_119 : decode cX7_counted 119 = .ok (.dup, 1) := by decide +kernel
theorem dX7_counted_120 : decode cX7_counted 120 = .ok (.bipush 6, 2) := by decide +kernel
theorem dX7_counted_122 : decode cX7_counted 122 = .ok (.aload_n 0, 1) := by decide +kernel
theorem dX7_counted_123 : decode cX7_counted 123 = .ok (.getfield 30, 3) := by decide +kernel
theorem dX7_counted_126 : decode cX7_counted 126 = .ok (.getfield 138, 3) := by decide +kernel
theorem dX7_counted_129 : decode cX7_counted 129 = .ok (.iastore, 1) := by decide +kernel
theorem dX7_counted_130 : decode cX7_counted 130 = .ok (.astore 4, 2) := by decide +kernel
theorem dX7_counted_132 : decode cX7_counted 132 = .ok (.aload 4, 2) := by decide +kernel
theorem dX7_counted_134 : decode cX7_counted 134 = .ok (.iload_n 1, 1) := by decide +kernel
theorem dX7_counted_135 : decode cX7_counted 135 = .ok (.iaload, 1) := by decide +kernel
theorem dX7_counted_136 : decode cX7_counted 136 = .ok (.ireturn, 1) := by decide +kernel
theorem dX7_count_0 : decode cX7_count 0 = .ok (.aload_n 0, 1) := by decide +kernel
theorem dX7_count_1 : decode cX7_count 1 = .ok (.iconst 0, 1) := by decide +kernel
theorem dX7_count_2 : decode cX7_count 2 = .ok (.putfield 37, 3) := by decide +kernel
theorem dX7_count_5 : decode cX7_count 5 = .ok (.iload_n 1, 1) := by decide +kernel
theorem dX7_count_6 : decode cX7_count 6 = .ok (.iconst 0, 1) := by decide +kernel
theorem dX7_count_7 : decode cX7_count 7 = .ok (.bipush 6, 2) := by decide +kernel
theorem dX7_count_9 : decode cX7_count 9 = .ok (.invokestatic 44, 3) := by decide +kernel
theorem dX7_count_12 : decode cX7_count 12 = .ok (.ifCond .eq 11, 3) := by decide +kernel
theorem dX7_count_15 : decode cX7_count 15 = .ok (.aload_n 0, 1) := by decide +kernel
theorem dX7_count_16 : decode cX7_count 16 = .ok (.iload_n 1, 1) := by decide +kernel
theorem dX7_count_17 : decode cX7_count 17 = .ok (.invokevirtual 141, 3) := by decide +kernel
theorem dX7_count_20 : decode cX7_count 20 = .ok (.goto 8, 3) := by decide +kernel
theorem dX7_count_23 : decode cX7_count 23 = .ok (.aload_n 0, 1) := by decide +kernel
theorem dX7_count_24 : decode cX7_count 24 = .ok (.iconst 1, 1) := by decide +kernel
theorem dX7_count_25 : decode cX7_count 25 = .ok (.invokevirtual 55, 3) := by decide +kernel
theorem dX7_count_28 : decode cX7_count 28 = .ok (.ireturn, 1) := by decide +kernel
theorem dX7_foresee_0 : decode cX7_foresee 0 = .ok (.aload_n 0, 1) := by decide +kernel
theorem dX7_foresee_1 : decode cX7_foresee 1 = .ok (.iconst 0, 1) := by decide +kernel
theorem dX7_foresee_2 : decode cX7_foresee 2 = .ok (.putfield 37, 3) := by decide +kernel
theorem dX7_foresee_5 : decode cX7_foresee 5 = .ok (.aload_n 0, 1) := by decide +kernel
theorem dX7_foresee_6 : decode cX7_foresee 6 = .ok (.iload_n 1, 1) := by decide +kernel
theorem dX7_foresee_7 : decode cX7_foresee 7 = .ok (.invokevirtual 51, 3) := by decide +kernel
theorem dX7_foresee_10 : decode cX7_foresee 10 = .ok (.ifCond .eq 12, 3) := by decide +kernel
theorem dX7_foresee_13 : decode cX7_foresee 13 = .ok (.iload_n 3, 1) := by decide +kernel
theorem dX7_foresee_14 : decode cX7_foresee 14 = .ok (.iconst 0, 1) := by decide +kernel
theorem dX7_foresee_15 : decode cX7_foresee 15 = .ok (.iconst 3, 1) := by decide +kernel
theorem dX7_foresee_16 : decode cX7_foresee 16 = .ok (.invokestatic 44, 3) := by decide +kernel
theorem dX7_foresee_19 : decode cX7_foresee 19 = .ok (.ifCond .ne 9, 3) := by decide +kernel
theorem dX7_foresee_22 : decode cX7_foresee 22 = .ok (.aload_n 0, 1) := by decide +kernel
theorem dX7_foresee_23 : decode cX7_foresee 23 = .ok (.iconst 1, 1) := by decide +kernel
theorem dX7_foresee_24 : decode cX7_foresee 24 = .ok (.invokevirtual 55, 3) := by decide +kernel
theorem dX7_foresee_27 : decode cX7_foresee 27 = .ok (.ireturn, 1) := by decide +kernel
theorem dX7_foresee_28 : decode cX7_foresee 28 = .ok (.iload_n 2, 1) := by decide +kernel
theorem dX7_foresee_29 : decode cX7_foresee 29 = .ok (.iconst 1, 1) := by decide +kernel
theorem dX7_foresee_30 : decode cX7_foresee 30 = .ok (.bipush 20, 2) := by decide +kernel
theorem dX7_foresee_32 : decode cX7_foresee 32 = .ok (.invokestatic 44, 3) := by decide +kernel
theorem dX7_foresee_35 : decode cX7_foresee 35 = .ok (.ifCond .ne 9, 3) := by decide +kernel
theorem dX7_foresee_38 : decode cX7_foresee 38 = .ok (.aload_n 0, 1) := by decide +kernel
theorem dX7_foresee_39 : decode cX7_foresee 39 = .ok (.iconst 2, 1) := by decide +kernel
theorem dX7_foresee_40 : decode cX7_foresee 40 = .ok (.invokevirtual 55, 3) := by decide +kernel
theorem dX7_foresee_43 : decode cX7_foresee 43 = .ok (.ireturn, 1) := by decide +kernel
theorem dX7_foresee_44 : decode cX7_foresee 44 = .ok (.aload_n 0, 1) := by decide +kernel
theorem dX7_foresee_45 : decode cX7_foresee 45 = .ok (.getfield 34, 3) := by decide +kernel
theorem dX7_foresee_48 : decode cX7_foresee 48 = .ok (.aload_n 0, 1) := by decide +kernel
theorem dX7_foresee_49 : decode cX7_foresee 49 = .ok (.getfield 30, 3) := by decide +kernel
theorem dX7_foresee_52 : decode cX7_foresee 52 = .ok (.invokevirtual 144, 3) := by decide +kernel
theorem dX7_foresee_55 : decode cX7_foresee 55 = .ok (.iconst 0, 1) := by decide +kernel
theorem dX7_foresee_56 : decode cX7_foresee 56 = .ok (.istore 4, 2) := by decide +kernel
theorem dX7_foresee_58 : decode cX7_foresee 58 = .ok (.iload 4, 2) := by decide +kernel
theorem dX7_foresee_60 : decode cX7_foresee 60 = .ok (.iload_n 2, 1) := by decide +kernel
theorem dX7_foresee_61 : decode cX7_foresee 61 = .ok (.if_icmp .ge 17, 3) := by decide +kernel
theorem dX7_foresee_64 : decode cX7_foresee 64 = .ok (.aload_n 0, 1) := by decide +kernel
theorem dX7_foresee_65 : decode cX7_foresee 65 = .ok (.getfield 34, 3) := by decide +kernel
theorem dX7_foresee_68 : decode cX7_foresee 68 = .ok (.invokevirtual 128, 3) := by decide +kernel
theorem dX7_foresee_71 : decode cX7_foresee 71 = .ok (.pop, 1) := by decide +kernel
theorem dX7_foresee_72 : decode cX7_foresee 72 = .ok (.iinc 4 1, 3) := by decide +kernel
theorem dX7_foresee_75 : decode cX7_foresee 75 = .ok (.goto (-17), 3) := by decide +kernel
theorem dX7_foresee_78 : decode cX7_foresee 78 = .ok (.iload_n 3, 1) := by decide +kernel
theorem dX7_foresee_79 : decode cX7_foresee 79 = .ok (.iconst 3, 1) := by decide +kernel
theorem dX7_foresee_80 : decode cX7_foresee 80 = .ok (.if_icmp .ge 19, 3) := by decide +kernel
theorem dX7_foresee_83 : decode cX7_foresee 83 = .ok (.aload_n 0, 1) := by decide +kernel
theorem dX7_foresee_84 : decode cX7_foresee 84 = .ok (.getfield 34, 3) := by decide +kernel
theorem dX7_foresee_87 : decode cX7_foresee 87 = .ok (.getfield 72, 3) := by decide +kernel
theorem dX7_foresee_90 : decode cX7_foresee 90 = .ok (.iconst 4, 1) := by decide +kernel
theorem dX7_foresee_91 : decode cX7_foresee 91 = .ok (.iload_n 1, 1) := by decide +kernel
theorem dX7_foresee_92 : decode cX7_foresee 92 = .ok (.imul, 1) := by decide +kernel
theorem dX7_foresee_93 : decode cX7_foresee 93 = .ok (.iload_n 3, 1) := by decide +kernel
theorem dX7_foresee_94 : decode cX7_foresee 94 = .ok (.iadd, 1) := by decide +kernel
theorem dX7_foresee_95 : decode cX7_foresee 95 = .ok (.iaload, 1) := by decide +kernel
theorem dX7_foresee_96 : decode cX7_foresee 96 = .ok (.goto 12, 3) := by decide +kernel
theorem dX7_foresee_99 : decode cX7_foresee 99 = .ok (.aload_n 0, 1) := by decide +kernel
theorem dX7_foresee_100 : decode cX7_foresee 100 = .ok (.getfield 34, 3) := by decide +kernel
theorem dX7_foresee_103 : decode cX7_foresee 103 = .ok (.getfield 116, 3) := by decide +kernel
theorem dX7_foresee_106 : decode cX7_foresee 106 = .ok (.iload_n 1, 1) := by decide +kernel
theorem dX7_foresee_107 : decode cX7_foresee 107 = .ok (.iaload, 1) := by decide +kernel
theorem dX7_foresee_108 : decode cX7_foresee 108 = .ok (.ireturn, 1) := by decide +kernel
theorem dX7_advise_0 : decode cX7_advise 0 = .ok (.aload_n 0, 1) := by decide +kernel
theorem dX7_advise_1 : decode cX7_advise 1 = .ok (.iconst 0, 1) := by decide +kernel
theorem dX7_advise_2 : decode cX7_advise 2 = .ok (.putfield 37, 3) := by decide +kernel
theorem dX7_advise_5 : decode cX7_advise 5 = .ok (.aload_n 0, 1) := by decide +kernel
theorem dX7_advise_6 : decode cX7_advise 6 = .ok (.iload_n 1, 1) := by decide +kernel
theorem dX7_advise_7 : decode cX7_advise 7 = .ok (.invokevirtual 51, 3) := by decide +kernel
theorem dX7_advise_10 : decode cX7_advise 10 = .ok (.ifCond .ne 9, 3) := by decide +kernel
theorem dX7_advise_13 : decode cX7_advise 13 = .ok (.aload_n 0, 1) := by decide +kernel
theorem dX7_advise_14 : decode cX7_advise 14 = .ok (.iconst 1, 1) := by decide +kernel
theorem dX7_advise_15 : decode cX7_advise 15 = .ok (.invokevirtual 55, 3) := by decide +kernel
theorem dX7_advise_18 : decode cX7_advise 18 = .ok (.ireturn, 1) := by decide +kernel
theorem dX7_advise_19 : decode cX7_advise 19 = .ok (.aload_n 0, 1) := by decide +kernel
theorem dX7_advise_20 : decode cX7_advise 20 = .ok (.getfield 34, 3) := by decide +kernel
theorem dX7_advise_23 : decode cX7_advise 23 = .ok (.aload_n 0, 1) := by decide +kernel
theorem dX7_advise_24 : decode cX7_advise 24 = .ok (.getfield 30, 3) := by decide +kernel
theorem dX7_advise_27 : decode cX7_advise 27 = .ok (.invokevirtual 144, 3) := by decide +kernel
theorem dX7_advise_30 : decode cX7_advise 30 = .ok (.aload_n 0, 1) := by decide +kernel
theorem dX7_advise_31 : decode cX7_advise 31 = .ok (.getfield 34, 3) := by decide +kernel
theorem dX7_advise_34 : decode cX7_advise 34 = .ok (.invokevirtual 128, 3) := by decide +kernel
theorem dX7_advise_37 : decode cX7_advise 37 = .ok (.pop, 1) := by decide +kernel
theorem dX7_advise_38 : decode cX7_advise 38 = .ok (.aload_n 0, 1) := by decide +kernel
theorem dX7_advise_39 : decode cX7_advise 39 = .ok (.getfield 34, 3) := by decide +kernel
theorem dX7_advise_42 : decode cX7_advise 42 = .ok (.getfield 72, 3) := by decide +kernel
theorem dX7_advise_45 : decode cX7_advise 45 = .ok (.iconst 4, 1) := by decide +kernel
theorem dX7_advise_46 : decode cX7_advise 46 = .ok (.iload_n 1, 1) := by decide +kernel
theorem dX7_advise_47 : decode cX7_advise 47 = .ok (.imul, 1) := by decide +kernel
theorem dX7_advise_48 : decode cX7_advise 48 = .ok (.iaload, 1) := by decide +kernel
theorem dX7_advise_49 : decode cX7_advise 49 = .ok (.istore_n 2, 1) := by decide +kernel
theorem dX7_advise_50 : decode cX7_advise 50 = .ok (.iconst (-1), 1) := by decide +kernel
theorem dX7_advise_51 : decode cX7_advise 51 = .ok (.istore_n 3, 1) := by decide +kernel
theorem dX7_advise_52 : decode cX7_advise 52 = .ok (.iconst 0, 1) := by decide +kernel
theorem dX7_advise_53 : decode cX7_advise 53 = .ok (.istore 4, 2) := by decide +kernel
theorem dX7_advise_55 : decode cX7_advise 55 = .ok (.iload 4, 2) := by decide +kernel
theorem dX7_advise_57 : decode cX7_advise 57 = .ok (.aload_n 0, 1) := by decide +kernel
theorem dX7_advise_58 : decode cX7_advise 58 = .ok (.getfield 13, 3) := by decide +kernel
theorem dX7_advise_61 : decode cX7_advise 61 = .ok (.iload_n 1, 1) := by decide +kernel
theorem dX7_advise_62 : decode cX7_advise 62 = .ok (.iaload, 1) := by decide +kernel
theorem dX7_advise_63 : decode cX7_advise 63 = .ok (.if_icmp .ge 111, 3) := by decide +kernel
theorem dX7_advise_66 : decode cX7_advise 66 = .ok (.iload 4, 2) := by decide +kernel
theorem dX7_advise_68 : decode cX7_advise 68 = .ok (.iconst 1, 1) := by decide +kernel
theorem dX7_advise_69 : decode cX7_advise 69 = .ok (.iadd, 1) := by decide +kernel
theorem dX7_advise_70 : decode cX7_advise 70 = .ok (.istore 5, 2) := by decide +kernel
theorem dX7_advise_72 : decode cX7_advise 72 = .ok (.iload 5, 2) := by decide +kernel
theorem dX7_advise_74 : decode cX7_advise 74 = .ok (.aload_n 0, 1) := by decide +kernel
theorem dX7_advise_75 : decode cX7_advise 75 = .ok (.getfield 13, 3) := by decide +kernel
theorem dX7_advise_78 : decode cX7_advise 78 = .ok (.iload_n 1, 1) := by decide +kernel
theorem dX7_advise_79 : decode cX7_advise 79 = .ok (.iaload, 1) := by decide +kernel
theorem dX7_advise_80 : decode cX7_advise 80 = .ok (.if_icmp .ge 88, 3) := by decide +kernel
theorem dX7_advise_83 : decode cX7_advise 83 = .ok (.aload_n 0, 1) := by decide +kernel
theorem dX7_advise_84 : decode cX7_advise 84 = .ok (.getfield 34, 3) := by decide +kernel
theorem dX7_advise_87 : decode cX7_advise 87 = .ok (.aload_n 0, 1) := by decide +kernel
theorem dX7_advise_88 : decode cX7_advise 88 = .ok (.getfield 30, 3) := by decide +kernel
theorem dX7_advise_91 : decode cX7_advise 91 = .ok (.invokevirtual 144, 3) := by decide +kernel
theorem dX7_advise_94 : decode cX7_advise 94 = .ok (.aload_n 0, 1) := by decide +kernel
theorem dX7_advise_95 : decode cX7_advise 95 = .ok (.getfield 34, 3) := by decide +kernel
theorem dX7_advise_98 : decode cX7_advise 98 = .ok (.bipush 8, 2) := by decide +kernel
theorem dX7_advise_100 : decode cX7_advise 100 = .ok (.iload_n 1, 1) := by decide +kernel
theorem dX7_advise_101 : decode cX7_advise 101 = .ok (.imul, 1) := by decide +kernel
theorem dX7_advise_102 : decode cX7_advise 102 = .ok (.iload 4, 2) := by decide +kernel
theorem dX7_advise_104 : decode cX7_advise 104 = .ok (.iadd, 1) := by decide +kernel
theorem dX7_advise_105 : decode cX7_advise 105 = .ok (.bipush 8, 2) := by decide +kernel
theorem dX7_advise_107 : decode cX7_advise 107 = .ok (.iload_n 1, 1) := by decide +kernel
theorem dX7_advise_108 : decode cX7_advise 108 = .ok (.imul, 1) := by decide +kernel
theorem dX7_advise_109 : decode cX7_advise 109 = .ok (.iload 5, 2) := by decide +kernel
theorem dX7_advise_111 : decode cX7_advise 111 = .ok (.iadd, 1) := by decide +kernel
theorem dX7_advise_112 : decode cX7_advise 112 = .ok (.invokestatic 85, 3) := by decide +kernel
theorem dX7_advise_115 : decode cX7_advise 115 = .ok (.aload_n 0, 1) := by decide +kernel
theorem dX7_advise_116 : decode cX7_advise 116 = .ok (.getfield 34, 3) := by decide +kernel
theorem dX7_advise_119 : decode cX7_advise 119 = .ok (.invokevirtual 128, 3) := by decide +kernel
theorem dX7_advise_122 : decode cX7_advise 122 = .ok (.pop, 1) := by decide +kernel
theorem dX7_advise_123 : decode cX7_advise 123 = .ok (.aload_n 0, 1) := by decide +kernel
theorem dX7_advise_124 : decode cX7_advise 124 = .ok (.getfield 34, 3) := by decide +kernel
theorem dX7_advise_127 : decode cX7_advise 127 = .ok (.getfield 72, 3) := by decide +kernel
theorem dX7_advise_130 : decode cX7_advise 130 = .ok (.iconst 4, 1) := by decide +kernel
theorem dX7_advise_131 : decode cX7_advise 131 = .ok (.iload_n 1, 1) := by decide +kernel
theorem dX7_advise_132 : decode cX7_advise 132 = .ok (.imul, 1) := by decide +kernel
theorem dX7_advise_133 : decode cX7_advise 133 = .ok (.iaload, 1) := by decide +kernel
theorem dX7_advise_134 : decode cX7_advise 134 = .ok (.iload_n 2, 1) := by decide +kernel
theorem dX7_advise_135 : decode cX7_advise 135 = .ok (.if_icmp .gt 6, 3) := by decide +kernel
theorem dX7_advise_138 : decode cX7_advise 138 = .ok (.goto 24, 3) := by decide +kernel
theorem dX7_advise_141 : decode cX7_advise 141 = .ok (.bipush 8, 2) := by decide +kernel
theorem dX7_advise_143 : decode cX7_advise 143 = .ok (.iload 4, 2) := by decide +kernel
theorem dX7_advise_145 : decode cX7_advise 145 = .ok (.imul, 1) := by decide +kernel
theorem dX7_advise_146 : decode cX7_advise 146 = .ok (.iload 5, 2) := by decide +kernel
theorem dX7_advise_148 : decode cX7_advise 148 = .ok (.iadd, 1) := by decide +kernel
theorem dX7_advise_149 : decode cX7_advise 149 = .ok (.istore_n 3, 1) := by decide +kernel
theorem dX7_advise_150 : decode cX7_advise 150 = .ok (.aload_n 0, 1) := by decide +kernel
theorem dX7_advise_151 : decode cX7_advise 151 = .ok (.getfield 34, 3) := by decide +kernel
theorem dX7_advise_154 : decode cX7_advise 154 = .ok (.getfield 72, 3) := by decide +kernel
theorem dX7_advise_157 : decode cX7_advise 157 = .ok (.iconst 4, 1) := by decide +kernel
theorem dX7_advise_158 : decode cX7_advise 158 = .ok (.iload_n 1, 1) := by decide +kernel
theorem dX7_advise_159 : decode cX7_advise 159 = .ok (.imul, 1) := by decide +kernel
theorem dX7_advise_160 : decode cX7_advise 160 = .ok (.iaload, 1) := by decide +kernel
theorem dX7_advise_161 : decode cX7_advise 161 = .ok (.istore_n 2, 1) := by decide +kernel
theorem dX7_advise_162 : decode cX7_advise 162 = .ok (.iinc 5 1, 3) := by decide +kernel
theorem dX7_advise_165 : decode cX7_advise 165 = .ok (.goto (-93), 3) := by decide +kernel
theorem dX7_advise_168 : decode cX7_advise 168 = .ok (.iinc 4 1, 3) := by decide +kernel
theorem dX7_advise_171 : decode cX7_advise 171 = .ok (.goto (-116), 3) := by decide +kernel
theorem dX7_advise_174 : decode cX7_advise 174 = .ok (.iload_n 3, 1) := by decide +kernel
theorem dX7_advise_175 : decode cX7_advise 175 = .ok (.ireturn, 1) := by decide +kernel
theorem dX7_free_0 : decode cX7_free 0 = .ok (.aload_n 0, 1) := by decide +kernel
theorem dX7_free_1 : decode cX7_free 1 = .ok (.iconst 0, 1) := by decide +kernel
theorem dX7_free_2 : decode cX7_free 2 = .ok (.putfield 37, 3) := by decide +kernel
theorem dX7_free_5 : decode cX7_free 5 = .ok (.iload_n 1, 1) := by decide +kernel
theorem dX7_free_6 : decode cX7_free 6 = .ok (.iconst 0, 1) := by decide +kernel
theorem dX7_free_7 : decode cX7_free 7 = .ok (.iconst 3, 1) := by decide +kernel
theorem dX7_free_8 : decode cX7_free 8 = .ok (.invokestatic 44, 3) := by decide +kernel
theorem dX7_free_11 : decode cX7_free 11 = .ok (.ifCond .ne 9, 3) := by decide +kernel
theorem dX7_free_14 : decode cX7_free 14 = .ok (.aload_n 0, 1) := by decide +kernel
theorem dX7_free_15 : decode cX7_free 15 = .ok (.iconst 1, 1) := by decide +kernel
theorem dX7_free_16 : decode cX7_free 16 = .ok (.invokevirtual 55, 3) := by decide +kernel
theorem dX7_free_19 : decode cX7_free 19 = .ok (.ireturn, 1) := by decide +kernel
theorem dX7_free_20 : decode cX7_free 20 = .ok (.iconst (-1), 1) := by decide +kernel
theorem dX7_free_21 : decode cX7_free 21 = .ok (.istore_n 2, 1) := by decide +kernel
theorem dX7_free_22 : decode cX7_free 22 = .ok (.iconst 0, 1) := by decide +kernel
theorem dX7_free_23 : decode cX7_free 23 = .ok (.istore_n 3, 1) := by decide +kernel
theorem dX7_free_24 : decode cX7_free 24 = .ok (.iload_n 3, 1) := by decide +kernel
theorem dX7_free_25 : decode cX7_free 25 = .ok (.aload_n 0, 1) := by decide +kernel
theorem dX7_free_26 : decode cX7_free 26 = .ok (.getfield 41, 3) := by decide +kernel
theorem dX7_free_29 : decode cX7_free 29 = .ok (.if_icmp .ge 66, 3) := by decide +kernel
theorem dX7_free_32 : decode cX7_free 32 = .ok (.aload_n 0, 1) := by decide +kernel
theorem dX7_free_33 : decode cX7_free 33 = .ok (.getfield 30, 3) := by decide +kernel
theorem dX7_free_36 : decode cX7_free 36 = .ok (.getfield 89, 3) := by decide +kernel
theorem dX7_free_39 : decode cX7_free 39 = .ok (.iload_n 3, 1) := by decide +kernel
theorem dX7_free_40 : decode cX7_free 40 = .ok (.iaload, 1) := by decide +kernel
theorem dX7_free_41 : decode cX7_free 41 = .ok (.ifCond .gt 48, 3) := by decide +kernel
theorem dX7_free_44 : decode cX7_free 44 = .ok (.aload_n 0, 1) := by decide +kernel
theorem dX7_free_45 : decode cX7_free 45 = .ok (.getfield 30, 3) := by decide +kernel
theorem dX7_free_48 : decode cX7_free 48 = .ok (.iload_n 3, 1) := by decide +kernel
theorem dX7_free_49 : decode cX7_free 49 = .ok (.invokevirtual 82, 3) := by decide +kernel
theorem dX7_free_52 : decode cX7_free 52 = .ok (.iconst (-1), 1) := by decide +kernel
theorem dX7_free_53 : decode cX7_free 53 = .ok (.if_icmp .eq 6, 3) := by decide +kernel
theorem dX7_free_56 : decode cX7_free 56 = .ok (.goto 33, 3) := by decide +kernel
theorem dX7_free_59 : decode cX7_free 59 = .ok (.iload_n 2, 1) := by decide +kernel
theorem dX7_free_60 : decode cX7_free 60 = .ok (.iconst (-1), 1) := by decide +kernel
theorem dX7_free_61 : decode cX7_free 61 = .ok (.if_icmp .eq 26, 3) := by decide +kernel
theorem dX7_free_64 : decode cX7_free 64 = .ok (.aload_n 0, 1) := by decide +kernel
theorem dX7_free_65 : decode cX7_free 65 = .ok (.getfield 9, 3) := by decide +kernel
theorem dX7_free_68 : decode cX7_free 68 = .ok (.iconst 4, 1) := by decide +kernel
theorem dX7_free_69 : decode cX7_free 69 = .ok (.iload_n 3, 1) := by decide +kernel
theorem dX7_free_70 : decode cX7_free 70 = .ok (.imul, 1) := by decide +kernel
theorem dX7_free_71 : decode cX7_free 71 = .ok (.iload_n 1, 1) := by decide +kernel
theorem dX7_free_72 : decode cX7_free 72 = .ok (.iadd, 1) := by decide +kernel
theorem dX7_free_73 : decode cX7_free 73 = .ok (.iaload, 1) := by decide +kernel
theorem dX7_free_74 : decode cX7_free 74 = .ok (.aload_n 0, 1) := by decide +kernel
theorem dX7_free_75 : decode cX7_free 75 = .ok (.getfield 9, 3) := by decide +kernel
theorem dX7_free_78 : decode cX7_free 78 = .ok (.iconst 4, 1) := by decide +kernel
theorem dX7_free_79 : decode cX7_free 79 = .ok (.iload_n 2, 1) := by decide +kernel
theorem dX7_free_80 : decode cX7_free 80 = .ok (.imul, 1) := by decide +kernel
theorem dX7_free_81 : decode cX7_free 81 = .ok (.iload_n 1, 1) := by decide +kernel
theorem dX7_free_82 : decode cX7_free 82 = .ok (.iadd, 1) := by decide +kernel
theorem dX7_free_83 : decode cX7_free 83 = .ok (.iaload, 1) := by decide +kernel
theorem dX7_free_84 : decode cX7_free 84 = .ok (.if_icmp .le 5, 3) := by decide +kernel
theorem dX7_free_87 : decode cX7_free 87 = .ok (.iload_n 3, 1) := by decide +kernel
theorem dX7_free_88 : decode cX7_free 88 = .ok (.istore_n 2, 1) := by decide +kernel
theorem dX7_free_89 : decode cX7_free 89 = .ok (.iinc 3 1, 3) := by decide +kernel
theorem dX7_free_92 : decode cX7_free 92 = .ok (.goto (-68), 3) := by decide +kernel
theorem dX7_free_95 : decode cX7_free 95 = .ok (.iload_n 2, 1) := by decide +kernel
theorem dX7_free_96 : decode cX7_free 96 = .ok (.ireturn, 1) := by decide +kernel
theorem dX7_mean_0 : decode cX7_mean 0 = .ok (.aload_n 0, 1) := by decide +kernel
theorem dX7_mean_1 : decode cX7_mean 1 = .ok (.iconst 0, 1) := by decide +kernel
theorem dX7_mean_2 : decode cX7_mean 2 = .ok (.putfield 37, 3) := by decide +kernel
theorem dX7_mean_5 : decode cX7_mean 5 = .ok (.iconst 0, 1) := by decide +kernel
theorem dX7_mean_6 : decode cX7_mean 6 = .ok (.istore_n 1, 1) := by decide +kernel
theorem dX7_mean_7 : decode cX7_mean 7 = .ok (.iconst 0, 1) := by decide +kernel
theorem dX7_mean_8 : decode cX7_mean 8 = .ok (.istore_n 2, 1) := by decide +kernel
theorem dX7_mean_9 : decode cX7_mean 9 = .ok (.iconst 0, 1) := by decide +kernel
theorem dX7_mean_10 : decode cX7_mean 10 = .ok (.istore_n 3, 1) := by decide +kernel
theorem dX7_mean_11 : decode cX7_mean 11 = .ok (.iload_n 3, 1) := by decide +kernel
theorem dX7_mean_12 : decode cX7_mean 12 = .ok (.aload_n 0, 1) := by decide +kernel
theorem dX7_mean_13 : decode cX7_mean 13 = .ok (.getfield 48, 3) := by decide +kernel
theorem dX7_mean_16 : decode cX7_mean 16 = .ok (.if_icmp .ge 44, 3) := by decide +kernel
theorem dX7_mean_19 : decode cX7_mean 19 = .ok (.aload_n 0, 1) := by decide +kernel
theorem dX7_mean_20 : decode cX7_mean 20 = .ok (.getfield 30, 3) := by decide +kernel
theorem dX7_mean_23 : decode cX7_mean 23 = .ok (.getfield 72, 3) := by decide +kernel
theorem dX7_mean_26 : decode cX7_mean 26 = .ok (.iconst 4, 1) := by decide +kernel
theorem dX7_mean_27 : decode cX7_mean 27 = .ok (.iload_n 3, 1) := by decide +kernel
theorem dX7_mean_28 : decode cX7_mean 28 = .ok (.imul, 1) := by decide +kernel
theorem dX7_mean_29 : decode cX7_mean 29 = .ok (.iaload, 1) := by decide +kernel
theorem dX7_mean_30 : decode cX7_mean 30 = .ok (.iconst (-1), 1) := by decide +kernel
theorem dX7_mean_31 : decode cX7_mean 31 = .ok (.if_icmp .ne 6, 3) := by decide +kernel
theorem dX7_mean_34 : decode cX7_mean 34 = .ok (.goto 20, 3) := by decide +kernel
theorem dX7_mean_37 : decode cX7_mean 37 = .ok (.iload_n 1, 1) := by decide +kernel
theorem dX7_mean_38 : decode cX7_mean 38 = .ok (.aload_n 0, 1) := by decide +kernel
theorem dX7_mean_39 : decode cX7_mean 39 = .ok (.getfield 30, 3) := by decide +kernel
theorem dX7_mean_42 : decode cX7_mean 42 = .ok (.getfield 72, 3) := by decide +kernel
theorem dX7_mean_45 : decode cX7_mean 45 = .ok (.iconst 4, 1) := by decide +kernel
theorem dX7_mean_46 : decode cX7_mean 46 = .ok (.iload_n 3, 1) := by decide +kernel
theorem dX7_mean_47 : decode cX7_mean 47 = .ok (.imul, 1) := by decide +kernel
theorem dX7_mean_48 : decode cX7_mean 48 = .ok (.iaload, 1) := by decide +kernel
theorem dX7_mean_49 : decode cX7_mean 49 = .ok (.iadd, 1) := by decide +kernel
theorem dX7_mean_50 : decode cX7_mean 50 = .ok (.istore_n 1, 1) := by decide +kernel
theorem dX7_mean_51 : decode cX7_mean 51 = .ok (.iinc 2 1, 3) := by decide +kernel
theorem dX7_mean_54 : decode cX7_mean 54 = .ok (.iinc 3 1, 3) := by decide +kernel
theorem dX7_mean_57 : decode cX7_mean 57 = .ok (.goto (-46), 3) := by decide +kernel
theorem dX7_mean_60 : decode cX7_mean 60 = .ok (.iload_n 2, 1) := by decide +kernel
theorem dX7_mean_61 : decode cX7_mean 61 = .ok (.ifCond .ne 7, 3) := by decide +kernel
theorem dX7_mean_64 : decode cX7_mean 64 = .ok (.dconst 0, 1) := by decide +kernel
theorem dX7_mean_65 : decode cX7_mean 65 = .ok (.goto 8, 3) := by decide +kernel
theorem dX7_mean_68 : decode cX7_mean 68 = .ok (.iload_n 1, 1) := by decide +kernel
theorem dX7_mean_69 : decode cX7_mean 69 = .ok (.i2d, 1) := by decide +kernel
theorem dX7_mean_70 : decode cX7_mean 70 = .ok (.iload_n 2, 1) := by decide +kernel
theorem dX7_mean_71 : decode cX7_mean 71 = .ok (.i2d, 1) := by decide +kernel
theorem dX7_mean_72 : decode cX7_mean 72 = .ok (.ddiv, 1) := by decide +kernel
theorem dX7_mean_73 : decode cX7_mean 73 = .ok (.dreturn, 1) := by decide +kernel
theorem dX7_digest_0 : decode cX7_digest 0 = .ok (.aload_n 0, 1) := by decide +kernel
theorem dX7_digest_1 : decode cX7_digest 1 = .ok (.iconst 0, 1) := by decide +kernel
theorem dX7_digest_2 : decode cX7_digest 2 = .ok (.putfield 37, 3) := by decide +kernel
theorem dX7_digest_5 : decode cX7_digest 5 = .ok (.ldc2_w 148, 3) := by decide +kernel
theorem dX7_digest_8 : decode cX7_digest 8 = .ok (.lstore_n 1, 1) := by decide +kernel
theorem dX7_digest_9 : decode cX7_digest 9 = .ok (.iconst 0, 1) := by decide +kernel
theorem dX7_digest_10 : decode cX7_digest 10 = .ok (.istore_n 3, 1) := by decide +kernel
theorem dX7_digest_11 : decode cX7_digest 11 = .ok (.iload_n 3, 1) := by decide +kernel
theorem dX7_digest_12 : decode cX7_digest 12 = .ok (.bipush 7, 2) := by decide +kernel
theorem dX7_digest_14 : decode cX7_digest 14 = .ok (.if_icmp .ge 22, 3) := by decide +kernel
theorem dX7_digest_17 : decode cX7_digest 17 = .ok (.lload_n 1, 1) := by decide +kernel
theorem dX7_digest_18 : decode cX7_digest 18 = .ok (.ldc2_w 150, 3) := by decide +kernel
theorem dX7_digest_21 : decode cX7_digest 21 = .ok (.lmul, 1) := by decide +kernel
theorem dX7_digest_22 : decode cX7_digest 22 = .ok (.aload_n 0, 1) := by decide +kernel
theorem dX7_digest_23 : decode cX7_digest 23 = .ok (.iload_n 3, 1) := by decide +kernel
theorem dX7_digest_24 : decode cX7_digest 24 = .ok (.invokevirtual 141, 3) := by decide +kernel
theorem dX7_digest_27 : decode cX7_digest 27 = .ok (.i2l, 1) := by decide +kernel
theorem dX7_digest_28 : decode cX7_digest 28 = .ok (.ladd, 1) := by decide +kernel
theorem dX7_digest_29 : decode cX7_digest 29 = .ok (.lstore_n 1, 1) := by decide +kernel
theorem dX7_digest_30 : decode cX7_digest 30 = .ok (.iinc 3 1, 3) := by decide +kernel
theorem dX7_digest_33 : decode cX7_digest 33 = .ok (.goto (-22), 3) := by decide +kernel
theorem dX7_digest_36 : decode cX7_digest 36 = .ok (.iconst 0, 1) := by decide +kernel
theorem dX7_digest_37 : decode cX7_digest 37 = .ok (.istore_n 3, 1) := by decide +kernel
theorem dX7_digest_38 : decode cX7_digest 38 = .ok (.iload_n 3, 1) := by decide +kernel
theorem dX7_digest_39 : decode cX7_digest 39 = .ok (.iconst 4, 1) := by decide +kernel
theorem dX7_digest_40 : decode cX7_digest 40 = .ok (.if_icmp .ge 35, 3) := by decide +kernel
theorem dX7_digest_43 : decode cX7_digest 43 = .ok (.lload_n 1, 1) := by decide +kernel
theorem dX7_digest_44 : decode cX7_digest 44 = .ok (.ldc2_w 150, 3) := by decide +kernel
theorem dX7_digest_47 : decode cX7_digest 47 = .ok (.lmul, 1) := by decide +kernel
theorem dX7_digest_48 : decode cX7_digest 48 = .ok (.aload_n 0, 1) := by decide +kernel
theorem dX7_digest_49 : decode cX7_digest 49 = .ok (.getfield 19, 3) := by decide +kernel
theorem dX7_digest_52 : decode cX7_digest 52 = .ok (.iload_n 3, 1) := by decide +kernel
theorem dX7_digest_53 : decode cX7_digest 53 = .ok (.iaload, 1) := by decide +kernel
theorem dX7_digest_54 : decode cX7_digest 54 = .ok (.i2l, 1) := by decide +kernel
theorem dX7_digest_55 : decode cX7_digest 55 = .ok (.ladd, 1) := by decide +kernel
theorem dX7_digest_56 : decode cX7_digest 56 = .ok (.ldc2_w 150, 3) := by decide +kernel
theorem dX7_digest_59 : decode cX7_digest 59 = .ok (.lmul, 1) := by decide +kernel
theorem dX7_digest_60 : decode cX7_digest 60 = .ok (.aload_n 0, 1) := by decide +kernel
theorem dX7_digest_61 : decode cX7_digest 61 = .ok (.getfield 22, 3) := by decide +kernel
theorem dX7_digest_64 : decode cX7_digest 64 = .ok (.iload_n 3, 1) := by decide +kernel
theorem dX7_digest_65 : decode cX7_digest 65 = .ok (.iaload, 1) := by decide +kernel
theorem dX7_digest_66 : decode cX7_digest 66 = .ok (.i2l, 1) := by decide +kernel
theorem dX7_digest_67 : decode cX7_digest 67 = .ok (.ladd, 1) := by decide +kernel
theorem dX7_digest_68 : decode cX7_digest 68 = .ok (.lstore_n 1, 1) := by decide +kernel
theorem dX7_digest_69 : decode cX7_digest 69 = .ok (.iinc 3 1, 3) := by decide +kernel
theorem dX7_digest_72 : decode cX7_digest 72 = .ok (.goto (-34), 3) := by decide +kernel
theorem dX7_digest_75 : decode cX7_digest 75 = .ok (.iconst 0, 1) := by decide +kernel
theorem dX7_digest_76 : decode cX7_digest 76 = .ok (.istore_n 3, 1) := by decide +kernel
theorem dX7_digest_77 : decode cX7_digest 77 = .ok (.iload_n 3, 1) := by decide +kernel
theorem dX7_digest_78 : decode cX7_digest 78 = .ok (.aload_n 0, 1) := by decide +kernel
theorem dX7_digest_79 : decode cX7_digest 79 = .ok (.getfield 41, 3) := by decide +kernel
theorem dX7_digest_82 : decode cX7_digest 82 = .ok (.if_icmp .ge 40, 3) := by decide +kernel
theorem dX7_digest_85 : decode cX7_digest 85 = .ok (.iconst 0, 1) := by decide +kernel
theorem dX7_digest_86 : decode cX7_digest 86 = .ok (.istore 4, 2) := by decide +kernel
theorem dX7_digest_88 : decode cX7_digest 88 = .ok (.iload 4, 2) := by decide +kernel
theorem dX7_digest_90 : decode cX7_digest 90 = .ok (.bipush 10, 2) := by decide +kernel
theorem dX7_digest_92 : decode cX7_digest 92 = .ok (.if_icmp .ge 24, 3) := by decide +kernel
theorem dX7_digest_95 : decode cX7_digest 95 = .ok (.lload_n 1, 1) := by decide +kernel
theorem dX7_digest_96 : decode cX7_digest 96 = .ok (.ldc2_w 150, 3) := by decide +kernel
theorem dX7_digest_99 : decode cX7_digest 99 = .ok (.lmul, 1) := by decide +kernel
theorem dX7_digest_100 : decode cX7_digest 100 = .ok (.aload_n 0, 1) := by decide +kernel
theorem dX7_digest_101 : decode cX7_digest 101 = .ok (.iload_n 3, 1) := by decide +kernel
theorem dX7_digest_102 : decode cX7_digest 102 = .ok (.iload 4, 2) := by decide +kernel
theorem dX7_digest_104 : decode cX7_digest 104 = .ok (.invokevirtual 110, 3) := by decide +kernel
theorem dX7_digest_107 : decode cX7_digest 107 = .ok (.i2l, 1) := by decide +kernel
theorem dX7_digest_108 : decode cX7_digest 108 = .ok (.ladd, 1) := by decide +kernel
theorem dX7_digest_109 : decode cX7_digest 109 = .ok (.lstore_n 1, 1) := by decide +kernel
theorem dX7_digest_110 : decode cX7_digest 110 = .ok (.iinc 4 1, 3) := by decide +kernel
theorem dX7_digest_113 : decode cX7_digest 113 = .ok (.goto (-25), 3) := by decide +kernel
theorem dX7_digest_116 : decode cX7_digest 116 = .ok (.iinc 3 1, 3) := by decide +kernel
theorem dX7_digest_119 : decode cX7_digest 119 = .ok (.goto (-42), 3) := by decide +kernel
theorem dX7_digest_122 : decode cX7_digest 122 = .ok (.iconst 0, 1) := by decide +kernel
theorem dX7_digest_123 : decode cX7_digest 123 = .ok (.istore_n 3, 1) := by decide +kernel
theorem dX7_digest_124 : decode cX7_digest 124 = .ok (.iload_n 3, 1) := by decide +kernel
theorem dX7_digest_125 : decode cX7_digest 125 = .ok (.aload_n 0, 1) := by decide +kernel
theorem dX7_digest_126 : decode cX7_digest 126 = .ok (.getfield 48, 3) := by decide +kernel
theorem dX7_digest_129 : decode cX7_digest 129 = .ok (.if_icmp .ge 96, 3) := by decide +kernel
theorem dX7_digest_132 : decode cX7_digest 132 = .ok (.iconst 0, 1) := by decide +kernel
theorem dX7_digest_133 : decode cX7_digest 133 = .ok (.istore 4, 2) := by decide +kernel
theorem dX7_digest_135 : decode cX7_digest 135 = .ok (.iload 4, 2) := by decide +kernel
theorem dX7_digest_137 : decode cX7_digest 137 = .ok (.bipush 9, 2) := by decide +kernel
theorem dX7_digest_139 : decode cX7_digest 139 = .ok (.if_icmp .ge 24, 3) := by decide +kernel
theorem dX7_digest_142 : decode cX7_digest 142 = .ok (.lload_n 1, 1) := by decide +kernel
theorem dX7_digest_143 : decode cX7_digest 143 = .ok (.ldc2_w 150, 3) := by decide +kernel
theorem dX7_digest_146 : decode cX7_digest 146 = .ok (.lmul, 1) := by decide +kernel
theorem dX7_digest_147 : decode cX7_digest 147 = .ok (.aload_n 0, 1) := by decide +kernel
theorem dX7_digest_148 : decode cX7_digest 148 = .ok (.iload_n 3, 1) := by decide +kernel
theorem dX7_digest_149 : decode cX7_digest 149 = .ok (.iload 4, 2) := by decide +kernel
theorem dX7_digest_151 : decode cX7_digest 151 = .ok (.invokevirtual 122, 3) := by decide +kernel
theorem dX7_digest_154 : decode cX7_digest 154 = .ok (.i2l, 1) := by decide +kernel
theorem dX7_digest_155 : decode cX7_digest 155 = .ok (.ladd, 1) := by decide +kernel
theorem dX7_digest_156 : decode cX7_digest 156 = .ok (.lstore_n 1, 1) := by decide +kernel
theorem dX7_digest_157 : decode cX7_digest 157 = .ok (.iinc 4 1, 3) := by decide +kernel
theorem dX7_digest_160 : decode cX7_digest 160 = .ok (.goto (-25), 3) := by decide +kernel
theorem dX7_digest_163 : decode cX7_digest 163 = .ok (.iconst 0, 1) := by decide +kernel
theorem dX7_digest_164 : decode cX7_digest 164 = .ok (.istore 4, 2) := by decide +kernel
theorem dX7_digest_166 : decode cX7_digest 166 = .ok (.iload 4, 2) := by decide +kernel
theorem dX7_digest_168 : decode cX7_digest 168 = .ok (.aload_n 0, 1) := by decide +kernel
theorem dX7_digest_169 : decode cX7_digest 169 = .ok (.getfield 13, 3) := by decide +kernel
theorem dX7_digest_172 : decode cX7_digest 172 = .ok (.iload_n 3, 1) := by decide +kernel
theorem dX7_digest_173 : decode cX7_digest 173 = .ok (.iaload, 1) := by decide +kernel
theorem dX7_digest_174 : decode cX7_digest 174 = .ok (.if_icmp .ge 45, 3) := by decide +kernel
theorem dX7_digest_177 : decode cX7_digest 177 = .ok (.iconst 0, 1) := by decide +kernel
theorem dX7_digest_178 : decode cX7_digest 178 = .ok (.istore 5, 2) := by decide +kernel
theorem dX7_digest_180 : decode cX7_digest 180 = .ok (.iload 5, 2) := by decide +kernel
theorem dX7_digest_182 : decode cX7_digest 182 = .ok (.iconst 3, 1) := by decide +kernel
theorem dX7_digest_183 : decode cX7_digest 183 = .ok (.if_icmp .ge 30, 3) := by decide +kernel
theorem dX7_digest_186 : decode cX7_digest 186 = .ok (.lload_n 1, 1) := by decide +kernel
theorem dX7_digest_187 : decode cX7_digest 187 = .ok (.ldc2_w 150, 3) := by decide +kernel
theorem dX7_digest_190 : decode cX7_digest 190 = .ok (.lmul, 1) := by decide +kernel
theorem dX7_digest_191 : decode cX7_digest 191 = .ok (.aload_n 0, 1) := by decide +kernel
theorem dX7_digest_192 : decode cX7_digest 192 = .ok (.bipush 8, 2) := by decide +kernel
theorem dX7_digest_194 : decode cX7_digest 194 = .ok (.iload_n 3, 1) := by decide +kernel
theorem dX7_digest_195 : decode cX7_digest 195 = .ok (.imul, 1) := by decide +kernel
theorem dX7_digest_196 : decode cX7_digest 196 = .ok (.iload 4, 2) := by decide +kernel
theorem dX7_digest_198 : decode cX7_digest 198 = .ok (.iadd, 1) := by decide +kernel
theorem dX7_digest_199 : decode cX7_digest 199 = .ok (.iload 5, 2) := by decide +kernel
theorem dX7_digest_201 : decode cX7_digest 201 = .ok (.invokevirtual 125, 3) := by decide +kernel
theorem dX7_digest_204 : decode cX7_digest 204 = .ok (.i2l, 1) := by decide +kernel
theorem dX7_digest_205 : decode cX7_digest 205 = .ok (.ladd, 1) := by decide +kernel
theorem dX7_digest_206 : decode cX7_digest 206 = .ok (.lstore_n 1, 1) := by decide +kernel
theorem dX7_digest_207 : decode cX7_digest 207 = .ok (.iinc 5 1, 3) := by decide +kernel
theorem dX7_digest_210 : decode cX7_digest 210 = .ok (.goto (-30), 3) := by decide +kernel
theorem dX7_digest_213 : decode cX7_digest 213 = .ok (.iinc 4 1, 3) := by decide +kernel
theorem dX7_digest_216 : decode cX7_digest 216 = .ok (.goto (-50), 3) := by decide +kernel
theorem dX7_digest_219 : decode cX7_digest 219 = .ok (.iinc 3 1, 3) := by decide +kernel
theorem dX7_digest_222 : decode cX7_digest 222 = .ok (.goto (-98), 3) := by decide +kernel
theorem dX7_digest_225 : decode cX7_digest 225 = .ok (.lload_n 1, 1) := by decide +kernel
theorem dX7_digest_226 : decode cX7_digest 226 = .ok (.lreturn, 1) := by decide +kernel
