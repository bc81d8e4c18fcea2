theorem dX5_can_24 : decode cX5_can 24 = .ok (.iload 5, 2) := by decide +kernel
theorem dX5_can_26 : decode cX5_can 26 = .ok (.iaload, 1) := by decide +kernel
theorem dX5_can_27 : decode cX5_can 27 = .ok (.iload_n 1, 1) := by decide +kernel
theorem dX5_can_28 : decode cX5_can 28 = .ok (.if_icmp .ne 29, 3) := by decide +kernel
theorem dX5_can_31 : decode cX5_can 31 = .ok (.aload_n 0, 1) := by decide +kernel
theorem dX5_can_32 : decode cX5_can 32 = .ok (.getfield 23, 3) := by decide +kernel
theorem dX5_can_35 : decode cX5_can 35 = .ok (.iload 5, 2) := by decide +kernel
theorem dX5_can_37 : decode cX5_can 37 = .ok (.iaload, 1) := by decide +kernel
theorem dX5_can_38 : decode cX5_can 38 = .ok (.iload_n 2, 1) := by decide +kernel
theorem dX5_can_39 : decode cX5_can 39 = .ok (.if_icmp .ne 18, 3) := by decide +kernel
theorem dX5_can_42 : decode cX5_can 42 = .ok (.aload_n 0, 1) := by decide +kernel
theorem dX5_can_43 : decode cX5_can 43 = .ok (.getfield 26, 3) := by decide +kernel
theorem dX5_can_46 : decode cX5_can 46 = .ok (.iload 5, 2) := by decide +kernel
theorem dX5_can_48 : decode cX5_can 48 = .ok (.iaload, 1) := by decide +kernel
theorem dX5_can_49 : decode cX5_can 49 = .ok (.iload_n 3, 1) := by decide +kernel
theorem dX5_can_50 : decode cX5_can 50 = .ok (.if_icmp .ne 7, 3) := by decide +kernel
theorem dX5_can_53 : decode cX5_can 53 = .ok (.iconst 1, 1) := by decide +kernel
theorem dX5_can_54 : decode cX5_can 54 = .ok (.goto 4, 3) := by decide +kernel
theorem dX5_can_57 : decode cX5_can 57 = .ok (.iconst 0, 1) := by decide +kernel
theorem dX5_can_58 : decode cX5_can 58 = .ok (.istore 4, 2) := by decide +kernel
theorem dX5_can_60 : decode cX5_can 60 = .ok (.iinc 5 1, 3) := by decide +kernel
theorem dX5_can_63 : decode cX5_can 63 = .ok (.goto (-57), 3) := by decide +kernel
theorem dX5_can_66 : decode cX5_can 66 = .ok (.iload 4, 2) := by decide +kernel
theorem dX5_can_68 : decode cX5_can 68 = .ok (.ireturn, 1) := by decide +kernel
theorem dX5_use_0 : decode cX5_use 0 = .ok (.aload_n 0, 1) := by decide +kernel
theorem dX5_use_1 : decode cX5_use 1 = .ok (.iload_n 1, 1) := by decide +kernel
theorem dX5_use_2 : decode cX5_use 2 = .ok (.invokevirtual 88, 3) := by decide +kernel
theorem dX5_use_5 : decode cX5_use 5 = .ok (.ifCond .eq 17, 3) := by decide +kernel
theorem dX5_use_8 : decode cX5_use 8 = .ok (.iload_n 2, 1) := by decide +kernel
theorem dX5_use_9 : decode cX5_use 9 = .ok (.iconst 0, 1) := by decide +kernel
theorem dX5_use_10 : decode cX5_use 10 = .ok (.aload_n 0, 1) := by decide +kernel
theorem dX5_use_11 : decode cX5_use 11 = .ok (.getfield 68, 3) := by decide +kernel
theorem dX5_use_14 : decode cX5_use 14 = .ok (.iconst 1, 1) := by decide +kernel
theorem dX5_use_15 : decode cX5_use 15 = .ok (.isub, 1) := by decide +kernel
theorem dX5_use_16 : decode cX5_use 16 = .ok (.invokestatic 84, 3) := by decide +kernel
theorem dX5_use_19 : decode cX5_use 19 = .ok (.ifCond .ne 5, 3) := by decide +kernel
theorem dX5_use_22 : decode cX5_use 22 = .ok (.iconst (-1), 1) := by decide +kernel
theorem dX5_use_23 : decode cX5_use 23 = .ok (.ireturn, 1) := by decide +kernel
theorem dX5_use_24 : decode cX5_use 24 = .ok (.iload_n 3, 1) := by decide +kernel
theorem dX5_use_25 : decode cX5_use 25 = .ok (.iconst 0, 1) := by decide +kernel
theorem dX5_use_26 : decode cX5_use 26 = .ok (.iconst 3, 1) := by decide +kernel
theorem dX5_use_27 : decode cX5_use 27 = .ok (.invokestatic 84, 3) := by decide +kernel
theorem dX5_use_30 : decode cX5_use 30 = .ok (.ifCond .ne 6, 3) := by decide +kernel
theorem dX5_use_33 : decode cX5_use 33 = .ok (.bipush (-2), 2) := by decide +kernel
theorem dX5_use_35 : decode cX5_use 35 = .ok (.ireturn, 1) := by decide +kernel
theorem dX5_use_36 : decode cX5_use 36 = .ok (.aload_n 0, 1) := by decide +kernel
theorem dX5_use_37 : decode cX5_use 37 = .ok (.getfield 71, 3) := by decide +kernel
theorem dX5_use_40 : decode cX5_use 40 = .ok (.bipush 30, 2) := by decide +kernel
theorem dX5_use_42 : decode cX5_use 42 = .ok (.if_icmp .ne 6, 3) := by decide +kernel
theorem dX5_use_45 : decode cX5_use 45 = .ok (.bipush (-4), 2) := by decide +kernel
theorem dX5_use_47 : decode cX5_use 47 = .ok (.ireturn, 1) := by decide +kernel
theorem dX5_use_48 : decode cX5_use 48 = .ok (.aload_n 0, 1) := by decide +kernel
theorem dX5_use_49 : decode cX5_use 49 = .ok (.iload_n 1, 1) := by decide +kernel
theorem dX5_use_50 : decode cX5_use 50 = .ok (.iload_n 2, 1) := by decide +kernel
theorem dX5_use_51 : decode cX5_use 51 = .ok (.iload_n 3, 1) := by decide +kernel
theorem dX5_use_52 : decode cX5_use 52 = .ok (.invokevirtual 92, 3) := by decide +kernel
theorem dX5_use_55 : decode cX5_use 55 = .ok (.ifCond .eq 6, 3) := by decide +kernel
theorem dX5_use_58 : decode cX5_use 58 = .ok (.bipush (-5), 2) := by decide +kernel
theorem dX5_use_60 : decode cX5_use 60 = .ok (.ireturn, 1) := by decide +kernel
theorem dX5_use_61 : decode cX5_use 61 = .ok (.aload_n 0, 1) := by decide +kernel
theorem dX5_use_62 : decode cX5_use 62 = .ok (.getfield 20, 3) := by decide +kernel
theorem dX5_use_65 : decode cX5_use 65 = .ok (.aload_n 0, 1) := by decide +kernel
theorem dX5_use_66 : decode cX5_use 66 = .ok (.getfield 71, 3) := by decide +kernel
theorem dX5_use_69 : decode cX5_use 69 = .ok (.iload_n 1, 1) := by decide +kernel
theorem dX5_use_70 : decode cX5_use 70 = .ok (.iastore, 1) := by decide +kernel
theorem dX5_use_71 : decode cX5_use 71 = .ok (.aload_n 0, 1) := by decide +kernel
theorem dX5_use_72 : decode cX5_use 72 = .ok (.getfield 23, 3) := by decide +kernel
theorem dX5_use_75 : decode cX5_use 75 = .ok (.aload_n 0, 1) := by decide +kernel
theorem dX5_use_76 : decode cX5_use 76 = .ok (.getfield 71, 3) := by decide +kernel
theorem dX5_use_79 : decode cX5_use 79 = .ok (.iload_n 2, 1) := by decide +kernel
theorem dX5_use_80 : decode cX5_use 80 = .ok (.iastore, 1) := by decide +kernel
theorem dX5_use_81 : decode cX5_use 81 = .ok (.aload_n 0, 1) := by decide +kernel
theorem dX5_use_82 : decode cX5_use 82 = .ok (.getfield 26, 3) := by decide +kernel
theorem dX5_use_85 : decode cX5_use 85 = .ok (.aload_n 0, 1) := by decide +kernel
theorem dX5_use_86 : decode cX5_use 86 = .ok (.getfield 71, 3) := by decide +kernel
theorem dX5_use_89 : decode cX5_use 89 = .ok (.iload_n 3, 1) := by decide +kernel
theorem dX5_use_90 : decode cX5_use 90 = .ok (.iastore, 1) := by decide +kernel
theorem dX5_use_91 : decode cX5_use 91 = .ok (.aload_n 0, 1) := by decide +kernel
theorem dX5_use_92 : decode cX5_use 92 = .ok (.dup, 1) := by decide +kernel
theorem dX5_use_93 : decode cX5_use 93 = .ok (.getfield 71, 3) := by decide +kernel
theorem dX5_use_96 : decode cX5_use 96 = .ok (.iconst 1, 1) := by decide +kernel
theorem dX5_use_97 : decode cX5_use 97 = .ok (.iadd, 1) := by decide +kernel
theorem dX5_use_98 : decode cX5_use 98 = .ok (.putfield 71, 3) := by decide +kernel
theorem dX5_use_101 : decode cX5_use 101 = .ok (.aload_n 0, 1) := by decide +kernel
theorem dX5_use_102 : decode cX5_use 102 = .ok (.getfield 71, 3) := by decide +kernel
theorem dX5_use_105 : decode cX5_use 105 = .ok (.iconst 1, 1) := by decide +kernel
theorem dX5_use_106 : decode cX5_use 106 = .ok (.isub, 1) := by decide +kernel
theorem dX5_use_107 : decode cX5_use 107 = .ok (.ireturn, 1) := by decide +kernel
theorem dX5_about_0 : decode cX5_about 0 = .ok (.iload_n 1, 1) := by decide +kernel
theorem dX5_about_1 : decode cX5_about 1 = .ok (.iconst 0, 1) := by decide +kernel
theorem dX5_about_2 : decode cX5_about 2 = .ok (.aload_n 0, 1) := by decide +kernel
theorem dX5_about_3 : decode cX5_about 3 = .ok (.getfield 71, 3) := by decide +kernel
theorem dX5_about_6 : decode cX5_about 6 = .ok (.iconst 1, 1) := by decide +kernel
theorem dX5_about_7 : decode cX5_about 7 = .ok (.isub, 1) := by decide +kernel
theorem dX5_about_8 : decode cX5_about 8 = .ok (.invokestatic 84, 3) := by decide +kernel
theorem dX5_about_11 : decode cX5_about 11 = .ok (.ifCond .ne 5, 3) := by decide +kernel
theorem dX5_about_14 : decode cX5_about 14 = .ok (.iconst (-1), 1) := by decide +kernel
theorem dX5_about_15 : decode cX5_about 15 = .ok (.ireturn, 1) := by decide +kernel
theorem dX5_about_16 : decode cX5_about 16 = .ok (.iload_n 2, 1) := by decide +kernel
theorem dX5_about_17 : decode cX5_about 17 = .ok (.ifCond .ne 12, 3) := by decide +kernel
theorem dX5_about_20 : decode cX5_about 20 = .ok (.aload_n 0, 1) := by decide +kernel
theorem dX5_about_21 : decode cX5_about 21 = .ok (.getfield 20, 3) := by decide +kernel
theorem dX5_about_24 : decode cX5_about 24 = .ok (.iload_n 1, 1) := by decide +kernel
theorem dX5_about_25 : decode cX5_about 25 = .ok (.iaload, 1) := by decide +kernel
theorem dX5_about_26 : decode cX5_about 26 = .ok (.goto 33, 3) := by decide +kernel
theorem dX5_about_29 : decode cX5_about 29 = .ok (.iload_n 2, 1) := by decide +kernel
theorem dX5_about_30 : decode cX5_about 30 = .ok (.iconst 1, 1) := by decide +kernel
theorem dX5_about_31 : decode cX5_about 31 = .ok (.if_icmp .ne 12, 3) := by decide +kernel
theorem dX5_about_34 : decode cX5_about 34 = .ok (.aload_n 0, 1) := by decide +kernel
theorem dX5_about_35 : decode cX5_about 35 = .ok (.getfield 23, 3) := by decide +kernel
theorem dX5_about_38 : decode cX5_about 38 = .ok (.iload_n 1, 1) := by decide +kernel
theorem dX5_about_39 : decode cX5_about 39 = .ok (.iaload, 1) := by decide +kernel
theorem dX5_about_40 : decode cX5_about 40 = .ok (.goto 19, 3) := by decide +kernel
theorem dX5_about_43 : decode cX5_about 43 = .ok (.iload_n 2, 1) := by decide +kernel
theorem dX5_about_44 : decode cX5_about 44 = .ok (.iconst 2, 1) := by decide +kernel
theorem dX5_about_45 : decode cX5_about 45 = .ok (.if_icmp .ne 12, 3) := by decide +kernel
theorem dX5_about_48 : decode cX5_about 48 = .ok (.aload_n 0, 1) := by decide +kernel
theorem dX5_about_49 : decode cX5_about 49 = .ok (.getfield 26, 3) := by decide +kernel
theorem dX5_about_52 : decode cX5_about 52 = .ok (.iload_n 1, 1) := by decide +kernel
theorem dX5_about_53 : decode cX5_about 53 = .ok (.iaload, 1) := by decide +kernel
theorem dX5_about_54 : decode cX5_about 54 = .ok (.goto 5, 3) := by decide +kernel
theorem dX5_about_57 : decode cX5_about 57 = .ok (.bipush (-2), 2) := by decide +kernel
theorem dX5_about_59 : decode cX5_about 59 = .ok (.ireturn, 1) := by decide +kernel
theorem dX5_wish_0 : decode cX5_wish 0 = .ok (.aload_n 0, 1) := by decide +kernel
theorem dX5_wish_1 : decode cX5_wish 1 = .ok (.iload 4, 2) := by decide +kernel
theorem dX5_wish_3 : decode cX5_wish 3 = .ok (.invokevirtual 88, 3) := by decide +kernel
theorem dX5_wish_6 : decode cX5_wish 6 = .ok (.ifCond .ne 5, 3) := by decide +kernel
theorem dX5_wish_9 : decode cX5_wish 9 = .ok (.iconst (-1), 1) := by decide +kernel
theorem dX5_wish_10 : decode cX5_wish 10 = .ok (.ireturn, 1) := by decide +kernel
theorem dX5_wish_11 : decode cX5_wish 11 = .ok (.iload_n 1, 1) := by decide +kernel
theorem dX5_wish_12 : decode cX5_wish 12 = .ok (.iconst 0, 1) := by decide +kernel
theorem dX5_wish_13 : decode cX5_wish 13 = .ok (.iconst 3, 1) := by decide +kernel
theorem dX5_wish_14 : decode cX5_wish 14 = .ok (.invokestatic 84, 3) := by decide +kernel
theorem dX5_wish_17 : decode cX5_wish 17 = .ok (.ifCond .eq 22, 3) := by decide +kernel
theorem dX5_wish_20 : decode cX5_wish 20 = .ok (.iload_n 2, 1) := by decide +kernel
theorem dX5_wish_21 : decode cX5_wish 21 = .ok (.iconst 1, 1) := by decide +kernel
theorem dX5_wish_22 : decode cX5_wish 22 = .ok (.bipush 15, 2) := by decide +kernel
theorem dX5_wish_24 : decode cX5_wish 24 = .ok (.invokestatic 84, 3) := by decide +kernel
theorem dX5_wish_27 : decode cX5_wish 27 = .ok (.ifCond .eq 12, 3) := by decide +kernel
theorem dX5_wish_30 : decode cX5_wish 30 = .ok (.iload_n 3, 1) := by decide +kernel
theorem dX5_wish_31 : decode cX5_wish 31 = .ok (.iconst 0, 1) := by decide +kernel
theorem dX5_wish_32 : decode cX5_wish 32 = .ok (.iconst 4, 1) := by decide +kernel
theorem dX5_wish_33 : decode cX5_wish 33 = .ok (.invokestatic 84, 3) := by decide +kernel
theorem dX5_wish_36 : decode cX5_wish 36 = .ok (.ifCond .ne 6, 3) := by decide +kernel
theorem dX5_wish_39 : decode cX5_wish 39 = .ok (.bipush (-2), 2) := by decide +kernel
theorem dX5_wish_41 : decode cX5_wish 41 = .ok (.ireturn, 1) := by decide +kernel
theorem dX5_wish_42 : decode cX5_wish 42 = .ok (.aload_n 0, 1) := by decide +kernel
theorem dX5_wish_43 : decode cX5_wish 43 = .ok (.getfield 74, 3) := by decide +kernel
theorem dX5_wish_46 : decode cX5_wish 46 = .ok (.iconst 4, 1) := by decide +kernel
theorem dX5_wish_47 : decode cX5_wish 47 = .ok (.if_icmp .ne 6, 3) := by decide +kernel
theorem dX5_wish_50 : decode cX5_wish 50 = .ok (.bipush (-4), 2) := by decide +kernel
theorem dX5_wish_52 : decode cX5_wish 52 = .ok (.ireturn, 1) := by decide +kernel
theorem dX5_wish_53 : decode cX5_wish 53 = .ok (.aload_n 0, 1) := by decide +kernel
theorem dX5_wish_54 : decode cX5_wish 54 = .ok (.getfield 29, 3) := by decide +kernel
theorem dX5_wish_57 : decode cX5_wish 57 = .ok (.aload_n 0, 1) := by decide +kernel
theorem dX5_wish_58 : decode cX5_wish 58 = .ok (.getfield 74, 3) := by decide +kernel
theorem dX5_wish_61 : decode cX5_wish 61 = .ok (.iload_n 1, 1) := by decide +kernel
theorem dX5_wish_62 : decode cX5_wish 62 = .ok (.iastore, 1) := by decide +kernel
theorem dX5_wish_63 : decode cX5_wish 63 = .ok (.aload_n 0, 1) := by decide +kernel
theorem dX5_wish_64 : decode cX5_wish 64 = .ok (.getfield 32, 3) := by decide +kernel
theorem dX5_wish_67 : decode cX5_wish 67 = .ok (.aload_n 0, 1) := by decide +kernel
theorem dX5_wish_68 : decode cX5_wish 68 = .ok (.getfield 74, 3) := by decide +kernel
theorem dX5_wish_71 : decode cX5_wish 71 = .ok (.iload_n 2, 1) := by decide +kernel
theorem dX5_wish_72 : decode cX5_wish 72 = .ok (.iastore, 1) := by decide +kernel
theorem dX5_wish_73 : decode cX5_wish 73 = .ok (.aload_n 0, 1) := by decide +kernel
theorem dX5_wish_74 : decode cX5_wish 74 = .ok (.getfield 35, 3) := by decide +kernel
theorem dX5_wish_77 : decode cX5_wish 77 = .ok (.aload_n 0, 1) := by decide +kernel
theorem dX5_wish_78 : decode cX5_wish 78 = .ok (.getfield 74, 3) := by decide +kernel
theorem dX5_wish_81 : decode cX5_wish 81 = .ok (.iload_n 3, 1) := by decide +kernel
theorem dX5_wish_82 : decode cX5_wish 82 = .ok (.iastore, 1) := by decide +kernel
theorem dX5_wish_83 : decode cX5_wish 83 = .ok (.aload_n 0, 1) := by decide +kernel
theorem dX5_wish_84 : decode cX5_wish 84 = .ok (.getfield 38, 3) := by decide +kernel
theorem dX5_wish_87 : decode cX5_wish 87 = .ok (.aload_n 0, 1) := by decide +kernel
theorem dX5_wish_88 : decode cX5_wish 88 = .ok (.getfield 74, 3) := by decide +kernel
theorem dX5_wish_91 : decode cX5_wish 91 = .ok (.iload 4, 2) := by decide +kernel
theorem dX5_wish_93 : decode cX5_wish 93 = .ok (.iastore, 1) := by decide +kernel
theorem dX5_wish_94 : decode cX5_wish 94 = .ok (.iconst 0, 1) := by decide +kernel
theorem dX5_wish_95 : decode cX5_wish 95 = .ok (.istore 5, 2) := by decide +kernel
theorem dX5_wish_97 : decode cX5_wish 97 = .ok (.iload 5, 2) := by decide +kernel
theorem dX5_wish_99 : decode cX5_wish 99 = .ok (.iconst 4, 1) := by decide +kernel
theorem dX5_wish_100 : decode cX5_wish 100 = .ok (.if_icmp .ge 25, 3) := by decide +kernel
theorem dX5_wish_103 : decode cX5_wish 103 = .ok (.aload_n 0, 1) := by decide +kernel
theorem dX5_wish_104 : decode cX5_wish 104 = .ok (.getfield 41, 3) := by decide +kernel
theorem dX5_wish_107 : decode cX5_wish 107 = .ok (.iconst 4, 1) := by decide +kernel
theorem dX5_wish_108 : decode cX5_wish 108 = .ok (.aload_n 0, 1) := by decide +kernel
theorem dX5_wish_109 : decode cX5_wish 109 = .ok (.getfield 74, 3) := by decide +kernel
theorem dX5_wish_112 : decode cX5_wish 112 = .ok (.imul, 1) := by decide +kernel
theorem dX5_wish_113 : decode cX5_wish 113 = .ok (.iload 5, 2) := by decide +kernel
theorem dX5_wish_115 : decode cX5_wish 115 = .ok (.iadd, 1) := by decide +kernel
theorem dX5_wish_116 : decode cX5_wish 116 = .ok (.bipush (-6), 2) := by decide +kernel
theorem dX5_wish_118 : decode cX5_wish 118 = .ok (.iastore, 1) := by decide +kernel
theorem dX5_wish_119 : decode cX5_wish 119 = .ok (.iinc 5 1, 3) := by decide +kernel
theorem dX5_wish_122 : decode cX5_wish 122 = .ok (.goto (-25), 3) := by decide +kernel
theorem dX5_wish_125 : decode cX5_wish 125 = .ok (.aload_n 0, 1) := by decide +kernel
theorem dX5_wish_126 : decode cX5_wish 126 = .ok (.dup, 1) := by decide +kernel
theorem dX5_wish_127 : decode cX5_wish 127 = .ok (.getfield 74, 3) := by decide +kernel
theorem dX5_wish_130 : decode cX5_wish 130 = .ok (.iconst 1, 1) := by decide +kernel
theorem dX5_wish_131 : decode cX5_wish 131 = .ok (.iadd, 1) := by decide +kernel
theorem dX5_wish_132 : decode cX5_wish 132 = .ok (.putfield 74, 3) := by decide +kernel
theorem dX5_wish_135 : decode cX5_wish 135 = .ok (.aload_n 0, 1) := by decide +kernel
theorem dX5_wish_136 : decode cX5_wish 136 = .ok (.getfield 74, 3) := by decide +kernel
theorem dX5_wish_139 : decode cX5_wish 139 = .ok (.iconst 1, 1) := by decide +kernel
theorem dX5_wish_140 : decode cX5_wish 140 = .ok (.isub, 1) := by decide +kernel
theorem dX5_wish_141 : decode cX5_wish 141 = .ok (.ireturn, 1) := by decide +kernel
theorem dX5_isWish_0 : decode cX5_isWish 0 = .ok (.iload_n 1, 1) := by decide +kernel
theorem dX5_isWish_1 : decode cX5_isWish 1 = .ok (.iconst 0, 1) := by decide +kernel
theorem dX5_isWish_2 : decode cX5_isWish 2 = .ok (.aload_n 0, 1) := by decide +kernel
theorem dX5_isWish_3 : decode cX5_isWish 3 = .ok (.getfield 74, 3) := by decide +kernel
theorem dX5_isWish_6 : decode cX5_isWish 6 = .ok (.iconst 1, 1) := by decide +kernel
theorem dX5_isWish_7 : decode cX5_isWish 7 = .ok (.isub, 1) := by decide +kernel
theorem dX5_isWish_8 : decode cX5_isWish 8 = .ok (.invokestatic 84, 3) := by decide +kernel
theorem dX5_isWish_11 : decode cX5_isWish 11 = .ok (.ireturn, 1) := by decide +kernel
theorem dX5_hasRole_0 : decode cX5_hasRole 0 = .ok (.iload_n 2, 1) := by decide +kernel
theorem dX5_hasRole_1 : decode cX5_hasRole 1 = .ok (.iconst 0, 1) := by decide +kernel
theorem dX5_hasRole_2 : decode cX5_hasRole 2 = .ok (.iconst 3, 1) := by decide +kernel
theorem dX5_hasRole_3 : decode cX5_hasRole 3 = .ok (.invokestatic 84, 3) := by decide +kernel
theorem dX5_hasRole_6 : decode cX5_hasRole 6 = .ok (.ifCond .eq 21, 3) := by decide +kernel
theorem dX5_hasRole_9 : decode cX5_hasRole 9 = .ok (.aload_n 0, 1) := by decide +kernel
theorem dX5_hasRole_10 : decode cX5_hasRole 10 = .ok (.getfield 32, 3) := by decide +kernel
theorem dX5_hasRole_13 : decode cX5_hasRole 13 = .ok (.iload_n 1, 1) := by decide +kernel
theorem dX5_hasRole_14 : decode cX5_hasRole 14 = .ok (.iaload, 1) := by decide +kernel
theorem dX5_hasRole_15 : decode cX5_hasRole 15 = .ok (.iload_n 2, 1) := by decide +kernel
theorem dX5_hasRole_16 : decode cX5_hasRole 16 = .ok (.ishr, 1) := by decide +kernel
theorem dX5_hasRole_17 : decode cX5_hasRole 17 = .ok (.iconst 1, 1) := by decide +kernel
theorem dX5_hasRole_18 : decode cX5_hasRole 18 = .ok (.iand, 1) := by decide +kernel
theorem dX5_hasRole_19 : decode cX5_hasRole 19 = .ok (.iconst 1, 1) := by decide +kernel
theorem dX5_hasRole_20 : decode cX5_hasRole 20 = .ok (.if_icmp .ne 7, 3) := by decide +kernel
theorem dX5_hasRole_23 : decode cX5_hasRole 23 = .ok (.iconst 1, 1) := by decide +kernel
theorem dX5_hasRole_24 : decode cX5_hasRole 24 = .ok (.goto 4, 3) := by decide +kernel
theorem dX5_hasRole_27 : decode cX5_hasRole 27 = .ok (.iconst 0, 1) := by decide +kernel
theorem dX5_hasRole_28 : decode cX5_hasRole 28 = .ok (.ireturn, 1) := by decide +kernel
theorem dX5_wished_0 : decode cX5_wished 0 = .ok (.aload_n 0, 1) := by decide +kernel
theorem dX5_wished_1 : decode cX5_wished 1 = .ok (.iload_n 1, 1) := by decide +kernel
theorem dX5_wished_2 : decode cX5_wished 2 = .ok (.invokevirtual 95, 3) := by decide +kernel
theorem dX5_wished_5 : decode cX5_wished 5 = .ok (.ifCond .ne 5, 3) := by decide +kernel
theorem dX5_wished_8 : decode cX5_wished 8 = .ok (.iconst (-1), 1) := by decide +kernel
theorem dX5_wished_9 : decode cX5_wished 9 = .ok (.ireturn, 1) := by decide +kernel
theorem dX5_wished_10 : decode cX5_wished 10 = .ok (.iload_n 2, 1) := by decide +kernel
theorem dX5_wished_11 : decode cX5_wished 11 = .ok (.tableswitch 57 0 3 #[29, 36, 43, 50], 29) := by decide +kernel
theorem dX5_wished_40 : decode cX5_wished 40 = .ok (.aload_n 0, 1) := by decide +kernel
theorem dX5_wished_41 : decode cX5_wished 41 = .ok (.getfield 29, 3) := by decide +kernel
theorem dX5_wished_44 : decode cX5_wished 44 = .ok (.iload_n 1, 1) := by decide +kernel
theorem dX5_wished_45 : decode cX5_wished 45 = .ok (.iaload, 1) := by decide +kernel
theorem dX5_wished_46 : decode cX5_wished 46 = .ok (.ireturn, 1) := by decide +kernel
theorem dX5_wished_47 : decode cX5_wished 47 = .ok (.aload_n 0, 1) := by decide +kernel
theorem dX5_wished_48 : decode cX5_wished 48 = .ok (.getfield 32, 3) := by decide +kernel
theorem dX5_wished_51 : decode cX5_wished 51 = .ok (.iload_n 1, 1) := by decide +kernel
theorem dX5_wished_52 : decode cX5_wished 52 = .ok (.iaload, 1) := by decide +kernel
theorem dX5_wished_53 : decode cX5_wished 53 = .ok (.ireturn, 1) := by decide +kernel
theorem dX5_wished_54 : decode cX5_wished 54 = .ok (.aload_n 0, 1) := by decide +kernel
theorem dX5_wished_55 : decode cX5_wished 55 = .ok (.getfield 35, 3) := by decide +kernel
theorem dX5_wished_58 : decode cX5_wished 58 = .ok (.iload_n 1, 1) := by decide +kernel
theorem dX5_wished_59 : decode cX5_wished 59 = .ok (.iaload, 1) := by decide +kernel
theorem dX5_wished_60 : decode cX5_wished 60 = .ok (.ireturn, 1) := by decide +kernel
theorem dX5_wished_61 : decode cX5_wished 61 = .ok (.aload_n 0, 1) := by decide +kernel
theorem dX5_wished_62 : decode cX5_wished 62 = .ok (.getfield 38, 3) := by decide +kernel
theorem dX5_wished_65 : decode cX5_wished 65 = .ok (.iload_n 1, 1) := by decide +kernel
theorem dX5_wished_66 : decode cX5_wished 66 = .ok (.iaload, 1) := by decide +kernel
theorem dX5_wished_67 : decode cX5_wished 67 = .ok (.ireturn, 1) := by decide +kernel
theorem dX5_wished_68 : decode cX5_wished 68 = .ok (.iload_n 2, 1) := by decide +kernel
theorem dX5_wished_69 : decode cX5_wished 69 = .ok (.bipush 10, 2) := by decide +kernel
theorem dX5_wished_71 : decode cX5_wished 71 = .ok (.bipush 13, 2) := by decide +kernel
theorem dX5_wished_73 : decode cX5_wished 73 = .ok (.invokestatic 84, 3) := by decide +kernel
theorem dX5_wished_76 : decode cX5_wished 76 = .ok (.ifCond .eq 19, 3) := by decide +kernel
theorem dX5_wished_79 : decode cX5_wished 79 = .ok (.aload_n 0, 1) := by decide +kernel
theorem dX5_wished_80 : decode cX5_wished 80 = .ok (.getfield 41, 3) := by decide +kernel
theorem dX5_wished_83 : decode cX5_wished 83 = .ok (.iconst 4, 1) := by decide +kernel
theorem dX5_wished_84 : decode cX5_wished 84 = .ok (.iload_n 1, 1) := by decide +kernel
theorem dX5_wished_85 : decode cX5_wished 85 = .ok (.imul, 1) := by decide +kernel
theorem dX5_wished_86 : decode cX5_wished 86 = .ok (.iload_n 2, 1) := by decide +kernel
theorem dX5_wished_87 : decode cX5_wished 87 = .ok (.iadd, 1) := by decide +kernel
theorem dX5_wished_88 : decode cX5_wished 88 = .ok (.bipush 10, 2) := by decide +kernel
theorem dX5_wished_90 : decode cX5_wished 90 = .ok (.isub, 1) := by decide +kernel
theorem dX5_wished_91 : decode cX5_wished 91 = .ok (.iaload, 1) := by decide +kernel
theorem dX5_wished_92 : decode cX5_wished 92 = .ok (.goto 5, 3) := by decide +kernel
theorem dX5_wished_95 : decode cX5_wished 95 = .ok (.bipush (-2), 2) := by decide +kernel
theorem dX5_wished_97 : decode cX5_wished 97 = .ok (.ireturn, 1) := by decide +kernel
theorem dX5_fix_0 : decode cX5_fix 0 = .ok (.aload_n 0, 1) := by decide +kernel
theorem dX5_fix_1 : decode cX5_fix 1 = .ok (.iload_n 1, 1) := by decide +kernel
theorem dX5_fix_2 : decode cX5_fix 2 = .ok (.invokevirtual 95, 3) := by decide +kernel
theorem dX5_fix_5 : decode cX5_fix 5 = .ok (.ifCond .eq 16, 3) := by decide +kernel
theorem dX5_fix_8 : decode cX5_fix 8 = .ok (.iload_n 3, 1) := by decide +kernel
theorem dX5_fix_9 : decode cX5_fix 9 = .ok (.iconst (-1), 1) := by decide +kernel
theorem dX5_fix_10 : decode cX5_fix 10 = .ok (.if_icmp .eq 13, 3) := by decide +kernel
theorem dX5_fix_13 : decode cX5_fix 13 = .ok (.aload_n 0, 1) := by decide +kernel
theorem dX5_fix_14 : decode cX5_fix 14 = .ok (.iload_n 3, 1) := by decide +kernel
theorem dX5_fix_15 : decode cX5_fix 15 = .ok (.invokevirtual 88, 3) := by decide +kernel
theorem dX5_fix_18 : decode cX5_fix 18 = .ok (.ifCond .ne 5, 3) := by decide +kernel
theorem dX5_fix_21 : decode cX5_fix 21 = .ok (.iconst (-1), 1) := by decide +kernel
theorem dX5_fix_22 : decode cX5_fix 22 = .ok (.ireturn, 1) := by decide +kernel
theorem dX5_fix_23 : decode cX5_fix 23 = .ok (.aload_n 0, 1) := by decide +kernel
theorem dX5_fix_24 : decode cX5_fix 24 = .ok (.iload_n 1, 1) := by decide +kernel
theorem dX5_fix_25 : decode cX5_fix 25 = .ok (.iload_n 2, 1) := by decide +kernel
theorem dX5_fix_26 : decode cX5_fix 26 = .ok (.invokevirtual 98, 3) := by decide +kernel
theorem dX5_fix_29 : decode cX5_fix 29 = .ok (.ifCond .ne 6, 3) := by decide +kernel
theorem dX5_fix_32 : decode cX5_fix 32 = .ok (.bipush (-2), 2) := by decide +kernel
theorem dX5_fix_34 : decode cX5_fix 34 = .ok (.ireturn, 1) := by decide +kernel
theorem dX5_fix_35 : decode cX5_fix 35 = .ok (.aload_n 0, 1) := by decide +kernel
theorem dX5_fix_36 : decode cX5_fix 36 = .ok (.getfield 41, 3) := by decide +kernel
theorem dX5_fix_39 : decode cX5_fix 39 = .ok (.iconst 4, 1) := by decide +kernel
theorem dX5_fix_40 : decode cX5_fix 40 = .ok (.iload_n 1, 1) := by decide +kernel
theorem dX5_fix_41 : decode cX5_fix 41 = .ok (.imul, 1) := by decide +kernel
theorem dX5_fix_42 : decode cX5_fix 42 = .ok (.iload_n 2, 1) := by decide +kernel
theorem dX5_fix_43 : decode cX5_fix 43 = .ok (.iadd, 1) := by decide +kernel
theorem dX5_fix_44 : decode cX5_fix 44 = .ok (.iaload, 1) := by decide +kernel
theorem dX5_fix_45 : decode cX5_fix 45 = .ok (.istore 4, 2) := by decide +kernel
theorem dX5_fix_47 : decode cX5_fix 47 = .ok (.aload_n 0, 1) := by decide +kernel
theorem dX5_fix_48 : decode cX5_fix 48 = .ok (.getfield 41, 3) := by decide +kernel
theorem dX5_fix_51 : decode cX5_fix 51 = .ok (.iconst 4, 1) := by decide +kernel
theorem dX5_fix_52 : decode cX5_fix 52 = .ok (.iload_n 1, 1) := by decide +kernel
theorem dX5_fix_53 : decode cX5_fix 53 = .ok (.imul, 1) := by decide +kernel
theorem dX5_fix_54 : decode cX5_fix 54 = .ok (.iload_n 2, 1) := by decide +kernel
theorem dX5_fix_55 : decode cX5_fix 55 = .ok (.iadd, 1) := by decide +kernel
theorem dX5_fix_56 : decode cX5_fix 56 = .ok (.iload_n 3, 1) := by decide +kernel
theorem dX5_fix_57 : decode cX5_fix 57 = .ok (.iconst (-1), 1) := by decide +kernel
theorem dX5_fix_58 : decode cX5_fix 58 = .ok (.if_icmp .ne 8, 3) := by decide +kernel
theorem dX5_fix_61 : decode cX5_fix 61 = .ok (.bipush (-6), 2) := by decide +kernel
theorem dX5_fix_63 : decode cX5_fix 63 = .ok (.goto 4, 3) := by decide +kernel
theorem dX5_fix_66 : decode cX5_fix 66 = .ok (.iload_n 3, 1) := by decide +kernel
theorem dX5_fix_67 : decode cX5_fix 67 = .ok (.iastore, 1) := by decide +kernel
theorem dX5_fix_68 : decode cX5_fix 68 = .ok (.iload 4, 2) := by decide +kernel
theorem dX5_fix_70 : decode cX5_fix 70 = .ok (.ireturn, 1) := by decide +kernel
theorem dX5_drop_0 : decode cX5_drop 0 = .ok (.aload_n 0, 1) := by decide +kernel
theorem dX5_drop_1 : decode cX5_drop 1 = .ok (.getfield 74, 3) := by decide +kernel
theorem dX5_drop_4 : decode cX5_drop 4 = .ok (.ifCond .ne 5, 3) := by decide +kernel
theorem dX5_drop_7 : decode cX5_drop 7 = .ok (.iconst (-1), 1) := by decide +kernel
theorem dX5_drop_8 : decode cX5_drop 8 = .ok (.ireturn, 1) := by decide +kernel
theorem dX5_drop_9 : decode cX5_drop 9 = .ok (.aload_n 0, 1) := by decide +kernel
theorem dX5_drop_10 : decode cX5_drop 10 = .ok (.dup, 1) := by decide +kernel
theorem dX5_drop_11 : decode cX5_drop 11 = .ok (.getfield 74, 3) := by decide +kernel
theorem dX5_drop_14 : decode cX5_drop 14 = .ok (.iconst 1, 1) := by decide +kernel
theorem dX5_drop_15 : decode cX5_drop 15 = .ok (.isub, 1) := by decide +kernel
theorem dX5_drop_16 : decode cX5_drop 16 = .ok (.putfield 74, 3) := by decide +kernel
theorem dX5_drop_19 : decode cX5_drop 19 = .ok (.aload_n 0, 1) := by decide +kernel
theorem dX5_drop_20 : decode cX5_drop 20 = .ok (.getfield 74, 3) := by decide +kernel
theorem dX5_drop_23 : decode cX5_drop 23 = .ok (.ireturn, 1) := by decide +kernel
theorem dX5_start_0 : decode cX5_start 0 = .ok (.aload_n 0, 1) := by decide +kernel
theorem dX5_start_1 : decode cX5_start 1 = .ok (.iconst 0, 1) := by decide +kernel
theorem dX5_start_2 : decode cX5_start 2 = .ok (.putfield 102, 3) := by decide +kernel
theorem dX5_start_5 : decode cX5_start 5 = .ok (.iconst 0, 1) := by decide +kernel
theorem dX5_start_6 : decode cX5_start 6 = .ok (.istore_n 3, 1) := by decide +kernel
theorem dX5_start_7 : decode cX5_start 7 = .ok (.iload_n 3, 1) := by decide +kernel
theorem dX5_start_8 : decode cX5_start 8 = .ok (.aload_n 0, 1) := by decide +kernel
theorem dX5_start_9 : decode cX5_start 9 = .ok (.getfield 74, 3) := by decide +kernel
theorem dX5_start_12 : decode cX5_start 12 = .ok (.if_icmp .ge 91, 3) := by decide +kernel
theorem dX5_start_15 : decode cX5_start 15 = .ok (.iconst (-1), 1) := by decide +kernel
theorem dX5_start_16 : decode cX5_start 16 = .ok (.istore 4, 2) := by decide +kernel
theorem dX5_start_18 : decode cX5_start 18 = .ok (.iload 4, 2) := by decide +kernel
theorem dX5_start_20 : decode cX5_start 20 = .ok (.iconst 4, 1) := by decide +kernel
theorem dX5_start_21 : decode cX5_start 21 = .ok (.if_icmp .ge 76, 3) := by decide +kernel
theorem dX5_start_24 : decode cX5_start 24 = .ok (.iload_n 1, 1) := by decide +kernel
theorem dX5_start_25 : decode cX5_start 25 = .ok (.iload_n 3, 1) := by decide +kernel
theorem dX5_start_26 : decode cX5_start 26 = .ok (.ishr, 1) := by decide +kernel
theorem dX5_start_27 : decode cX5_start 27 = .ok (.iconst 1, 1) := by decide +kernel
theorem dX5_start_28 : decode cX5_start 28 = .ok (.iand, 1) := by decide +kernel
theorem dX5_start_29 : decode cX5_start 29 = .ok (.iconst 1, 1) := by decide +kernel
theorem dX5_start_30 : decode cX5_start 30 = .ok (.if_icmp .ne 67, 3) := by decide +kernel
theorem dX5_start_33 : decode cX5_start 33 = .ok (.iload 4, 2) := by decide +kernel
theorem dX5_start_35 : decode cX5_start 35 = .ok (.iconst (-1), 1) := by decide +kernel
theorem dX5_start_36 : decode cX5_start 36 = .ok (.if_icmp .eq 13, 3) := by decide +kernel
theorem dX5_start_39 : decode cX5_start 39 = .ok (.aload_n 0, 1) := by decide +kernel
theorem dX5_start_40 : decode cX5_start 40 = .ok (.iload_n 3, 1) := by decide +kernel
theorem dX5_start_41 : decode cX5_start 41 = .ok (.iload 4, 2) := by decide +kernel
theorem dX5_start_43 : decode cX5_start 43 = .ok (.invokevirtual 98, 3) := by decide +kernel
theorem dX5_start_46 : decode cX5_start 46 = .ok (.ifCond .eq 45, 3) := by decide +kernel
theorem dX5_start_49 : decode cX5_start 49 = .ok (.aload_n 0, 1) := by decide +kernel
theorem dX5_start_50 : decode cX5_start 50 = .ok (.getfield 50, 3) := by decide +kernel
theorem dX5_start_53 : decode cX5_start 53 = .ok (.aload_n 0, 1) := by decide +kernel
theorem dX5_start_54 : decode cX5_start 54 = .ok (.getfield 102, 3) := by decide +kernel
theorem dX5_start_57 : decode cX5_start 57 = .ok (.iload_n 3, 1) := by decide +kernel
theorem dX5_start_58 : decode cX5_start 58 = .ok (.iastore, 1) := by decide +kernel
theorem dX5_start_59 : decode cX5_start 59 = .ok (.aload_n 0, 1) := by decide +kernel
theorem dX5_start_60 : decode cX5_start 60 = .ok (.getfield 53, 3) := by decide +kernel
theorem dX5_start_63 : decode cX5_start 63 = .ok (.aload_n 0, 1) := by decide +kernel
theorem dX5_start_64 : decode cX5_start 64 = .ok (.getfield 102, 3) := by decide +kernel
theorem dX5_start_67 : decode cX5_start 67 = .ok (.iload 4, 2) := by decide +kernel
theorem dX5_start_69 : decode cX5_start 69 = .ok (.iastore, 1) := by decide +kernel
theorem dX5_start_70 : decode cX5_start 70 = .ok (.aload_n 0, 1) := by decide +kernel
theorem dX5_start_71 : decode cX5_start 71 = .ok (.getfield 56, 3) := by decide +kernel
theorem dX5_start_74 : decode cX5_start 74 = .ok (.aload_n 0, 1) := by decide +kernel
theorem dX5_start_75 : decode cX5_start 75 = .ok (.getfield 102, 3) := by decide +kernel
theorem dX5_start_78 : decode cX5_start 78 = .ok (.bipush (-6), 2) := by decide +kernel
theorem dX5_start_80 : decode cX5_start 80 = .ok (.iastore, 1) := by decide +kernel
theorem dX5_start_81 : decode cX5_start 81 = .ok (.aload_n 0, 1) := by decide +kernel
theorem dX5_start_82 : decode cX5_start 82 = .ok (.dup, 1) := by decide +kernel
theorem dX5_start_83 : decode cX5_start 83 = .ok (.getfield 102, 3) := by decide +kernel
theorem dX5_start_86 : decode cX5_start 86 = .ok (.iconst 1, 1) := by decide +kernel
theorem dX5_start_87 : decode cX5_start 87 = .ok (.iadd, 1) := by decide +kernel
theorem dX5_start_88 : decode cX5_start 88 = .ok (.putfield 102, 3) := by decide +kernel
theorem dX5_start_91 : decode cX5_start 91 = .ok (.iinc 4 1, 3) := by decide +kernel
theorem dX5_start_94 : decode cX5_start 94 = .ok (.goto (-76), 3) := by decide +kernel
theorem dX5_start_97 : decode cX5_start 97 = .ok (.iinc 3 1, 3) := by decide +kernel
theorem dX5_start_100 : decode cX5_start 100 = .ok (.goto (-93), 3) := by decide +kernel
theorem dX5_start_103 : decode cX5_start 103 = .ok (.aload_n 0, 1) := by decide +kernel
theorem dX5_start_104 : decode cX5_start 104 = .ok (.iconst 1, 1) := by decide +kernel
theorem dX5_start_105 : decode cX5_start 105 = .ok (.putfield 105, 3) := by decide +kernel
theorem dX5_start_108 : decode cX5_start 108 = .ok (.aload_n 0, 1) := by decide +kernel
theorem dX5_start_109 : decode cX5_start 109 = .ok (.iload_n 2, 1) := by decide +kernel
theorem dX5_start_110 : decode cX5_start 110 = .ok (.putfield 108, 3) := by decide +kernel
theorem dX5_start_113 : decode cX5_start 113 = .ok (.aload_n 0, 1) := by decide +kernel
theorem dX5_start_114 : decode cX5_start 114 = .ok (.iconst (-1), 1) := by decide +kernel
theorem dX5_start_115 : decode cX5_start 115 = .ok (.putfield 111, 3) := by decide +kernel
theorem dX5_start_118 : decode cX5_start 118 = .ok (.aload_n 0, 1) := by decide +kernel
theorem dX5_start_119 : decode cX5_start 119 = .ok (.iconst (-1), 1) := by decide +kernel
theorem dX5_start_120 : decode cX5_start 120 = .ok (.putfield 114, 3) := by decide +kernel
theorem dX5_start_123 : decode cX5_start 123 = .ok (.return_, 1) := by decide +kernel
theorem dX5_unitPlace_0 : decode cX5_unitPlace 0 = .ok (.iload_n 1, 1) := by decide +kernel
theorem dX5_unitPlace_1 : decode cX5_unitPlace 1 = .ok (.istore_n 2, 1) := by decide +kernel
theorem dX5_unitPlace_2 : decode cX5_unitPlace 2 = .ok (.aload_n 0, 1) := by decide +kernel
theorem dX5_unitPlace_3 : decode cX5_unitPlace 3 = .ok (.getfield 53, 3) := by decide +kernel
theorem dX5_unitPlace_6 : decode cX5_unitPlace 6 = .ok (.iload_n 2, 1) := by decide +kernel
theorem dX5_unitPlace_7 : decode cX5_unitPlace 7 = .ok (.iaload, 1) := by decide +kernel
theorem dX5_unitPlace_8 : decode cX5_unitPlace 8 = .ok (.iconst (-1), 1) := by decide +kernel
theorem dX5_unitPlace_9 : decode cX5_unitPlace 9 = .ok (.if_icmp .eq 9, 3) := by decide +kernel
theorem dX5_unitPlace_12 : decode cX5_unitPlace 12 = .ok (.iinc 2 (-1), 3) := by decide +kernel
theorem dX5_unitPlace_15 : decode cX5_unitPlace 15 = .ok (.goto (-13), 3) := by decide +kernel
theorem dX5_unitPlace_18 : decode cX5_unitPlace 18 = .ok (.iload_n 2, 1) := by decide +kernel
theorem dX5_unitPlace_19 : decode cX5_unitPlace 19 = .ok (.ireturn, 1) := by decide +kernel
theorem dX5_fits_0 : decode cX5_fits 0 = .ok (.aload_n 0, 1) := by decide +kernel
theorem dX5_fits_1 : decode cX5_fits 1 = .ok (.getfield 53, 3) := by decide +kernel
theorem dX5_fits_4 : decode cX5_fits 4 = .ok (.iload_n 1, 1) := by decide +kernel
theorem dX5_fits_5 : decode cX5_fits 5 = .ok (.iaload, 1) := by decide +kernel
theorem dX5_fits_6 : decode cX5_fits 6 = .ok (.iconst (-1), 1) := by decide +kernel
theorem dX5_fits_7 : decode cX5_fits 7 = .ok (.if_icmp .ne 7, 3) := by decide +kernel
theorem dX5_fits_10 : decode cX5_fits 10 = .ok (.iconst 1, 1) := by decide +kernel
theorem dX5_fits_11 : decode cX5_fits 11 = .ok (.goto 4, 3) := by decide +kernel
theorem dX5_fits_14 : decode cX5_fits 14 = .ok (.iconst 0, 1) := by decide +kernel
theorem dX5_fits_15 : decode cX5_fits 15 = .ok (.istore_n 3, 1) := by decide +kernel
theorem dX5_fits_16 : decode cX5_fits 16 = .ok (.aload_n 0, 1) := by decide +kernel
theorem dX5_fits_17 : decode cX5_fits 17 = .ok (.getfield 50, 3) := by decide +kernel
theorem dX5_fits_20 : decode cX5_fits 20 = .ok (.iload_n 1, 1) := by decide +kernel
theorem dX5_fits_21 : decode cX5_fits 21 = .ok (.iaload, 1) := by decide +kernel
theorem dX5_fits_22 : decode cX5_fits 22 = .ok (.istore 4, 2) := by decide +kernel
theorem dX5_fits_24 : decode cX5_fits 24 = .ok (.iload_n 3, 1) := by decide +kernel
theorem dX5_fits_25 : decode cX5_fits 25 = .ok (.ifCond .eq 29, 3) := by decide +kernel
theorem dX5_fits_28 : decode cX5_fits 28 = .ok (.aload_n 0, 1) := by decide +kernel
theorem dX5_fits_29 : decode cX5_fits 29 = .ok (.getfield 17, 3) := by decide +kernel
theorem dX5_fits_32 : decode cX5_fits 32 = .ok (.iload_n 2, 1) := by decide +kernel
theorem dX5_fits_33 : decode cX5_fits 33 = .ok (.iaload, 1) := by decide +kernel
theorem dX5_fits_34 : decode cX5_fits 34 = .ok (.aload_n 0, 1) := by decide +kernel
theorem dX5_fits_35 : decode cX5_fits 35 = .ok (.getfield 29, 3) := by decide +kernel
theorem dX5_fits_38 : decode cX5_fits 38 = .ok (.iload 4, 2) := by decide +kernel
theorem dX5_fits_40 : decode cX5_fits 40 = .ok (.iaload, 1) := by decide +kernel
theorem dX5_fits_41 : decode cX5_fits 41 = .ok (.if_icmp .ne 7, 3) := by decide +kernel
theorem dX5_fits_44 : decode cX5_fits 44 = .ok (.iconst 1, 1) := by decide +kernel
theorem dX5_fits_45 : decode cX5_fits 45 = .ok (.goto 4, 3) := by decide +kernel
theorem dX5_fits_48 : decode cX5_fits 48 = .ok (.iconst 0, 1) := by decide +kernel
theorem dX5_fits_49 : decode cX5_fits 49 = .ok (.istore 5, 2) := by decide +kernel
theorem dX5_fits_51 : decode cX5_fits 51 = .ok (.goto 91, 3) := by decide +kernel
theorem dX5_fits_54 : decode cX5_fits 54 = .ok (.aload_n 0, 1) := by decide +kernel
theorem dX5_fits_55 : decode cX5_fits 55 = .ok (.getfield 41, 3) := by decide +kernel
theorem dX5_fits_58 : decode cX5_fits 58 = .ok (.iconst 4, 1) := by decide +kernel
theorem dX5_fits_59 : decode cX5_fits 59 = .ok (.iload 4, 2) := by decide +kernel
theorem dX5_fits_61 : decode cX5_fits 61 = .ok (.imul, 1) := by decide +kernel
theorem dX5_fits_62 : decode cX5_fits 62 = .ok (.aload_n 0, 1) := by decide +kernel
theorem dX5_fits_63 : decode cX5_fits 63 = .ok (.getfield 53, 3) := by decide +kernel
theorem dX5_fits_66 : decode cX5_fits 66 = .ok (.iload_n 1, 1) := by decide +kernel
theorem dX5_fits_67 : decode cX5_fits 67 = .ok (.iaload, 1) := by decide +kernel
theorem dX5_fits_68 : decode cX5_fits 68 = .ok (.iadd, 1) := by decide +kernel
theorem dX5_fits_69 : decode cX5_fits 69 = .ok (.iaload, 1) := by decide +kernel
theorem dX5_fits_70 : decode cX5_fits 70 = .ok (.istore 6, 2) := by decide +kernel
theorem dX5_fits_72 : decode cX5_fits 72 = .ok (.aload_n 0, 1) := by decide +kernel
theorem dX5_fits_73 : decode cX5_fits 73 = .ok (.iload_n 2, 1) := by decide +kernel
theorem dX5_fits_74 : decode cX5_fits 74 = .ok (.aload_n 0, 1) := by decide +kernel
theorem dX5_fits_75 : decode cX5_fits 75 = .ok (.getfield 56, 3) := by decide +kernel
theorem dX5_fits_78 : decode cX5_fits 78 = .ok (.aload_n 0, 1) := by decide +kernel
theorem dX5_fits_79 : decode cX5_fits 79 = .ok (.iload_n 1, 1) := by decide +kernel
theorem dX5_fits_80 : decode cX5_fits 80 = .ok (.invokevirtual 117, 3) := by decide +kernel
theorem dX5_fits_83 : decode cX5_fits 83 = .ok (.iaload, 1) := by decide +kernel
theorem dX5_fits_84 : decode cX5_fits 84 = .ok (.aload_n 0, 1) := by decide +kernel
theorem dX5_fits_85 : decode cX5_fits 85 = .ok (.getfield 53, 3) := by decide +kernel
theorem dX5_fits_88 : decode cX5_fits 88 = .ok (.iload_n 1, 1) := by decide +kernel
theorem dX5_fits_89 : decode cX5_fits 89 = .ok (.iaload, 1) := by decide +kernel
theorem dX5_fits_90 : decode cX5_fits 90 = .ok (.invokevirtual 92, 3) := by decide +kernel
theorem dX5_fits_93 : decode cX5_fits 93 = .ok (.ifCond .eq 46, 3) := by decide +kernel
theorem dX5_fits_96 : decode cX5_fits 96 = .ok (.aload_n 0, 1) := by decide +kernel
theorem dX5_fits_97 : decode cX5_fits 97 = .ok (.getfield 35, 3) := by decide +kernel
theorem dX5_fits_100 : decode cX5_fits 100 = .ok (.iload 4, 2) := by decide +kernel
theorem dX5_fits_102 : decode cX5_fits 102 = .ok (.iaload, 1) := by decide +kernel
theorem dX5_fits_103 : decode cX5_fits 103 = .ok (.ifCond .eq 19, 3) := by decide +kernel
theorem dX5_fits_106 : decode cX5_fits 106 = .ok (.aload_n 0, 1) := by decide +kernel
theorem dX5_fits_107 : decode cX5_fits 107 = .ok (.getfield 13, 3) := by decide +kernel
theorem dX5_fits_110 : decode cX5_fits 110 = .ok (.iload_n 2, 1) := by decide +kernel
theorem dX5_fits_111 : decode cX5_fits 111 = .ok (.iaload, 1) := by decide +kernel
theorem dX5_fits_112 : decode cX5_fits 112 = .ok (.aload_n 0, 1) := by decide +kernel
theorem dX5_fits_113 : decode cX5_fits 113 = .ok (.getfield 35, 3) := by decide +kernel
theorem dX5_fits_116 : decode cX5_fits 116 = .ok (.iload 4, 2) := by decide +kernel
theorem dX5_fits_118 : decode cX5_fits 118 = .ok (.iaload, 1) := by decide +kernel
theorem dX5_fits_119 : decode cX5_fits 119 = .ok (.if_icmp .ne 20, 3) := by decide +kernel
theorem dX5_fits_122 : decode cX5_fits 122 = .ok (.iload 6, 2) := by decide +kernel
theorem dX5_fits_124 : decode cX5_fits 124 = .ok (.bipush (-6), 2) := by decide +kernel
theorem dX5_fits_126 : decode cX5_fits 126 = .ok (.if_icmp .eq 9, 3) := by decide +kernel
theorem dX5_fits_129 : decode cX5_fits 129 = .ok (.iload 6, 2) := by decide +kernel
theorem dX5_fits_131 : decode cX5_fits 131 = .ok (.iload_n 2, 1) := by decide +kernel
theorem dX5_fits_132 : decode cX5_fits 132 = .ok (.if_icmp .ne 7, 3) := by decide +kernel
theorem dX5_fits_135 : decode cX5_fits 135 = .ok (.iconst 1, 1) := by decide +kernel
theorem dX5_fits_136 : decode cX5_fits 136 = .ok (.goto 4, 3) := by decide +kernel
theorem dX5_fits_139 : decode cX5_fits 139 = .ok (.iconst 0, 1) := by decide +kernel
theorem dX5_fits_140 : decode cX5_fits 140 = .ok (.istore 5, 2) := by decide +kernel
theorem dX5_fits_142 : decode cX5_fits 142 = .ok (.iconst 0, 1) := by decide +kernel
theorem dX5_fits_143 : decode cX5_fits 143 = .ok (.istore 6, 2) := by decide +kernel
theorem dX5_fits_145 : decode cX5_fits 145 = .ok (.iload 6, 2) := by decide +kernel
theorem dX5_fits_147 : decode cX5_fits 147 = .ok (.iload_n 1, 1) := by decide +kernel
theorem dX5_fits_148 : decode cX5_fits 148 = .ok (.if_icmp .ge 52, 3) := by decide +kernel
theorem dX5_fits_151 : decode cX5_fits 151 = .ok (.iload 5, 2) := by decide +kernel
theorem dX5_fits_153 : decode cX5_fits 153 = .ok (.ifCond .eq 47, 3) := by decide +kernel
theorem dX5_fits_156 : decode cX5_fits 156 = .ok (.aload_n 0, 1) := by decide +kernel
theorem dX5_fits_157 : decode cX5_fits 157 = .ok (.getfield 53, 3) := by decide +kernel
theorem dX5_fits_160 : decode cX5_fits 160 = .ok (.iload 6, 2) := by decide +kernel
theorem dX5_fits_162 : decode cX5_fits 162 = .ok (.iaload, 1) := by decide +kernel
theorem dX5_fits_163 : decode cX5_fits 163 = .ok (.iconst (-1), 1) := by decide +kernel
theorem dX5_fits_164 : decode cX5_fits 164 = .ok (.if_icmp .ne 7, 3) := by decide +kernel
theorem dX5_fits_167 : decode cX5_fits 167 = .ok (.iconst 1, 1) := by decide +kernel
theorem dX5_fits_168 : decode cX5_fits 168 = .ok (.goto 4, 3) := by decide +kernel
theorem dX5_fits_171 : decode cX5_fits 171 = .ok (.iconst 0, 1) := by decide +kernel
theorem dX5_fits_172 : decode cX5_fits 172 = .ok (.iload_n 3, 1) := by decide +kernel
theorem dX5_fits_173 : decode cX5_fits 173 = .ok (.if_icmp .ne 14, 3) := by decide +kernel
theorem dX5_fits_176 : decode cX5_fits 176 = .ok (.aload_n 0, 1) := by decide +kernel
theorem dX5_fits_177 : decode cX5_fits 177 = .ok (.getfield 56, 3) := by decide +kernel
theorem dX5_fits_180 : decode cX5_fits 180 = .ok (.iload 6, 2) := by decide +kernel
theorem dX5_fits_182 : decode cX5_fits 182 = .ok (.iaload, 1) := by decide +kernel
theorem dX5_fits_183 : decode cX5_fits 183 = .ok (.iload_n 2, 1) := by decide +kernel
theorem dX5_fits_184 : decode cX5_fits 184 = .ok (.if_icmp .eq 7, 3) := by decide +kernel
theorem dX5_fits_187 : decode cX5_fits 187 = .ok (.iconst 1, 1) := by decide +kernel
theorem dX5_fits_188 : decode cX5_fits 188 = .ok (.goto 4, 3) := by decide +kernel
theorem dX5_fits_191 : decode cX5_fits 191 = .ok (.iconst 0, 1) := by decide +kernel
theorem dX5_fits_192 : decode cX5_fits 192 = .ok (.istore 5, 2) := by decide +kernel
theorem dX5_fits_194 : decode cX5_fits 194 = .ok (.iinc 6 1, 3) := by decide +kernel
theorem dX5_fits_197 : decode cX5_fits 197 = .ok (.goto (-52), 3) := by decide +kernel
theorem dX5_fits_200 : decode cX5_fits 200 = .ok (.iload 5, 2) := by decide +kernel
theorem dX5_fits_202 : decode cX5_fits 202 = .ok (.ireturn, 1) := by decide +kernel
theorem dX5_steps_0 : decode cX5_steps 0 = .ok (.iload_n 1, 1) := by decide +kernel
theorem dX5_steps_1 : decode cX5_steps 1 = .ok (.iload_n 2, 1) := by decide +kernel
theorem dX5_steps_2 : decode cX5_steps 2 = .ok (.if_icmp .ge 9, 3) := by decide +kernel
theorem dX5_steps_5 : decode cX5_steps 5 = .ok (.iload_n 2, 1) := by decide +kernel
theorem dX5_steps_6 : decode cX5_steps 6 = .ok (.iload_n 1, 1) := by decide +kernel
theorem dX5_steps_7 : decode cX5_steps 7 = .ok (.isub, 1) := by decide +kernel
theorem dX5_steps_8 : decode cX5_steps 8 = .ok (.goto 6, 3) := by decide +kernel
theorem dX5_steps_11 : decode cX5_steps 11 = .ok (.iload_n 1, 1) := by decide +kernel
theorem dX5_steps_12 : decode cX5_steps 12 = .ok (.iload_n 2, 1) := by decide +kernel
theorem dX5_steps_13 : decode cX5_steps 13 = .ok (.isub, 1) := by decide +kernel
theorem dX5_steps_14 : decode cX5_steps 14 = .ok (.istore_n 3, 1) := by decide +kernel
theorem dX5_steps_15 : decode cX5_steps 15 = .ok (.iload_n 3, 1) := by decide +kernel
theorem dX5_steps_16 : decode cX5_steps 16 = .ok (.aload_n 0, 1) := by decide +kernel
theorem dX5_steps_17 : decode cX5_steps 17 = .ok (.getfield 7, 3) := by decide +kernel
theorem dX5_steps_20 : decode cX5_steps 20 = .ok (.iload_n 3, 1) := by decide +kernel
theorem dX5_steps_21 : decode cX5_steps 21 = .ok (.isub, 1) := by decide +kernel
theorem dX5_steps_22 : decode cX5_steps 22 = .ok (.if_icmp .ge 7, 3) := by decide +kernel
theorem dX5_steps_25 : decode cX5_steps 25 = .ok (.iload_n 3, 1) := by decide +kernel
theorem dX5_steps_26 : decode cX5_steps 26 = .ok (.goto 9, 3) := by decide +kernel
theorem dX5_steps_29 : decode cX5_steps 29 = .ok (.aload_n 0, 1) := by decide +kernel
theorem dX5_steps_30 : decode cX5_steps 30 = .ok (.getfield 7, 3) := by decide +kernel
theorem dX5_steps_33 : decode cX5_steps 33 = .ok (.iload_n 3, 1) := by decide +kernel
theorem dX5_steps_34 : decode cX5_steps 34 = .ok (.isub, 1) := by decide +kernel
theorem dX5_steps_35 : decode cX5_steps 35 = .ok (.ireturn, 1) := by decide +kernel
theorem dX5_costTo_0 : decode cX5_costTo 0 = .ok (.iconst 0, 1) := by decide +kernel
theorem dX5_costTo_1 : decode cX5_costTo 1 = .ok (.istore_n 2, 1) := by decide +kernel
theorem dX5_costTo_2 : decode cX5_costTo 2 = .ok (.iconst 0, 1) := by decide +kernel
theorem dX5_costTo_3 : decode cX5_costTo 3 = .ok (.istore_n 3, 1) := by decide +kernel
theorem dX5_costTo_4 : decode cX5_costTo 4 = .ok (.iload_n 3, 1) := by decide +kernel
theorem dX5_costTo_5 : decode cX5_costTo 5 = .ok (.iload_n 1, 1) := by decide +kernel
theorem dX5_costTo_6 : decode cX5_costTo 6 = .ok (.if_icmp .gt 47, 3) := by decide +kernel
theorem dX5_costTo_9 : decode cX5_costTo 9 = .ok (.iload_n 2, 1) := by decide +kernel
theorem dX5_costTo_10 : decode cX5_costTo 10 = .ok (.aload_n 0, 1) := by decide +kernel
theorem dX5_costTo_11 : decode cX5_costTo 11 = .ok (.getfield 53, 3) := by decide +kernel
theorem dX5_costTo_14 : decode cX5_costTo 14 = .ok (.iload_n 3, 1) := by decide +kernel
theorem dX5_costTo_15 : decode cX5_costTo 15 = .ok (.iaload, 1) := by decide +kernel
theorem dX5_costTo_16 : decode cX5_costTo 16 = .ok (.iconst (-1), 1) := by decide +kernel
theorem dX5_costTo_17 : decode cX5_costTo 17 = .ok (.if_icmp .ne 7, 3) := by decide +kernel
theorem dX5_costTo_20 : decode cX5_costTo 20 = .ok (.iconst 0, 1) := by decide +kernel
theorem dX5_costTo_21 : decode cX5_costTo 21 = .ok (.goto 24, 3) := by decide +kernel
theorem dX5_costTo_24 : decode cX5_costTo 24 = .ok (.aload_n 0, 1) := by decide +kernel
theorem dX5_costTo_25 : decode cX5_costTo 25 = .ok (.aload_n 0, 1) := by decide +kernel
theorem dX5_costTo_26 : decode cX5_costTo 26 = .ok (.getfield 56, 3) := by decide +kernel
theorem dX5_costTo_29 : decode cX5_costTo 29 = .ok (.iload_n 3, 1) := by decide +kernel
theorem dX5_costTo_30 : decode cX5_costTo 30 = .ok (.iaload, 1) := by decide +kernel
theorem dX5_costTo_31 : decode cX5_costTo 31 = .ok (.aload_n 0, 1) := by decide +kernel
theorem dX5_costTo_32 : decode cX5_costTo 32 = .ok (.getfield 38, 3) := by decide +kernel
theorem dX5_costTo_35 : decode cX5_costTo 35 = .ok (.aload_n 0, 1) := by decide +kernel
theorem dX5_costTo_36 : decode cX5_costTo 36 = .ok (.getfield 50, 3) := by decide +kernel
theorem dX5_costTo_39 : decode cX5_costTo 39 = .ok (.iload_n 3, 1) := by decide +kernel
theorem dX5_costTo_40 : decode cX5_costTo 40 = .ok (.iaload, 1) := by decide +kernel
theorem dX5_costTo_41 : decode cX5_costTo 41 = .ok (.iaload, 1) := by decide +kernel
theorem dX5_costTo_42 : decode cX5_costTo 42 = .ok (.invokevirtual 121, 3) := by decide +kernel
theorem dX5_costTo_45 : decode cX5_costTo 45 = .ok (.iadd, 1) := by decide +kernel
theorem dX5_costTo_46 : decode cX5_costTo 46 = .ok (.istore_n 2, 1) := by decide +kernel
theorem dX5_costTo_47 : decode cX5_costTo 47 = .ok (.iinc 3 1, 3) := by decide +kernel
theorem dX5_costTo_50 : decode cX5_costTo 50 = .ok (.goto (-46), 3) := by decide +kernel
theorem dX5_costTo_53 : decode cX5_costTo 53 = .ok (.iload_n 2, 1) := by decide +kernel
theorem dX5_costTo_54 : decode cX5_costTo 54 = .ok (.ireturn, 1) := by decide +kernel
theorem dX5_movesTo_0 : decode cX5_movesTo 0 = .ok (.iconst 0, 1) := by decide +kernel
theorem dX5_movesTo_1 : decode cX5_movesTo 1 = .ok (.istore_n 2, 1) := by decide +kernel
theorem dX5_movesTo_2 : decode cX5_movesTo 2 = .ok (.iconst 0, 1) := by decide +kernel
theorem dX5_movesTo_3 : decode cX5_movesTo 3 = .ok (.istore_n 3, 1) := by decide +kernel
theorem dX5_movesTo_4 : decode cX5_movesTo 4 = .ok (.iload_n 3, 1) := by decide +kernel
theorem dX5_movesTo_5 : decode cX5_movesTo 5 = .ok (.iload_n 1, 1) := by decide +kernel
theorem dX5_movesTo_6 : decode cX5_movesTo 6 = .ok (.if_icmp .gt 104, 3) := by decide +kernel
theorem dX5_movesTo_9 : decode cX5_movesTo 9 = .ok (.aload_n 0, 1) := by decide +kernel
theorem dX5_movesTo_10 : decode cX5_movesTo 10 = .ok (.getfield 50, 3) := by decide +kernel
theorem dX5_movesTo_13 : decode cX5_movesTo 13 = .ok (.iload_n 3, 1) := by decide +kernel
theorem dX5_movesTo_14 : decode cX5_movesTo 14 = .ok (.iaload, 1) := by decide +kernel
theorem dX5_movesTo_15 : decode cX5_movesTo 15 = .ok (.istore 4, 2) := by decide +kernel
theorem dX5_movesTo_17 : decode cX5_movesTo 17 = .ok (.aload_n 0, 1) := by decide +kernel
theorem dX5_movesTo_18 : decode cX5_movesTo 18 = .ok (.getfield 53, 3) := by decide +kernel
theorem dX5_movesTo_21 : decode cX5_movesTo 21 = .ok (.iload_n 3, 1) := by decide +kernel
theorem dX5_movesTo_22 : decode cX5_movesTo 22 = .ok (.iaload, 1) := by decide +kernel
theorem dX5_movesTo_23 : decode cX5_movesTo 23 = .ok (.iconst (-1), 1) := by decide +kernel
theorem dX5_movesTo_24 : decode cX5_movesTo 24 = .ok (.if_icmp .eq 80, 3) := by decide +kernel
theorem dX5_movesTo_27 : decode cX5_movesTo 27 = .ok (.aload_n 0, 1) := by decide +kernel
theorem dX5_movesTo_28 : decode cX5_movesTo 28 = .ok (.getfield 44, 3) := by decide +kernel
theorem dX5_movesTo_31 : decode cX5_movesTo 31 = .ok (.iload 4, 2) := by decide +kernel
theorem dX5_movesTo_33 : decode cX5_movesTo 33 = .ok (.iaload, 1) := by decide +kernel
theorem dX5_movesTo_34 : decode cX5_movesTo 34 = .ok (.bipush (-6), 2) := by decide +kernel
theorem dX5_movesTo_36 : decode cX5_movesTo 36 = .ok (.if_icmp .eq 68, 3) := by decide +kernel
theorem dX5_movesTo_39 : decode cX5_movesTo 39 = .ok (.aload_n 0, 1) := by decide +kernel
theorem dX5_movesTo_40 : decode cX5_movesTo 40 = .ok (.getfield 44, 3) := by decide +kernel
theorem dX5_movesTo_43 : decode cX5_movesTo 43 = .ok (.iload 4, 2) := by decide +kernel
theorem dX5_movesTo_45 : decode cX5_movesTo 45 = .ok (.iaload, 1) := by decide +kernel
theorem dX5_movesTo_46 : decode cX5_movesTo 46 = .ok (.aload_n 0, 1) := by decide +kernel
theorem dX5_movesTo_47 : decode cX5_movesTo 47 = .ok (.getfield 56, 3) := by decide +kernel
theorem dX5_movesTo_50 : decode cX5_movesTo 50 = .ok (.aload_n 0, 1) := by decide +kernel
theorem dX5_movesTo_51 : decode cX5_movesTo 51 = .ok (.iload_n 3, 1) := by decide +kernel
theorem dX5_movesTo_52 : decode cX5_movesTo 52 = .ok (.invokevirtual 117, 3) := by decide +kernel
theorem dX5_movesTo_55 : decode cX5_movesTo 55 = .ok (.iaload, 1) := by decide +kernel
theorem dX5_movesTo_56 : decode cX5_movesTo 56 = .ok (.if_icmp .ne 32, 3) := by decide +kernel
theorem dX5_movesTo_59 : decode cX5_movesTo 59 = .ok (.aload_n 0, 1) := by decide +kernel
theorem dX5_movesTo_60 : decode cX5_movesTo 60 = .ok (.getfield 47, 3) := by decide +kernel
theorem dX5_movesTo_63 : decode cX5_movesTo 63 = .ok (.iconst 4, 1) := by decide +kernel
theorem dX5_movesTo_64 : decode cX5_movesTo 64 = .ok (.iload 4, 2) := by decide +kernel
theorem dX5_movesTo_66 : decode cX5_movesTo 66 = .ok (.imul, 1) := by decide +kernel
theorem dX5_movesTo_67 : decode cX5_movesTo 67 = .ok (.aload_n 0, 1) := by decide +kernel
theorem dX5_movesTo_68 : decode cX5_movesTo 68 = .ok (.getfield 53, 3) := by decide +kernel
theorem dX5_movesTo_71 : decode cX5_movesTo 71 = .ok (.iload_n 3, 1) := by decide +kernel
theorem dX5_movesTo_72 : decode cX5_movesTo 72 = .ok (.iaload, 1) := by decide +kernel
theorem dX5_movesTo_73 : decode cX5_movesTo 73 = .ok (.iadd, 1) := by decide +kernel
theorem dX5_movesTo_74 : decode cX5_movesTo 74 = .ok (.iaload, 1) := by decide +kernel
theorem dX5_movesTo_75 : decode cX5_movesTo 75 = .ok (.aload_n 0, 1) := by decide +kernel
theorem dX5_movesTo_76 : decode cX5_movesTo 76 = .ok (.getfield 56, 3) := by decide +kernel
theorem dX5_movesTo_79 : decode cX5_movesTo 79 = .ok (.iload_n 3, 1) := by decide +kernel
theorem dX5_movesTo_80 : decode cX5_movesTo 80 = .ok (.iaload, 1) := by decide +kernel
theorem dX5_movesTo_81 : decode cX5_movesTo 81 = .ok (.if_icmp .ne 7, 3) := by decide +kernel
theorem dX5_movesTo_84 : decode cX5_movesTo 84 = .ok (.iconst 1, 1) := by decide +kernel
theorem dX5_movesTo_85 : decode cX5_movesTo 85 = .ok (.goto 4, 3) := by decide +kernel
theorem dX5_movesTo_88 : decode cX5_movesTo 88 = .ok (.iconst 0, 1) := by decide +kernel
theorem dX5_movesTo_89 : decode cX5_movesTo 89 = .ok (.istore 5, 2) := by decide +kernel
theorem dX5_movesTo_91 : decode cX5_movesTo 91 = .ok (.iload_n 2, 1) := by decide +kernel
theorem dX5_movesTo_92 : decode cX5_movesTo 92 = .ok (.iload 5, 2) := by decide +kernel
theorem dX5_movesTo_94 : decode cX5_movesTo 94 = .ok (.ifCond .eq 7, 3) := by decide +kernel
theorem dX5_movesTo_97 : decode cX5_movesTo 97 = .ok (.iconst 0, 1) := by decide +kernel
theorem dX5_movesTo_98 : decode cX5_movesTo 98 = .ok (.goto 4, 3) := by decide +kernel
theorem dX5_movesTo_101 : decode cX5_movesTo 101 = .ok (.iconst 1, 1) := by decide +kernel
theorem dX5_movesTo_102 : decode cX5_movesTo 102 = .ok (.iadd, 1) := by decide +kernel
theorem dX5_movesTo_103 : decode cX5_movesTo 103 = .ok (.istore_n 2, 1) := by decide +kernel
theorem dX5_movesTo_104 : decode cX5_movesTo 104 = .ok (.iinc 3 1, 3) := by decide +kernel
theorem dX5_movesTo_107 : decode cX5_movesTo 107 = .ok (.goto (-103), 3) := by decide +kernel
theorem dX5_movesTo_110 : decode cX5_movesTo 110 = .ok (.iload_n 2, 1) := by decide +kernel
theorem dX5_movesTo_111 : decode cX5_movesTo 111 = .ok (.ireturn, 1) := by decide +kernel
theorem dX5_isBetter_0 : decode cX5_isBetter 0 = .ok (.aload_n 0, 1) := by decide +kernel
theorem dX5_isBetter_1 : decode cX5_isBetter 1 = .ok (.getfield 114, 3) := by decide +kernel
theorem dX5_isBetter_4 : decode cX5_isBetter 4 = .ok (.ifCond .ge 5, 3) := by decide +kernel
theorem dX5_isBetter_7 : decode cX5_isBetter 7 = .ok (.iconst 1, 1) := by decide +kernel
theorem dX5_isBetter_8 : decode cX5_isBetter 8 = .ok (.ireturn, 1) := by decide +kernel
theorem dX5_isBetter_9 : decode cX5_isBetter 9 = .ok (.aload_n 0, 1) := by decide +kernel
theorem dX5_isBetter_10 : decode cX5_isBetter 10 = .ok (.getfield 108, 3) := by decide +kernel
theorem dX5_isBetter_13 : decode cX5_isBetter 13 = .ok (.ifCond .eq 11, 3) := by decide +kernel
theorem dX5_isBetter_16 : decode cX5_isBetter 16 = .ok (.aload_n 0, 1) := by decide +kernel
theorem dX5_isBetter_17 : decode cX5_isBetter 17 = .ok (.iload_n 1, 1) := by decide +kernel
theorem dX5_isBetter_18 : decode cX5_isBetter 18 = .ok (.invokevirtual 125, 3) := by decide +kernel
theorem dX5_isBetter_21 : decode cX5_isBetter 21 = .ok (.goto 4, 3) := by decide +kernel
theorem dX5_isBetter_24 : decode cX5_isBetter 24 = .ok (.iconst 0, 1) := by decide +kernel
theorem dX5_isBetter_25 : decode cX5_isBetter 25 = .ok (.istore_n 2, 1) := by decide +kernel
theorem dX5_isBetter_26 : decode cX5_isBetter 26 = .ok (.iload_n 2, 1) := by decide +kernel
theorem dX5_isBetter_27 : decode cX5_isBetter 27 = .ok (.aload_n 0, 1) := by decide +kernel
theorem dX5_isBetter_28 : decode cX5_isBetter 28 = .ok (.getfield 111, 3) := by decide +kernel
theorem dX5_isBetter_31 : decode cX5_isBetter 31 = .ok (.if_icmp .lt 23, 3) := by decide +kernel
theorem dX5_isBetter_34 : decode cX5_isBetter 34 = .ok (.iload_n 2, 1) := by decide +kernel
theorem dX5_isBetter_35 : decode cX5_isBetter 35 = .ok (.aload_n 0, 1) := by decide +kernel
theorem dX5_isBetter_36 : decode cX5_isBetter 36 = .ok (.getfield 111, 3) := by decide +kernel
theorem dX5_isBetter_39 : decode cX5_isBetter 39 = .ok (.if_icmp .ne 19, 3) := by decide +kernel
theorem dX5_isBetter_42 : decode cX5_isBetter 42 = .ok (.aload_n 0, 1) := by decide +kernel
theorem dX5_isBetter_43 : decode cX5_isBetter 43 = .ok (.iload_n 1, 1) := by decide +kernel
theorem dX5_isBetter_44 : decode cX5_isBetter 44 = .ok (.invokevirtual 128, 3) := by decide +kernel
theorem dX5_isBetter_47 : decode cX5_isBetter 47 = .ok (.aload_n 0, 1) := by decide +kernel
theorem dX5_isBetter_48 : decode cX5_isBetter 48 = .ok (.getfield 114, 3) := by decide +kernel
theorem dX5_isBetter_51 : decode cX5_isBetter 51 = .ok (.if_icmp .ge 7, 3) := by decide +kernel
theorem dX5_isBetter_54 : decode cX5_isBetter 54 = .ok (.iconst 1, 1) := by decide +kernel
theorem dX5_isBetter_55 : decode cX5_isBetter 55 = .ok (.goto 4, 3) := by decide +kernel
theorem dX5_isBetter_58 : decode cX5_isBetter 58 = .ok (.iconst 0, 1) := by decide +kernel
theorem dX5_isBetter_59 : decode cX5_isBetter 59 = .ok (.ireturn, 1) := by decide +kernel
theorem dX5_keepBound_0 : decode cX5_keepBound 0 = .ok (.aload_n 0, 1) := by decide +kernel
theorem dX5_keepBound_1 : decode cX5_keepBound 1 = .ok (.aload_n 0, 1) := by decide +kernel
theorem dX5_keepBound_2 : decode cX5_keepBound 2 = .ok (.getfield 108, 3) := by decide +kernel
theorem dX5_keepBound_5 : decode cX5_keepBound 5 = .ok (.ifCond .eq 16, 3) := by decide +kernel
theorem dX5_keepBound_8 : decode cX5_keepBound 8 = .ok (.aload_n 0, 1) := by decide +kernel
theorem dX5_keepBound_9 : decode cX5_keepBound 9 = .ok (.aload_n 0, 1) := by decide +kernel
theorem dX5_keepBound_10 : decode cX5_keepBound 10 = .ok (.getfield 102, 3) := by decide +kernel
theorem dX5_keepBound_13 : decode cX5_keepBound 13 = .ok (.iconst 1, 1) := by decide +kernel
theorem dX5_keepBound_14 : decode cX5_keepBound 14 = .ok (.isub, 1) := by decide +kernel
theorem dX5_keepBound_15 : decode cX5_keepBound 15 = .ok (.invokevirtual 125, 3) := by decide +kernel
theorem dX5_keepBound_18 : decode cX5_keepBound 18 = .ok (.goto 4, 3) := by decide +kernel
theorem dX5_keepBound_21 : decode cX5_keepBound 21 = .ok (.iconst 0, 1) := by decide +kernel
theorem dX5_keepBound_22 : decode cX5_keepBound 22 = .ok (.putfield 111, 3) := by decide +kernel
theorem dX5_keepBound_25 : decode cX5_keepBound 25 = .ok (.aload_n 0, 1) := by decide +kernel
theorem dX5_keepBound_26 : decode cX5_keepBound 26 = .ok (.aload_n 0, 1) := by decide +kernel
theorem dX5_keepBound_27 : decode cX5_keepBound 27 = .ok (.aload_n 0, 1) := by decide +kernel
theorem dX5_keepBound_28 : decode cX5_keepBound 28 = .ok (.getfield 102, 3) := by decide +kernel
theorem dX5_keepBound_31 : decode cX5_keepBound 31 = .ok (.iconst 1, 1) := by decide +kernel
theorem dX5_keepBound_32 : decode cX5_keepBound 32 = .ok (.isub, 1) := by decide +kernel
theorem dX5_keepBound_33 : decode cX5_keepBound 33 = .ok (.invokevirtual 128, 3) := by decide +kernel
theorem dX5_keepBound_36 : decode cX5_keepBound 36 = .ok (.putfield 114, 3) := by decide +kernel
theorem dX5_keepBound_39 : decode cX5_keepBound 39 = .ok (.return_, 1) := by decide +kernel
theorem dX5_next_0 : decode cX5_next 0 = .ok (.aload_n 0, 1) := by decide +kernel
theorem dX5_next_1 : decode cX5_next 1 = .ok (.getfield 102, 3) := by decide +kernel
theorem dX5_next_4 : decode cX5_next 4 = .ok (.ifCond .ne 15, 3) := by decide +kernel
theorem dX5_next_7 : decode cX5_next 7 = .ok (.aload_n 0, 1) := by decide +kernel
theorem dX5_next_8 : decode cX5_next 8 = .ok (.getfield 105, 3) := by decide +kernel
theorem dX5_next_11 : decode cX5_next 11 = .ok (.istore_n 1, 1) := by decide +kernel
theorem dX5_next_12 : decode cX5_next 12 = .ok (.aload_n 0, 1) := by decide +kernel
theorem dX5_next_13 : decode cX5_next 13 = .ok (.iconst 0, 1) := by decide +kernel
theorem dX5_next_14 : decode cX5_next 14 = .ok (.putfield 105, 3) := by decide +kernel
theorem dX5_next_17 : decode cX5_next 17 = .ok (.iload_n 1, 1) := by decide +kernel
theorem dX5_next_18 : decode cX5_next 18 = .ok (.ireturn, 1) := by decide +kernel
theorem dX5_next_19 : decode cX5_next 19 = .ok (.aload_n 0, 1) := by decide +kernel
theorem dX5_next_20 : decode cX5_next 20 = .ok (.getfield 105, 3) := by decide +kernel
theorem dX5_next_23 : decode cX5_next 23 = .ok (.ifCond .eq 7, 3) := by decide +kernel
theorem dX5_next_26 : decode cX5_next 26 = .ok (.iconst 0, 1) := by decide +kernel
theorem dX5_next_27 : decode cX5_next 27 = .ok (.goto 9, 3) := by decide +kernel
theorem dX5_next_30 : decode cX5_next 30 = .ok (.aload_n 0, 1) := by decide +kernel
theorem dX5_next_31 : decode cX5_next 31 = .ok (.getfield 102, 3) := by decide +kernel
theorem dX5_next_34 : decode cX5_next 34 = .ok (.iconst 1, 1) := by decide +kernel
theorem dX5_next_35 : decode cX5_next 35 = .ok (.isub, 1) := by decide +kernel
theorem dX5_next_36 : decode cX5_next 36 = .ok (.istore_n 1, 1) := by decide +kernel
theorem dX5_next_37 : decode cX5_next 37 = .ok (.aload_n 0, 1) := by decide +kernel
theorem dX5_next_38 : decode cX5_next 38 = .ok (.iconst 0, 1) := by decide +kernel
theorem dX5_next_39 : decode cX5_next 39 = .ok (.putfield 105, 3) := by decide +kernel
theorem dX5_next_42 : decode cX5_next 42 = .ok (.iload_n 1, 1) := by decide +kernel
theorem dX5_next_43 : decode cX5_next 43 = .ok (.ifCond .lt 144, 3) := by decide +kernel
theorem dX5_next_46 : decode cX5_next 46 = .ok (.aload_n 0, 1) := by decide +kernel
theorem dX5_next_47 : decode cX5_next 47 = .ok (.getfield 53, 3) := by decide +kernel
theorem dX5_next_50 : decode cX5_next 50 = .ok (.iload_n 1, 1) := by decide +kernel
theorem dX5_next_51 : decode cX5_next 51 = .ok (.iaload, 1) := by decide +kernel
theorem dX5_next_52 : decode cX5_next 52 = .ok (.iconst (-1), 1) := by decide +kernel
theorem dX5_next_53 : decode cX5_next 53 = .ok (.if_icmp .ne 10, 3) := by decide +kernel
theorem dX5_next_56 : decode cX5_next 56 = .ok (.aload_n 0, 1) := by decide +kernel
theorem dX5_next_57 : decode cX5_next 57 = .ok (.getfield 68, 3) := by decide +kernel
theorem dX5_next_60 : decode cX5_next 60 = .ok (.goto 7, 3) := by decide +kernel
theorem dX5_next_63 : decode cX5_next 63 = .ok (.aload_n 0, 1) := by decide +kernel
theorem dX5_next_64 : decode cX5_next 64 = .ok (.getfield 7, 3) := by decide +kernel
theorem dX5_next_67 : decode cX5_next 67 = .ok (.istore_n 2, 1) := by decide +kernel
theorem dX5_next_68 : decode cX5_next 68 = .ok (.aload_n 0, 1) := by decide +kernel
theorem dX5_next_69 : decode cX5_next 69 = .ok (.getfield 56, 3) := by decide +kernel
theorem dX5_next_72 : decode cX5_next 72 = .ok (.iload_n 1, 1) := by decide +kernel
theorem dX5_next_73 : decode cX5_next 73 = .ok (.iaload, 1) := by decide +kernel
theorem dX5_next_74 : decode cX5_next 74 = .ok (.ifCond .ge 7, 3) := by decide +kernel
theorem dX5_next_77 : decode cX5_next 77 = .ok (.iconst 0, 1) := by decide +kernel
theorem dX5_next_78 : decode cX5_next 78 = .ok (.goto 11, 3) := by decide +kernel
theorem dX5_next_81 : decode cX5_next 81 = .ok (.aload_n 0, 1) := by decide +kernel
theorem dX5_next_82 : decode cX5_next 82 = .ok (.getfield 56, 3) := by decide +kernel
theorem dX5_next_85 : decode cX5_next 85 = .ok (.iload_n 1, 1) := by decide +kernel
theorem dX5_next_86 : decode cX5_next 86 = .ok (.iaload, 1) := by decide +kernel
theorem dX5_next_87 : decode cX5_next 87 = .ok (.iconst 1, 1) := by decide +kernel
theorem dX5_next_88 : decode cX5_next 88 = .ok (.iadd, 1) := by decide +kernel
theorem dX5_next_89 : decode cX5_next 89 = .ok (.istore_n 3, 1) := by decide +kernel
theorem dX5_next_90 : decode cX5_next 90 = .ok (.aload_n 0, 1) := by decide +kernel
theorem dX5_next_91 : decode cX5_next 91 = .ok (.getfield 56, 3) := by decide +kernel
theorem dX5_next_94 : decode cX5_next 94 = .ok (.iload_n 1, 1) := by decide +kernel
theorem dX5_next_95 : decode cX5_next 95 = .ok (.bipush (-6), 2) := by decide +kernel
theorem dX5_next_97 : decode cX5_next 97 = .ok (.iastore, 1) := by decide +kernel
theorem dX5_next_98 : decode cX5_next 98 = .ok (.iconst 0, 1) := by decide +kernel
theorem dX5_next_99 : decode cX5_next 99 = .ok (.istore 4, 2) := by decide +kernel
theorem dX5_next_101 : decode cX5_next 101 = .ok (.iload 4, 2) := by decide +kernel
theorem dX5_next_103 : decode cX5_next 103 = .ok (.ifCond .ne 47, 3) := by decide +kernel
theorem dX5_next_106 : decode cX5_next 106 = .ok (.iload_n 3, 1) := by decide +kernel
theorem dX5_next_107 : decode cX5_next 107 = .ok (.iload_n 2, 1) := by decide +kernel
theorem dX5_next_108 : decode cX5_next 108 = .ok (.if_icmp .ge 42, 3) := by decide +kernel
theorem dX5_next_111 : decode cX5_next 111 = .ok (.aload_n 0, 1) := by decide +kernel
theorem dX5_next_112 : decode cX5_next 112 = .ok (.iload_n 1, 1) := by decide +kernel
theorem dX5_next_113 : decode cX5_next 113 = .ok (.iload_n 3, 1) := by decide +kernel
theorem dX5_next_114 : decode cX5_next 114 = .ok (.invokevirtual 131, 3) := by decide +kernel
theorem dX5_next_117 : decode cX5_next 117 = .ok (.ifCond .eq 17, 3) := by decide +kernel
theorem dX5_next_120 : decode cX5_next 120 = .ok (.aload_n 0, 1) := by decide +kernel
theorem dX5_next_121 : decode cX5_next 121 = .ok (.getfield 56, 3) := by decide +kernel
theorem dX5_next_124 : decode cX5_next 124 = .ok (.iload_n 1, 1) := by decide +kernel
theorem dX5_next_125 : decode cX5_next 125 = .ok (.iload_n 3, 1) := by decide +kernel
theorem dX5_next_126 : decode cX5_next 126 = .ok (.iastore, 1) := by decide +kernel
theorem dX5_next_127 : decode cX5_next 127 = .ok (.aload_n 0, 1) := by decide +kernel
theorem dX5_next_128 : decode cX5_next 128 = .ok (.iload_n 1, 1) := by decide +kernel
theorem dX5_next_129 : decode cX5_next 129 = .ok (.invokevirtual 134, 3) := by decide +kernel
theorem dX5_next_132 : decode cX5_next 132 = .ok (.istore 4, 2) := by decide +kernel
theorem dX5_next_134 : decode cX5_next 134 = .ok (.iload_n 3, 1) := by decide +kernel
theorem dX5_next_135 : decode cX5_next 135 = .ok (.iload 4, 2) := by decide +kernel
theorem dX5_next_137 : decode cX5_next 137 = .ok (.ifCond .eq 7, 3) := by decide +kernel
theorem dX5_next_140 : decode cX5_next 140 = .ok (.iconst 0, 1) := by decide +kernel
theorem dX5_next_141 : decode cX5_next 141 = .ok (.goto 4, 3) := by decide +kernel
theorem dX5_next_144 : decode cX5_next 144 = .ok (.iconst 1, 1) := by decide +kernel
theorem dX5_next_145 : decode cX5_next 145 = .ok (.iadd, 1) := by decide +kernel
theorem dX5_next_146 : decode cX5_next 146 = .ok (.istore_n 3, 1) := by decide +kernel
theorem dX5_next_147 : decode cX5_next 147 = .ok (.goto (-46), 3) := by decide +kernel
theorem dX5_next_150 : decode cX5_next 150 = .ok (.iload 4, 2) := by decide +kernel
theorem dX5_next_152 : decode cX5_next 152 = .ok (.ifCond .ne 17, 3) := by decide +kernel
theorem dX5_next_155 : decode cX5_next 155 = .ok (.aload_n 0, 1) := by decide +kernel
theorem dX5_next_156 : decode cX5_next 156 = .ok (.getfield 56, 3) := by decide +kernel
theorem dX5_next_159 : decode cX5_next 159 = .ok (.iload_n 1, 1) := by decide +kernel
theorem dX5_next_160 : decode cX5_next 160 = .ok (.bipush (-6), 2) := by decide +kernel
theorem dX5_next_162 : decode cX5_next 162 = .ok (.iastore, 1) := by decide +kernel
theorem dX5_next_163 : decode cX5_next 163 = .ok (.iinc 1 (-1), 3) := by decide +kernel
theorem dX5_next_166 : decode cX5_next 166 = .ok (.goto 18, 3) := by decide +kernel
theorem dX5_next_169 : decode cX5_next 169 = .ok (.iload_n 1, 1) := by decide +kernel
theorem dX5_next_170 : decode cX5_next 170 = .ok (.aload_n 0, 1) := by decide +kernel
theorem dX5_next_171 : decode cX5_next 171 = .ok (.getfield 102, 3) := by decide +kernel
theorem dX5_next_174 : decode cX5_next 174 = .ok (.iconst 1, 1) := by decide +kernel
theorem dX5_next_175 : decode cX5_next 175 = .ok (.isub, 1) := by decide +kernel
theorem dX5_next_176 : decode cX5_next 176 = .ok (.if_icmp .ne 5, 3) := by decide +kernel
theorem dX5_next_179 : decode cX5_next 179 = .ok (.iconst 1, 1) := by decide +kernel
theorem dX5_next_180 : decode cX5_next 180 = .ok (.ireturn, 1) := by decide +kernel
theorem dX5_next_181 : decode cX5_next 181 = .ok (.iinc 1 1, 3) := by decide +kernel
theorem dX5_next_184 : decode cX5_next 184 = .ok (.goto (-142), 3) := by decide +kernel
theorem dX5_next_187 : decode cX5_next 187 = .ok (.iconst 0, 1) := by decide +kernel
theorem dX5_next_188 : decode cX5_next 188 = .ok (.ireturn, 1) := by decide +kernel
theorem dX5_all_0 : decode cX5_all 0 = .ok (.iconst 1, 1) := by decide +kernel
theorem dX5_all_1 : decode cX5_all 1 = .ok (.aload_n 0, 1) := by decide +kernel
theorem dX5_all_2 : decode cX5_all 2 = .ok (.getfield 74, 3) := by decide +kernel
theorem dX5_all_5 : decode cX5_all 5 = .ok (.ishl, 1) := by decide +kernel
theorem dX5_all_6 : decode cX5_all 6 = .ok (.iconst 1, 1) := by decide +kernel
theorem dX5_all_7 : decode cX5_all 7 = .ok (.isub, 1) := by decide +kernel
theorem dX5_all_8 : decode cX5_all 8 = .ok (.ireturn, 1) := by decide +kernel
theorem dX5_keepBest_0 : decode cX5_keepBest 0 = .ok (.iconst 0, 1) := by decide +kernel
theorem dX5_keepBest_1 : decode cX5_keepBest 1 = .ok (.istore_n 1, 1) := by decide +kernel
theorem dX5_keepBest_2 : decode cX5_keepBest 2 = .ok (.iload_n 1, 1) := by decide +kernel
theorem dX5_keepBest_3 : decode cX5_keepBest 3 = .ok (.iconst 4, 1) := by decide +kernel
theorem dX5_keepBest_4 : decode cX5_keepBest 4 = .ok (.if_icmp .ge 17, 3) := by decide +kernel
theorem dX5_keepBest_7 : decode cX5_keepBest 7 = .ok (.aload_n 0, 1) := by decide +kernel
theorem dX5_keepBest_8 : decode cX5_keepBest 8 = .ok (.getfield 59, 3) := by decide +kernel
theorem dX5_keepBest_11 : decode cX5_keepBest 11 = .ok (.iload_n 1, 1) := by decide +kernel
theorem dX5_keepBest_12 : decode cX5_keepBest 12 = .ok (.bipush (-6), 2) := by decide +kernel
theorem dX5_keepBest_14 : decode cX5_keepBest 14 = .ok (.iastore, 1) := by decide +kernel
theorem dX5_keepBest_15 : decode cX5_keepBest 15 = .ok (.iinc 1 1, 3) := by decide +kernel
theorem dX5_keepBest_18 : decode cX5_keepBest 18 = .ok (.goto (-16), 3) := by decide +kernel
theorem dX5_keepBest_21 : decode cX5_keepBest 21 = .ok (.iconst 0, 1) := by decide +kernel
theorem dX5_keepBest_22 : decode cX5_keepBest 22 = .ok (.istore_n 1, 1) := by decide +kernel
theorem dX5_keepBest_23 : decode cX5_keepBest 23 = .ok (.iload_n 1, 1) := by decide +kernel
theorem dX5_keepBest_24 : decode cX5_keepBest 24 = .ok (.bipush 16, 2) := by decide +kernel
theorem dX5_keepBest_26 : decode cX5_keepBest 26 = .ok (.if_icmp .ge 17, 3) := by decide +kernel
theorem dX5_keepBest_29 : decode cX5_keepBest 29 = .ok (.aload_n 0, 1) := by decide +kernel
theorem dX5_keepBest_30 : decode cX5_keepBest 30 = .ok (.getfield 62, 3) := by decide +kernel
theorem dX5_keepBest_33 : decode cX5_keepBest 33 = .ok (.iload_n 1, 1) := by decide +kernel
theorem dX5_keepBest_34 : decode cX5_keepBest 34 = .ok (.bipush (-6), 2) := by decide +kernel
theorem dX5_keepBest_36 : decode cX5_keepBest 36 = .ok (.iastore, 1) := by decide +kernel
theorem dX5_keepBest_37 : decode cX5_keepBest 37 = .ok (.iinc 1 1, 3) := by decide +kernel
theorem dX5_keepBest_40 : decode cX5_keepBest 40 = .ok (.goto (-17), 3) := by decide +kernel
theorem dX5_keepBest_43 : decode cX5_keepBest 43 = .ok (.iconst 0, 1) := by decide +kernel
theorem dX5_keepBest_44 : decode cX5_keepBest 44 = .ok (.istore_n 1, 1) := by decide +kernel
theorem dX5_keepBest_45 : decode cX5_keepBest 45 = .ok (.iload_n 1, 1) := by decide +kernel
theorem dX5_keepBest_46 : decode cX5_keepBest 46 = .ok (.aload_n 0, 1) := by decide +kernel
theorem dX5_keepBest_47 : decode cX5_keepBest 47 = .ok (.getfield 102, 3) := by decide +kernel
theorem dX5_keepBest_50 : decode cX5_keepBest 50 = .ok (.if_icmp .ge 65, 3) := by decide +kernel
theorem dX5_keepBest_53 : decode cX5_keepBest 53 = .ok (.aload_n 0, 1) := by decide +kernel
theorem dX5_keepBest_54 : decode cX5_keepBest 54 = .ok (.getfield 53, 3) := by decide +kernel
theorem dX5_keepBest_57 : decode cX5_keepBest 57 = .ok (.iload_n 1, 1) := by decide +kernel
theorem dX5_keepBest_58 : decode cX5_keepBest 58 = .ok (.iaload, 1) := by decide +kernel
theorem dX5_keepBest_59 : decode cX5_keepBest 59 = .ok (.iconst (-1), 1) := by decide +kernel
theorem dX5_keepBest_60 : decode cX5_keepBest 60 = .ok (.if_icmp .ne 23, 3) := by decide +kernel
theorem dX5_keepBest_63 : decode cX5_keepBest 63 = .ok (.aload_n 0, 1) := by decide +kernel
theorem dX5_keepBest_64 : decode cX5_keepBest 64 = .ok (.getfield 59, 3) := by decide +kernel
theorem dX5_keepBest_67 : decode cX5_keepBest 67 = .ok (.aload_n 0, 1) := by decide +kernel
theorem dX5_keepBest_68 : decode cX5_keepBest 68 = .ok (.getfield 50, 3) := by decide +kernel
theorem dX5_keepBest_71 : decode cX5_keepBest 71 = .ok (.iload_n 1, 1) := by decide +kernel
theorem dX5_keepBest_72 : decode cX5_keepBest 72 = .ok (.iaload, 1) := by decide +kernel
theorem dX5_keepBest_73 : decode cX5_keepBest 73 = .ok (.aload_n 0, 1) := by decide +kernel
theorem dX5_keepBest_74 : decode cX5_keepBest 74 = .ok (.getfield 56, 3) := by decide +kernel
theorem dX5_keepBest_77 : decode cX5_keepBest 77 = .ok (.iload_n 1, 1) := by decide +kernel
theorem dX5_keepBest_78 : decode cX5_keepBest 78 = .ok (.iaload, 1) := by decide +kernel
theorem dX5_keepBest_79 : decode cX5_keepBest 79 = .ok (.iastore, 1) := by decide +kernel
theorem dX5_keepBest_80 : decode cX5_keepBest 80 = .ok (.goto 29, 3) := by decide +kernel
theorem dX5_keepBest_83 : decode cX5_keepBest 83 = .ok (.aload_n 0, 1) := by decide +kernel
theorem dX5_keepBest_84 : decode cX5_keepBest 84 = .ok (.getfield 62, 3) := by decide +kernel
theorem dX5_keepBest_87 : decode cX5_keepBest 87 = .ok (.iconst 4, 1) := by decide +kernel
theorem dX5_keepBest_88 : decode cX5_keepBest 88 = .ok (.aload_n 0, 1) := by decide +kernel
theorem dX5_keepBest_89 : decode cX5_keepBest 89 = .ok (.getfield 50, 3) := by decide +kernel
theorem dX5_keepBest_92 : decode cX5_keepBest 92 = .ok (.iload_n 1, 1) := by decide +kernel
theorem dX5_keepBest_93 : decode cX5_keepBest 93 = .ok (.iaload, 1) := by decide +kernel
theorem dX5_keepBest_94 : decode cX5_keepBest 94 = .ok (.imul, 1) := by decide +kernel
theorem dX5_keepBest_95 : decode cX5_keepBest 95 = .ok (.aload_n 0, 1) := by decide +kernel
theorem dX5_keepBest_96 : decode cX5_keepBest 96 = .ok (.getfield 53, 3) := by decide +kernel
theorem dX5_keepBest_99 : decode cX5_keepBest 99 = .ok (.iload_n 1, 1) := by decide +kernel
theorem dX5_keepBest_100 : decode cX5_keepBest 100 = .ok (.iaload, 1) := by decide +kernel
theorem dX5_keepBest_101 : decode cX5_keepBest 101 = .ok (.iadd, 1) := by decide +kernel
theorem dX5_keepBest_102 : decode cX5_keepBest 102 = .ok (.aload_n 0, 1) := by decide +kernel
theorem dX5_keepBest_103 : decode cX5_keepBest 103 = .ok (.getfield 56, 3) := by decide +kernel
theorem dX5_keepBest_106 : decode cX5_keepBest 106 = .ok (.iload_n 1, 1) := by decide +kernel
theorem dX5_keepBest_107 : decode cX5_keepBest 107 = .ok (.iaload, 1) := by decide +kernel
theorem dX5_keepBest_108 : decode cX5_keepBest 108 = .ok (.iastore, 1) := by decide +kernel
theorem dX5_keepBest_109 : decode cX5_keepBest 109 = .ok (.iinc 1 1, 3) := by decide +kernel
theorem dX5_keepBest_112 : decode cX5_keepBest 112 = .ok (.goto (-67), 3) := by decide +kernel
theorem dX5_keepBest_115 : decode cX5_keepBest 115 = .ok (.aload_n 0, 1) := by decide +kernel
theorem dX5_keepBest_116 : decode cX5_keepBest 116 = .ok (.invokevirtual 137, 3) := by decide +kernel
theorem dX5_keepBest_119 : decode cX5_keepBest 119 = .ok (.return_, 1) := by decide +kernel
theorem dX5_find_0 : decode cX5_find 0 = .ok (.aload_n 0, 1) := by decide +kernel
theorem dX5_find_1 : decode cX5_find 1 = .ok (.aload_n 0, 1) := by decide +kernel
theorem dX5_find_2 : decode cX5_find 2 = .ok (.invokevirtual 140, 3) := by decide +kernel
theorem dX5_find_5 : decode cX5_find 5 = .ok (.iload_n 1, 1) := by decide +kernel
theorem dX5_find_6 : decode cX5_find 6 = .ok (.invokevirtual 144, 3) := by decide +kernel
theorem dX5_find_9 : decode cX5_find 9 = .ok (.iconst 0, 1) := by decide +kernel
theorem dX5_find_10 : decode cX5_find 10 = .ok (.istore_n 2, 1) := by decide +kernel
theorem dX5_find_11 : decode cX5_find 11 = .ok (.aload_n 0, 1) := by decide +kernel
theorem dX5_find_12 : decode cX5_find 12 = .ok (.invokevirtual 148, 3) := by decide +kernel
theorem dX5_find_15 : decode cX5_find 15 = .ok (.ifCond .eq 12, 3) := by decide +kernel
theorem dX5_find_18 : decode cX5_find 18 = .ok (.aload_n 0, 1) := by decide +kernel
theorem dX5_find_19 : decode cX5_find 19 = .ok (.invokevirtual 152, 3) := by decide +kernel
theorem dX5_find_22 : decode cX5_find 22 = .ok (.iconst 1, 1) := by decide +kernel
theorem dX5_find_23 : decode cX5_find 23 = .ok (.istore_n 2, 1) := by decide +kernel
theorem dX5_find_24 : decode cX5_find 24 = .ok (.goto (-13), 3) := by decide +kernel
theorem dX5_find_27 : decode cX5_find 27 = .ok (.iload_n 2, 1) := by decide +kernel
theorem dX5_find_28 : decode cX5_find 28 = .ok (.ireturn, 1) := by decide +kernel
theorem dX5_best_0 : decode cX5_best 0 = .ok (.aload_n 0, 1) := by decide +kernel
theorem dX5_best_1 : decode cX5_best 1 = .ok (.iconst 0, 1) := by decide +kernel
theorem dX5_best_2 : decode cX5_best 2 = .ok (.invokevirtual 155, 3) := by decide +kernel
theorem dX5_best_5 : decode cX5_best 5 = .ok (.ifCond .eq 10, 3) := by decide +kernel
theorem dX5_best_8 : decode cX5_best 8 = .ok (.aload_n 0, 1) := by decide +kernel
theorem dX5_best_9 : decode cX5_best 9 = .ok (.getfield 114, 3) := by decide +kernel
theorem dX5_best_12 : decode cX5_best 12 = .ok (.goto 5, 3) := by decide +kernel
theorem dX5_best_15 : decode cX5_best 15 = .ok (.bipush (-6), 2) := by decide +kernel
theorem dX5_best_17 : decode cX5_best 17 = .ok (.ireturn, 1) := by decide +kernel
theorem dX5_given_0 : decode cX5_given 0 = .ok (.aload_n 0, 1) := by decide +kernel
theorem dX5_given_1 : decode cX5_given 1 = .ok (.iload_n 1, 1) := by decide +kernel
theorem dX5_given_2 : decode cX5_given 2 = .ok (.invokevirtual 95, 3) := by decide +kernel
theorem dX5_given_5 : decode cX5_given 5 = .ok (.ifCond .ne 5, 3) := by decide +kernel
theorem dX5_given_8 : decode cX5_given 8 = .ok (.iconst (-1), 1) := by decide +kernel
theorem dX5_given_9 : decode cX5_given 9 = .ok (.ireturn, 1) := by decide +kernel
theorem dX5_given_10 : decode cX5_given 10 = .ok (.iload_n 2, 1) := by decide +kernel
theorem dX5_given_11 : decode cX5_given 11 = .ok (.iconst (-1), 1) := by decide +kernel
theorem dX5_given_12 : decode cX5_given 12 = .ok (.if_icmp .eq 15, 3) := by decide +kernel
theorem dX5_given_15 : decode cX5_given 15 = .ok (.aload_n 0, 1) := by decide +kernel
theorem dX5_given_16 : decode cX5_given 16 = .ok (.iload_n 1, 1) := by decide +kernel
theorem dX5_given_17 : decode cX5_given 17 = .ok (.iload_n 2, 1) := by decide +kernel
theorem dX5_given_18 : decode cX5_given 18 = .ok (.invokevirtual 98, 3) := by decide +kernel
theorem dX5_given_21 : decode cX5_given 21 = .ok (.ifCond .ne 6, 3) := by decide +kernel
theorem dX5_given_24 : decode cX5_given 24 = .ok (.bipush (-2), 2) := by decide +kernel
theorem dX5_given_26 : decode cX5_given 26 = .ok (.ireturn, 1) := by decide +kernel
theorem dX5_given_27 : decode cX5_given 27 = .ok (.aload_n 0, 1) := by decide +kernel
theorem dX5_given_28 : decode cX5_given 28 = .ok (.iconst 0, 1) := by decide +kernel
theorem dX5_given_29 : decode cX5_given 29 = .ok (.invokevirtual 155, 3) := by decide +kernel
theorem dX5_given_32 : decode cX5_given 32 = .ok (.ifCond .ne 8, 3) := by decide +kernel
theorem dX5_given_35 : decode cX5_given 35 = .ok (.bipush (-6), 2) := by decide +kernel
theorem dX5_given_37 : decode cX5_given 37 = .ok (.goto 27, 3) := by decide +kernel
theorem dX5_given_40 : decode cX5_given 40 = .ok (.iload_n 2, 1) := by decide +kernel
theorem dX5_given_41 : decode cX5_given 41 = .ok (.iconst (-1), 1) := by decide +kernel
theorem dX5_given_42 : decode cX5_given 42 = .ok (.if_icmp .ne 12, 3) := by decide +kernel
theorem dX5_given_45 : decode cX5_given 45 = .ok (.aload_n 0, 1) := by decide +kernel
theorem dX5_given_46 : decode cX5_given 46 = .ok (.getfield 59, 3) := by decide +kernel
theorem dX5_given_49 : decode cX5_given 49 = .ok (.iload_n 1, 1) := by decide +kernel
theorem dX5_given_50 : decode cX5_given 50 = .ok (.iaload, 1) := by decide +kernel
theorem dX5_given_51 : decode cX5_given 51 = .ok (.goto 13, 3) := by decide +kernel
theorem dX5_given_54 : decode cX5_given 54 = .ok (.aload_n 0, 1) := by decide +kernel
theorem dX5_given_55 : decode cX5_given 55 = .ok (.getfield 62, 3) := by decide +kernel
theorem dX5_given_58 : decode cX5_given 58 = .ok (.iconst 4, 1) := by decide +kernel
theorem dX5_given_59 : decode cX5_given 59 = .ok (.iload_n 1, 1) := by decide +kernel
theorem dX5_given_60 : decode cX5_given 60 = .ok (.imul, 1) := by decide +kernel
theorem dX5_given_61 : decode cX5_given 61 = .ok (.iload_n 2, 1) := by decide +kernel
theorem dX5_given_62 : decode cX5_given 62 = .ok (.iadd, 1) := by decide +kernel
theorem dX5_given_63 : decode cX5_given 63 = .ok (.iaload, 1) := by decide +kernel
theorem dX5_given_64 : decode cX5_given 64 = .ok (.ireturn, 1) := by decide +kernel
theorem dX5_isBetween_0 : decode cX5_isBetween 0 = .ok (.iload_n 1, 1) := by decide +kernel
theorem dX5_isBetween_1 : decode cX5_isBetween 1 = .ok (.iload_n 2, 1) := by decide +kernel
theorem dX5_isBetween_2 : decode cX5_isBetween 2 = .ok (.if_icmp .ge 21, 3) := by decide +kernel
theorem dX5_isBetween_5 : decode cX5_isBetween 5 = .ok (.iload_n 0, 1) := by decide +kernel
theorem dX5_isBetween_6 : decode cX5_isBetween 6 = .ok (.iload_n 1, 1) := by decide +kernel
theorem dX5_isBetween_7 : decode cX5_isBetween 7 = .ok (.if_icmp .le 12, 3) := by decide +kernel
theorem dX5_isBetween_10 : decode cX5_isBetween 10 = .ok (.iload_n 0, 1) := by decide +kernel
theorem dX5_isBetween_11 : decode cX5_isBetween 11 = .ok (.iload_n 2, 1) := by decide +kernel
theorem dX5_isBetween_12 : decode cX5_isBetween 12 = .ok (.if_icmp .ge 7, 3) := by decide +kernel
theorem dX5_isBetween_15 : decode cX5_isBetween 15 = .ok (.iconst 1, 1) := by decide +kernel
theorem dX5_isBetween_16 : decode cX5_isBetween 16 = .ok (.goto 22, 3) := by decide +kernel
theorem dX5_isBetween_19 : decode cX5_isBetween 19 = .ok (.iconst 0, 1) := by decide +kernel
theorem dX5_isBetween_20 : decode cX5_isBetween 20 = .ok (.goto 18, 3) := by decide +kernel
theorem dX5_isBetween_23 : decode cX5_isBetween 23 = .ok (.iload_n 0, 1) := by decide +kernel
theorem dX5_isBetween_24 : decode cX5_isBetween 24 = .ok (.iload_n 2, 1) := by decide +kernel
theorem dX5_isBetween_25 : decode cX5_isBetween 25 = .ok (.if_icmp .le 12, 3) := by decide +kernel
theorem dX5_isBetween_28 : decode cX5_isBetween 28 = .ok (.iload_n 0, 1) := by decide +kernel
theorem dX5_isBetween_29 : decode cX5_isBetween 29 = .ok (.iload_n 1, 1) := by decide +kernel
theorem dX5_isBetween_30 : decode cX5_isBetween 30 = .ok (.if_icmp .ge 7, 3) := by decide +kernel
theorem dX5_isBetween_33 : decode cX5_isBetween 33 = .ok (.iconst 1, 1) := by decide +kernel
theorem dX5_isBetween_34 : decode cX5_isBetween 34 = .ok (.goto 4, 3) := by decide +kernel
theorem dX5_isBetween_37 : decode cX5_isBetween 37 = .ok (.iconst 0, 1) := by decide +kernel
theorem dX5_isBetween_38 : decode cX5_isBetween 38 = .ok (.ireturn, 1) := by decide +kernel
theorem dX5_crossings_0 : decode cX5_crossings 0 = .ok (.aload_n 0, 1) := by decide +kernel
theorem dX5_crossings_1 : decode cX5_crossings 1 = .ok (.iconst 0, 1) := by decide +kernel
theorem dX5_crossings_2 : decode cX5_crossings 2 = .ok (.invokevirtual 155, 3) := by decide +kernel
theorem dX5_crossings_5 : decode cX5_crossings 5 = .ok (.ifCond .ne 6, 3) := by decide +kernel
theorem dX5_crossings_8 : decode cX5_crossings 8 = .ok (.bipush (-6), 2) := by decide +kernel
theorem dX5_crossings_10 : decode cX5_crossings 10 = .ok (.ireturn, 1) := by decide +kernel
theorem dX5_crossings_11 : decode cX5_crossings 11 = .ok (.iconst 0, 1) := by decide +kernel
theorem dX5_crossings_12 : decode cX5_crossings 12 = .ok (.istore_n 1, 1) := by decide +kernel
theorem dX5_crossings_13 : decode cX5_crossings 13 = .ok (.iconst 0, 1) := by decide +kernel
theorem dX5_crossings_14 : decode cX5_crossings 14 = .ok (.istore_n 2, 1) := by decide +kernel
theorem dX5_crossings_15 : decode cX5_crossings 15 = .ok (.iload_n 2, 1) := by decide +kernel
theorem dX5_crossings_16 : decode cX5_crossings 16 = .ok (.bipush 16, 2) := by decide +kernel
theorem dX5_crossings_18 : decode cX5_crossings 18 = .ok (.if_icmp .ge 159, 3) := by decide +kernel
theorem dX5_crossings_21 : decode cX5_crossings 21 = .ok (.iconst 0, 1) := by decide +kernel
theorem dX5_crossings_22 : decode cX5_crossings 22 = .ok (.istore_n 3, 1) := by decide +kernel
theorem dX5_crossings_23 : decode cX5_crossings 23 = .ok (.iload_n 3, 1) := by decide +kernel
theorem dX5_crossings_24 : decode cX5_crossings 24 = .ok (.iload_n 2, 1) := by decide +kernel
theorem dX5_crossings_25 : decode cX5_crossings 25 = .ok (.if_icmp .ge 146, 3) := by decide +kernel
theorem dX5_crossings_28 : decode cX5_crossings 28 = .ok (.aload_n 0, 1) := by decide +kernel
theorem dX5_crossings_29 : decode cX5_crossings 29 = .ok (.getfield 62, 3) := by decide +kernel
theorem dX5_crossings_32 : decode cX5_crossings 32 = .ok (.iload_n 2, 1) := by decide +kernel
theorem dX5_crossings_33 : decode cX5_crossings 33 = .ok (.iaload, 1) := by decide +kernel
theorem dX5_crossings_34 : decode cX5_crossings 34 = .ok (.ifCond .lt 131, 3) := by decide +kernel
theorem dX5_crossings_37 : decode cX5_crossings 37 = .ok (.aload_n 0, 1) := by decide +kernel
theorem dX5_crossings_38 : decode cX5_crossings 38 = .ok (.getfield 62, 3) := by decide +kernel
theorem dX5_crossings_41 : decode cX5_crossings 41 = .ok (.iload_n 3, 1) := by decide +kernel
theorem dX5_crossings_42 : decode cX5_crossings 42 = .ok (.iaload, 1) := by decide +kernel
theorem dX5_crossings_43 : decode cX5_crossings 43 = .ok (.ifCond .lt 122, 3) := by decide +kernel
theorem dX5_crossings_46 : decode cX5_crossings 46 = .ok (.aload_n 0, 1) := by decide +kernel
theorem dX5_crossings_47 : decode cX5_crossings 47 = .ok (.getfield 38, 3) := by decide +kernel
theorem dX5_crossings_50 : decode cX5_crossings 50 = .ok (.iload_n 2, 1) := by decide +kernel
theorem dX5_crossings_51 : decode cX5_crossings 51 = .ok (.iconst 4, 1) := by decide +kernel
theorem dX5_crossings_52 : decode cX5_crossings 52 = .ok (.idiv, 1) := by decide +kernel
theorem dX5_crossings_53 : decode cX5_crossings 53 = .ok (.iaload, 1) := by decide +kernel
theorem dX5_crossings_54 : decode cX5_crossings 54 = .ok (.istore 4, 2) := by decide +kernel
theorem dX5_crossings_56 : decode cX5_crossings 56 = .ok (.aload_n 0, 1) := by decide +kernel
theorem dX5_crossings_57 : decode cX5_crossings 57 = .ok (.getfield 62, 3) := by decide +kernel
theorem dX5_crossings_60 : decode cX5_crossings 60 = .ok (.iload_n 2, 1) := by decide +kernel
theorem dX5_crossings_61 : decode cX5_crossings 61 = .ok (.iaload, 1) := by decide +kernel
theorem dX5_crossings_62 : decode cX5_crossings 62 = .ok (.istore 5, 2) := by decide +kernel
theorem dX5_crossings_64 : decode cX5_crossings 64 = .ok (.aload_n 0, 1) := by decide +kernel
theorem dX5_crossings_65 : decode cX5_crossings 65 = .ok (.getfield 38, 3) := by decide +kernel
theorem dX5_crossings_68 : decode cX5_crossings 68 = .ok (.iload_n 3, 1) := by decide +kernel
theorem dX5_crossings_69 : decode cX5_crossings 69 = .ok (.iconst 4, 1) := by decide +kernel
theorem dX5_crossings_70 : decode cX5_crossings 70 = .ok (.idiv, 1) := by decide +kernel
theorem dX5_crossings_71 : decode cX5_crossings 71 = .ok (.iaload, 1) := by decide +kernel
theorem dX5_crossings_72 : decode cX5_crossings 72 = .ok (.istore 6, 2) := by decide +kernel
theorem dX5_crossings_74 : decode cX5_crossings 74 = .ok (.aload_n 0, 1) := by decide +kernel
theorem dX5_crossings_75 : decode cX5_crossings 75 = .ok (.getfield 62, 3) := by decide +kernel
theorem dX5_crossings_78 : decode cX5_crossings 78 = .ok (.iload_n 3, 1) := by decide +kernel
theorem dX5_crossings_79 : decode cX5_crossings 79 = .ok (.iaload, 1) := by decide +kernel
theorem dX5_crossings_80 : decode cX5_crossings 80 = .ok (.istore 7, 2) := by decide +kernel
theorem dX5_crossings_82 : decode cX5_crossings 82 = .ok (.iload 4, 2) := by decide +kernel
theorem dX5_crossings_84 : decode cX5_crossings 84 = .ok (.iload 5, 2) := by decide +kernel
theorem dX5_crossings_86 : decode cX5_crossings 86 = .ok (.if_icmp .eq 42, 3) := by decide +kernel
theorem dX5_crossings_89 : decode cX5_crossings 89 = .ok (.iload 4, 2) := by decide +kernel
theorem dX5_crossings_91 : decode cX5_crossings 91 = .ok (.iload 6, 2) := by decide +kernel
theorem dX5_crossings_93 : decode cX5_crossings 93 = .ok (.if_icmp .eq 35, 3) := by decide +kernel
theorem dX5_crossings_96 : decode cX5_crossings 96 = .ok (.iload 4, 2) := by decide +kernel
theorem dX5_crossings_98 : decode cX5_crossings 98 = .ok (.iload 7, 2) := by decide +kernel
theorem dX5_crossings_100 : decode cX5_crossings 100 = .ok (.if_icmp .eq 28, 3) := by decide +kernel
theorem dX5_crossings_103 : decode cX5_crossings 103 = .ok (.iload 5, 2) := by decide +kernel
theorem dX5_crossings_105 : decode cX5_crossings 105 = .ok (.iload 6, 2) := by decide +kernel
theorem dX5_crossings_107 : decode cX5_crossings 107 = .ok (.if_icmp .eq 21, 3) := by decide +kernel
theorem dX5_crossings_110 : decode cX5_crossings 110 = .ok (.iload 5, 2) := by decide +kernel
theorem dX5_crossings_112 : decode cX5_crossings 112 = .ok (.iload 7, 2) := by decide +kernel
theorem dX5_crossings_114 : decode cX5_crossings 114 = .ok (.if_icmp .eq 14, 3) := by decide +kernel
theorem dX5_crossings_117 : decode cX5_crossings 117 = .ok (.iload 6, 2) := by decide +kernel
theorem dX5_crossings_119 : decode cX5_crossings 119 = .ok (.iload 7, 2) := by decide +kernel
theorem dX5_crossings_121 : decode cX5_crossings 121 = .ok (.if_icmp .eq 7, 3) := by decide +kernel
theorem dX5_crossings_124 : decode cX5_crossings 124 = .ok (.iconst 1, 1) := by decide +kernel
theorem dX5_crossings_125 : decode cX5_crossings 125 = .ok (.goto 4, 3) := by decide +kernel
theorem dX5_crossings_128 : decode cX5_crossings 128 = .ok (.iconst 0, 1) := by decide +kernel
theorem dX5_crossings_129 : decode cX5_crossings 129 = .ok (.istore 8, 2) := by decide +kernel
theorem dX5_crossings_131 : decode cX5_crossings 131 = .ok (.iload_n 1, 1) := by decide +kernel
theorem dX5_crossings_132 : decode cX5_crossings 132 = .ok (.iload 8, 2) := by decide +kernel
theorem dX5_crossings_134 : decode cX5_crossings 134 = .ok (.ifCond .eq 28, 3) := by decide +kernel
theorem dX5_crossings_137 : decode cX5_crossings 137 = .ok (.iload 6, 2) := by decide +kernel
theorem dX5_crossings_139 : decode cX5_crossings 139 = .ok (.iload 4, 2) := by decide +kernel
theorem dX5_crossings_141 : decode cX5_crossings 141 = .ok (.iload 5, 2) := by decide +kernel
theorem dX5_crossings_143 : decode cX5_crossings 143 = .ok (.invokestatic 159, 3) := by decide +kernel
theorem dX5_crossings_146 : decode cX5_crossings 146 = .ok (.iload 7, 2) := by decide +kernel
theorem dX5_crossings_148 : decode cX5_crossings 148 = .ok (.iload 4, 2) := by decide +kernel
theorem dX5_crossings_150 : decode cX5_crossings 150 = .ok (.iload 5, 2) := by decide +kernel
theorem dX5_crossings_152 : decode cX5_crossings 152 = .ok (.invokestatic 159, 3) := by decide +kernel
theorem dX5_crossings_155 : decode cX5_crossings 155 = .ok (.if_icmp .eq 7, 3) := by decide +kernel
theorem dX5_crossings_158 : decode cX5_crossings 158 = .ok (.iconst 1, 1) := by decide +kernel
theorem dX5_crossings_159 : decode cX5_crossings 159 = .ok (.goto 4, 3) := by decide +kernel
theorem dX5_crossings_162 : decode cX5_crossings 162 = .ok (.iconst 0, 1) := by decide +kernel
theorem dX5_crossings_163 : decode cX5_crossings 163 = .ok (.iadd, 1) := by decide +kernel
theorem dX5_crossings_164 : decode cX5_crossings 164 = .ok (.istore_n 1, 1) := by decide +kernel
theorem dX5_crossings_165 : decode cX5_crossings 165 = .ok (.iinc 3 1, 3) := by decide +kernel
theorem dX5_crossings_168 : decode cX5_crossings 168 = .ok (.goto (-145), 3) := by decide +kernel
theorem dX5_crossings_171 : decode cX5_crossings 171 = .ok (.iinc 2 1, 3) := by decide +kernel
theorem dX5_crossings_174 : decode cX5_crossings 174 = .ok (.goto (-159), 3) := by decide +kernel
theorem dX5_crossings_177 : decode cX5_crossings 177 = .ok (.iload_n 1, 1) := by decide +kernel
theorem dX5_crossings_178 : decode cX5_crossings 178 = .ok (.ireturn, 1) := by decide +kernel
theorem dX5_bits_0 : decode cX5_bits 0 = .ok (.iconst 0, 1) := by decide +kernel
theorem dX5_bits_1 : decode cX5_bits 1 = .ok (.istore_n 1, 1) := by decide +kernel
theorem dX5_bits_2 : decode cX5_bits 2 = .ok (.iconst 0, 1) := by decide +kernel
theorem dX5_bits_3 : decode cX5_bits 3 = .ok (.istore_n 2, 1) := by decide +kernel
theorem dX5_bits_4 : decode cX5_bits 4 = .ok (.iload_n 2, 1) := by decide +kernel
theorem dX5_bits_5 : decode cX5_bits 5 = .ok (.iconst 4, 1) := by decide +kernel
theorem dX5_bits_6 : decode cX5_bits 6 = .ok (.if_icmp .ge 17, 3) := by decide +kernel
theorem dX5_bits_9 : decode cX5_bits 9 = .ok (.iload_n 1, 1) := by decide +kernel
theorem dX5_bits_10 : decode cX5_bits 10 = .ok (.iload_n 0, 1) := by decide +kernel
theorem dX5_bits_11 : decode cX5_bits 11 = .ok (.iload_n 2, 1) := by decide +kernel
theorem dX5_bits_12 : decode cX5_bits 12 = .ok (.ishr, 1) := by decide +kernel
theorem dX5_bits_13 : decode cX5_bits 13 = .ok (.iconst 1, 1) := by decide +kernel
theorem dX5_bits_14 : decode cX5_bits 14 = .ok (.iand, 1) := by decide +kernel
theorem dX5_bits_15 : decode cX5_bits 15 = .ok (.iadd, 1) := by decide +kernel
theorem dX5_bits_16 : decode cX5_bits 16 = .ok (.istore_n 1, 1) := by decide +kernel
theorem dX5_bits_17 : decode cX5_bits 17 = .ok (.iinc 2 1, 3) := by decide +kernel
theorem dX5_bits_20 : decode cX5_bits 20 = .ok (.goto (-16), 3) := by decide +kernel
theorem dX5_bits_23 : decode cX5_bits 23 = .ok (.iload_n 1, 1) := by decide +kernel
theorem dX5_bits_24 : decode cX5_bits 24 = .ok (.ireturn, 1) := by decide +kernel
theorem dX5_blame_0 : decode cX5_blame 0 = .ok (.iconst 0, 1) := by decide +kernel
theorem dX5_blame_1 : decode cX5_blame 1 = .ok (.istore_n 1, 1) := by decide +kernel
theorem dX5_blame_2 : decode cX5_blame 2 = .ok (.iconst 1, 1) := by decide +kernel
theorem dX5_blame_3 : decode cX5_blame 3 = .ok (.istore_n 2, 1) := by decide +kernel
theorem dX5_blame_4 : decode cX5_blame 4 = .ok (.iload_n 2, 1) := by decide +kernel
theorem dX5_blame_5 : decode cX5_blame 5 = .ok (.aload_n 0, 1) := by decide +kernel
theorem dX5_blame_6 : decode cX5_blame 6 = .ok (.invokevirtual 140, 3) := by decide +kernel
theorem dX5_blame_9 : decode cX5_blame 9 = .ok (.if_icmp .gt 79, 3) := by decide +kernel
theorem dX5_blame_12 : decode cX5_blame 12 = .ok (.iload_n 2, 1) := by decide +kernel
theorem dX5_blame_13 : decode cX5_blame 13 = .ok (.iload_n 1, 1) := by decide +kernel
theorem dX5_blame_14 : decode cX5_blame 14 = .ok (.ixor, 1) := by decide +kernel
theorem dX5_blame_15 : decode cX5_blame 15 = .ok (.istore_n 3, 1) := by decide +kernel
theorem dX5_blame_16 : decode cX5_blame 16 = .ok (.iload_n 1, 1) := by decide +kernel
theorem dX5_blame_17 : decode cX5_blame 17 = .ok (.ifCond .eq 34, 3) := by decide +kernel
theorem dX5_blame_20 : decode cX5_blame 20 = .ok (.iload_n 2, 1) := by decide +kernel
theorem dX5_blame_21 : decode cX5_blame 21 = .ok (.invokestatic 162, 3) := by decide +kernel
theorem dX5_blame_24 : decode cX5_blame 24 = .ok (.iload_n 1, 1) := by decide +kernel
theorem dX5_blame_25 : decode cX5_blame 25 = .ok (.invokestatic 162, 3) := by decide +kernel
theorem dX5_blame_28 : decode cX5_blame 28 = .ok (.if_icmp .lt 23, 3) := by decide +kernel
theorem dX5_blame_31 : decode cX5_blame 31 = .ok (.iload_n 2, 1) := by decide +kernel
theorem dX5_blame_32 : decode cX5_blame 32 = .ok (.invokestatic 162, 3) := by decide +kernel
theorem dX5_blame_35 : decode cX5_blame 35 = .ok (.iload_n 1, 1) := by decide +kernel
theorem dX5_blame_36 : decode cX5_blame 36 = .ok (.invokestatic 162, 3) := by decide +kernel
theorem dX5_blame_39 : decode cX5_blame 39 = .ok (.if_icmp .ne 16, 3) := by decide +kernel
theorem dX5_blame_42 : decode cX5_blame 42 = .ok (.iload_n 2, 1) := by decide +kernel
theorem dX5_blame_43 : decode cX5_blame 43 = .ok (.iload_n 3, 1) := by decide +kernel
theorem dX5_blame_44 : decode cX5_blame 44 = .ok (.iand, 1) := by decide +kernel
theorem dX5_blame_45 : decode cX5_blame 45 = .ok (.iload_n 3, 1) := by decide +kernel
theorem dX5_blame_46 : decode cX5_blame 46 = .ok (.ineg, 1) := by decide +kernel
theorem dX5_blame_47 : decode cX5_blame 47 = .ok (.iand, 1) := by decide +kernel
theorem dX5_blame_48 : decode cX5_blame 48 = .ok (.ifCond .eq 7, 3) := by decide +kernel
theorem dX5_blame_51 : decode cX5_blame 51 = .ok (.iconst 1, 1) := by decide +kernel
theorem dX5_blame_52 : decode cX5_blame 52 = .ok (.goto 4, 3) := by decide +kernel
theorem dX5_blame_55 : decode cX5_blame 55 = .ok (.iconst 0, 1) := by decide +kernel
theorem dX5_blame_56 : decode cX5_blame 56 = .ok (.istore 4, 2) := by decide +kernel
theorem dX5_blame_58 : decode cX5_blame 58 = .ok (.iload 4, 2) := by decide +kernel
theorem dX5_blame_60 : decode cX5_blame 60 = .ok (.ifCond .eq 22, 3) := by decide +kernel
theorem dX5_blame_63 : decode cX5_blame 63 = .ok (.aload_n 0, 1) := by decide +kernel
theorem dX5_blame_64 : decode cX5_blame 64 = .ok (.iload_n 2, 1) := by decide +kernel
theorem dX5_blame_65 : decode cX5_blame 65 = .ok (.iconst 0, 1) := by decide +kernel
theorem dX5_blame_66 : decode cX5_blame 66 = .ok (.invokevirtual 144, 3) := by decide +kernel
theorem dX5_blame_69 : decode cX5_blame 69 = .ok (.aload_n 0, 1) := by decide +kernel
theorem dX5_blame_70 : decode cX5_blame 70 = .ok (.invokevirtual 148, 3) := by decide +kernel
theorem dX5_blame_73 : decode cX5_blame 73 = .ok (.ifCond .eq 7, 3) := by decide +kernel
theorem dX5_blame_76 : decode cX5_blame 76 = .ok (.iload_n 1, 1) := by decide +kernel
theorem dX5_blame_77 : decode cX5_blame 77 = .ok (.goto 4, 3) := by decide +kernel
theorem dX5_blame_80 : decode cX5_blame 80 = .ok (.iload_n 2, 1) := by decide +kernel
theorem dX5_blame_81 : decode cX5_blame 81 = .ok (.istore_n 1, 1) := by decide +kernel
theorem dX5_blame_82 : decode cX5_blame 82 = .ok (.iinc 2 1, 3) := by decide +kernel
theorem dX5_blame_85 : decode cX5_blame 85 = .ok (.goto (-81), 3) := by decide +kernel
theorem dX5_blame_88 : decode cX5_blame 88 = .ok (.iload_n 1, 1) := by decide +kernel
theorem dX5_blame_89 : decode cX5_blame 89 = .ok (.ireturn, 1) := by decide +kernel
theorem dX5_many_0 : decode cX5_many 0 = .ok (.aload_n 0, 1) := by decide +kernel
theorem dX5_many_1 : decode cX5_many 1 = .ok (.aload_n 0, 1) := by decide +kernel
theorem dX5_many_2 : decode cX5_many 2 = .ok (.invokevirtual 140, 3) := by decide +kernel
theorem dX5_many_5 : decode cX5_many 5 = .ok (.iconst 0, 1) := by decide +kernel
theorem dX5_many_6 : decode cX5_many 6 = .ok (.invokevirtual 144, 3) := by decide +kernel
theorem dX5_many_9 : decode cX5_many 9 = .ok (.iconst 0, 1) := by decide +kernel
theorem dX5_many_10 : decode cX5_many 10 = .ok (.istore_n 1, 1) := by decide +kernel
theorem dX5_many_11 : decode cX5_many 11 = .ok (.iload_n 1, 1) := by decide +kernel
theorem dX5_many_12 : decode cX5_many 12 = .ok (.ldc 165, 2) := by decide +kernel
theorem dX5_many_14 : decode cX5_many 14 = .ok (.if_icmp .ge 16, 3) := by decide +kernel
theorem dX5_many_17 : decode cX5_many 17 = .ok (.aload_n 0, 1) := by decide +kernel
theorem dX5_many_18 : decode cX5_many 18 = .ok (.invokevirtual 148, 3) := by decide +kernel
theorem dX5_many_21 : decode cX5_many 21 = .ok (.ifCond .eq 9, 3) := by decide +kernel
theorem dX5_many_24 : decode cX5_many 24 = .ok (.iinc 1 1, 3) := by decide +kernel
theorem dX5_many_27 : decode cX5_many 27 = .ok (.goto (-16), 3) := by decide +kernel
theorem dX5_many_30 : decode cX5_many 30 = .ok (.iload_n 1, 1) := by decide +kernel
theorem dX5_many_31 : decode cX5_many 31 = .ok (.ireturn, 1) := by decide +kernel
theorem dX5_trial_0 : decode cX5_trial 0 = .ok (.aload_n 0, 1) := by decide +kernel
theorem dX5_trial_1 : decode cX5_trial 1 = .ok (.iload_n 1, 1) := by decide +kernel
theorem dX5_trial_2 : decode cX5_trial 2 = .ok (.iload_n 2, 1) := by decide +kernel
theorem dX5_trial_3 : decode cX5_trial 3 = .ok (.iload_n 3, 1) := by decide +kernel
theorem dX5_trial_4 : decode cX5_trial 4 = .ok (.iload 4, 2) := by decide +kernel
theorem dX5_trial_6 : decode cX5_trial 6 = .ok (.invokevirtual 166, 3) := by decide +kernel
theorem dX5_trial_9 : decode cX5_trial 9 = .ok (.istore 5, 2) := by decide +kernel
theorem dX5_trial_11 : decode cX5_trial 11 = .ok (.iload 5, 2) := by decide +kernel
theorem dX5_trial_13 : decode cX5_trial 13 = .ok (.ifCond .ge 6, 3) := by decide +kernel
theorem dX5_trial_16 : decode cX5_trial 16 = .ok (.iload 5, 2) := by decide +kernel
theorem dX5_trial_18 : decode cX5_trial 18 = .ok (.ireturn, 1) := by decide +kernel
theorem dX5_trial_19 : decode cX5_trial 19 = .ok (.aload_n 0, 1) := by decide +kernel
theorem dX5_trial_20 : decode cX5_trial 20 = .ok (.invokevirtual 170, 3) := by decide +kernel
theorem dX5_trial_23 : decode cX5_trial 23 = .ok (.istore 6, 2) := by decide +kernel
theorem dX5_trial_25 : decode cX5_trial 25 = .ok (.aload_n 0, 1) := by decide +kernel
theorem dX5_trial_26 : decode cX5_trial 26 = .ok (.dup, 1) := by decide +kernel
theorem dX5_trial_27 : decode cX5_trial 27 = .ok (.getfield 74, 3) := by decide +kernel
theorem dX5_trial_30 : decode cX5_trial 30 = .ok (.iconst 1, 1) := by decide +kernel
theorem dX5_trial_31 : decode cX5_trial 31 = .ok (.isub, 1) := by decide +kernel
theorem dX5_trial_32 : decode cX5_trial 32 = .ok (.putfield 74, 3) := by decide +kernel
theorem dX5_trial_35 : decode cX5_trial 35 = .ok (.iload 6, 2) := by decide +kernel
theorem dX5_trial_37 : decode cX5_trial 37 = .ok (.ireturn, 1) := by decide +kernel
theorem dX5_take_0 : decode cX5_take 0 = .ok (.aload_n 0, 1) := by decide +kernel
theorem dX5_take_1 : decode cX5_take 1 = .ok (.iconst 1, 1) := by decide +kernel
theorem dX5_take_2 : decode cX5_take 2 = .ok (.putfield 80, 3) := by decide +kernel
theorem dX5_take_5 : decode cX5_take 5 = .ok (.iconst 0, 1) := by decide +kernel
theorem dX5_take_6 : decode cX5_take 6 = .ok (.istore_n 1, 1) := by decide +kernel
theorem dX5_take_7 : decode cX5_take 7 = .ok (.iload_n 1, 1) := by decide +kernel
theorem dX5_take_8 : decode cX5_take 8 = .ok (.iconst 4, 1) := by decide +kernel
theorem dX5_take_9 : decode cX5_take 9 = .ok (.if_icmp .ge 21, 3) := by decide +kernel
