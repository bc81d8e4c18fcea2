theorem dX0_init_0 : decode cX0_init 0 = .ok (.aload_n 0, 1) := by decide +kernel
theorem dX0_init_1 : decode cX0_init 1 = .ok (.invokespecial 3, 3) := by decide +kernel
theorem dX0_init_4 : decode cX0_init 4 = .ok (.aload_n 0, 1) := by decide +kernel
theorem dX0_init_5 : decode cX0_init 5 = .ok (.iconst 4, 1) := by decide +kernel
theorem dX0_init_6 : decode cX0_init 6 = .ok (.newarray .int, 2) := by decide +kernel
theorem dX0_init_8 : decode cX0_init 8 = .ok (.putfield 9, 3) := by decide +kernel
theorem dX0_init_11 : decode cX0_init 11 = .ok (.aload_n 0, 1) := by decide +kernel
theorem dX0_init_12 : decode cX0_init 12 = .ok (.iconst 4, 1) := by decide +kernel
theorem dX0_init_13 : decode cX0_init 13 = .ok (.newarray .int, 2) := by decide +kernel
theorem dX0_init_15 : decode cX0_init 15 = .ok (.putfield 15, 3) := by decide +kernel
theorem dX0_init_18 : decode cX0_init 18 = .ok (.aload_n 0, 1) := by decide +kernel
theorem dX0_init_19 : decode cX0_init 19 = .ok (.iconst 4, 1) := by decide +kernel
theorem dX0_init_20 : decode cX0_init 20 = .ok (.newarray .int, 2) := by decide +kernel
theorem dX0_init_22 : decode cX0_init 22 = .ok (.putfield 18, 3) := by decide +kernel
theorem dX0_init_25 : decode cX0_init 25 = .ok (.aload_n 0, 1) := by decide +kernel
theorem dX0_init_26 : decode cX0_init 26 = .ok (.iconst 4, 1) := by decide +kernel
theorem dX0_init_27 : decode cX0_init 27 = .ok (.newarray .int, 2) := by decide +kernel
theorem dX0_init_29 : decode cX0_init 29 = .ok (.putfield 21, 3) := by decide +kernel
theorem dX0_init_32 : decode cX0_init 32 = .ok (.aload_n 0, 1) := by decide +kernel
theorem dX0_init_33 : decode cX0_init 33 = .ok (.bipush 16, 2) := by decide +kernel
theorem dX0_init_35 : decode cX0_init 35 = .ok (.newarray .int, 2) := by decide +kernel
theorem dX0_init_37 : decode cX0_init 37 = .ok (.putfield 24, 3) := by decide +kernel
theorem dX0_init_40 : decode cX0_init 40 = .ok (.return_, 1) := by decide +kernel
theorem dX0_hasWish_0 : decode cX0_hasWish 0 = .ok (.iload_n 1, 1) := by decide +kernel
theorem dX0_hasWish_1 : decode cX0_hasWish 1 = .ok (.ifCond .lt 15, 3) := by decide +kernel
theorem dX0_hasWish_4 : decode cX0_hasWish 4 = .ok (.iload_n 1, 1) := by decide +kernel
theorem dX0_hasWish_5 : decode cX0_hasWish 5 = .ok (.aload_n 0, 1) := by decide +kernel
theorem dX0_hasWish_6 : decode cX0_hasWish 6 = .ok (.getfield 27, 3) := by decide +kernel
theorem dX0_hasWish_9 : decode cX0_hasWish 9 = .ok (.if_icmp .ge 7, 3) := by decide +kernel
theorem dX0_hasWish_12 : decode cX0_hasWish 12 = .ok (.iconst 1, 1) := by decide +kernel
theorem dX0_hasWish_13 : decode cX0_hasWish 13 = .ok (.goto 4, 3) := by decide +kernel
theorem dX0_hasWish_16 : decode cX0_hasWish 16 = .ok (.iconst 0, 1) := by decide +kernel
theorem dX0_hasWish_17 : decode cX0_hasWish 17 = .ok (.ireturn, 1) := by decide +kernel
theorem dX0_wants_0 : decode cX0_wants 0 = .ok (.iload_n 2, 1) := by decide +kernel
theorem dX0_wants_1 : decode cX0_wants 1 = .ok (.invokestatic 31, 3) := by decide +kernel
theorem dX0_wants_4 : decode cX0_wants 4 = .ok (.ifCond .eq 20, 3) := by decide +kernel
theorem dX0_wants_7 : decode cX0_wants 7 = .ok (.aload_n 0, 1) := by decide +kernel
theorem dX0_wants_8 : decode cX0_wants 8 = .ok (.getfield 15, 3) := by decide +kernel
theorem dX0_wants_11 : decode cX0_wants 11 = .ok (.iload_n 1, 1) := by decide +kernel
theorem dX0_wants_12 : decode cX0_wants 12 = .ok (.iaload, 1) := by decide +kernel
theorem dX0_wants_13 : decode cX0_wants 13 = .ok (.iload_n 2, 1) := by decide +kernel
theorem dX0_wants_14 : decode cX0_wants 14 = .ok (.ishr, 1) := by decide +kernel
theorem dX0_wants_15 : decode cX0_wants 15 = .ok (.iconst 1, 1) := by decide +kernel
theorem dX0_wants_16 : decode cX0_wants 16 = .ok (.iand, 1) := by decide +kernel
theorem dX0_wants_17 : decode cX0_wants 17 = .ok (.ifCond .eq 7, 3) := by decide +kernel
theorem dX0_wants_20 : decode cX0_wants 20 = .ok (.iconst 1, 1) := by decide +kernel
theorem dX0_wants_21 : decode cX0_wants 21 = .ok (.goto 4, 3) := by decide +kernel
theorem dX0_wants_24 : decode cX0_wants 24 = .ok (.iconst 0, 1) := by decide +kernel
theorem dX0_wants_25 : decode cX0_wants 25 = .ok (.ireturn, 1) := by decide +kernel
theorem dX0_add_0 : decode cX0_add 0 = .ok (.aload_n 0, 1) := by decide +kernel
theorem dX0_add_1 : decode cX0_add 1 = .ok (.getfield 27, 3) := by decide +kernel
theorem dX0_add_4 : decode cX0_add 4 = .ok (.istore 5, 2) := by decide +kernel
theorem dX0_add_6 : decode cX0_add 6 = .ok (.aload_n 0, 1) := by decide +kernel
theorem dX0_add_7 : decode cX0_add 7 = .ok (.getfield 9, 3) := by decide +kernel
theorem dX0_add_10 : decode cX0_add 10 = .ok (.iload 5, 2) := by decide +kernel
theorem dX0_add_12 : decode cX0_add 12 = .ok (.iload_n 1, 1) := by decide +kernel
theorem dX0_add_13 : decode cX0_add 13 = .ok (.iastore, 1) := by decide +kernel
theorem dX0_add_14 : decode cX0_add 14 = .ok (.aload_n 0, 1) := by decide +kernel
theorem dX0_add_15 : decode cX0_add 15 = .ok (.getfield 15, 3) := by decide +kernel
theorem dX0_add_18 : decode cX0_add 18 = .ok (.iload 5, 2) := by decide +kernel
theorem dX0_add_20 : decode cX0_add 20 = .ok (.iload_n 2, 1) := by decide +kernel
theorem dX0_add_21 : decode cX0_add 21 = .ok (.iastore, 1) := by decide +kernel
theorem dX0_add_22 : decode cX0_add 22 = .ok (.aload_n 0, 1) := by decide +kernel
theorem dX0_add_23 : decode cX0_add 23 = .ok (.getfield 18, 3) := by decide +kernel
theorem dX0_add_26 : decode cX0_add 26 = .ok (.iload 5, 2) := by decide +kernel
theorem dX0_add_28 : decode cX0_add 28 = .ok (.iload_n 3, 1) := by decide +kernel
theorem dX0_add_29 : decode cX0_add 29 = .ok (.iastore, 1) := by decide +kernel
theorem dX0_add_30 : decode cX0_add 30 = .ok (.aload_n 0, 1) := by decide +kernel
theorem dX0_add_31 : decode cX0_add 31 = .ok (.getfield 21, 3) := by decide +kernel
theorem dX0_add_34 : decode cX0_add 34 = .ok (.iload 5, 2) := by decide +kernel
theorem dX0_add_36 : decode cX0_add 36 = .ok (.iload 4, 2) := by decide +kernel
theorem dX0_add_38 : decode cX0_add 38 = .ok (.iastore, 1) := by decide +kernel
theorem dX0_add_39 : decode cX0_add 39 = .ok (.iconst 0, 1) := by decide +kernel
theorem dX0_add_40 : decode cX0_add 40 = .ok (.istore 6, 2) := by decide +kernel
theorem dX0_add_42 : decode cX0_add 42 = .ok (.iload 6, 2) := by decide +kernel
theorem dX0_add_44 : decode cX0_add 44 = .ok (.iconst 4, 1) := by decide +kernel
theorem dX0_add_45 : decode cX0_add 45 = .ok (.if_icmp .ge 23, 3) := by decide +kernel
theorem dX0_add_48 : decode cX0_add 48 = .ok (.aload_n 0, 1) := by decide +kernel
theorem dX0_add_49 : decode cX0_add 49 = .ok (.getfield 24, 3) := by decide +kernel
theorem dX0_add_52 : decode cX0_add 52 = .ok (.iload 5, 2) := by decide +kernel
theorem dX0_add_54 : decode cX0_add 54 = .ok (.iconst 4, 1) := by decide +kernel
theorem dX0_add_55 : decode cX0_add 55 = .ok (.imul, 1) := by decide +kernel
theorem dX0_add_56 : decode cX0_add 56 = .ok (.iload 6, 2) := by decide +kernel
theorem dX0_add_58 : decode cX0_add 58 = .ok (.iadd, 1) := by decide +kernel
theorem dX0_add_59 : decode cX0_add 59 = .ok (.bipush (-6), 2) := by decide +kernel
theorem dX0_add_61 : decode cX0_add 61 = .ok (.iastore, 1) := by decide +kernel
theorem dX0_add_62 : decode cX0_add 62 = .ok (.iinc 6 1, 3) := by decide +kernel
theorem dX0_add_65 : decode cX0_add 65 = .ok (.goto (-23), 3) := by decide +kernel
theorem dX0_add_68 : decode cX0_add 68 = .ok (.aload_n 0, 1) := by decide +kernel
theorem dX0_add_69 : decode cX0_add 69 = .ok (.dup, 1) := by decide +kernel
theorem dX0_add_70 : decode cX0_add 70 = .ok (.getfield 27, 3) := by decide +kernel
theorem dX0_add_73 : decode cX0_add 73 = .ok (.iconst 1, 1) := by decide +kernel
theorem dX0_add_74 : decode cX0_add 74 = .ok (.iadd, 1) := by decide +kernel
theorem dX0_add_75 : decode cX0_add 75 = .ok (.putfield 27, 3) := by decide +kernel
theorem dX0_add_78 : decode cX0_add 78 = .ok (.iload 5, 2) := by decide +kernel
theorem dX0_add_80 : decode cX0_add 80 = .ok (.ireturn, 1) := by decide +kernel
theorem dX0_countOfKind_0 : decode cX0_countOfKind 0 = .ok (.iconst 0, 1) := by decide +kernel
theorem dX0_countOfKind_1 : decode cX0_countOfKind 1 = .ok (.istore_n 3, 1) := by decide +kernel
theorem dX0_countOfKind_2 : decode cX0_countOfKind 2 = .ok (.iconst 0, 1) := by decide +kernel
theorem dX0_countOfKind_3 : decode cX0_countOfKind 3 = .ok (.istore 4, 2) := by decide +kernel
theorem dX0_countOfKind_5 : decode cX0_countOfKind 5 = .ok (.iload 4, 2) := by decide +kernel
theorem dX0_countOfKind_7 : decode cX0_countOfKind 7 = .ok (.aload_n 0, 1) := by decide +kernel
theorem dX0_countOfKind_8 : decode cX0_countOfKind 8 = .ok (.getfield 27, 3) := by decide +kernel
theorem dX0_countOfKind_11 : decode cX0_countOfKind 11 = .ok (.if_icmp .ge 32, 3) := by decide +kernel
theorem dX0_countOfKind_14 : decode cX0_countOfKind 14 = .ok (.iload_n 2, 1) := by decide +kernel
theorem dX0_countOfKind_15 : decode cX0_countOfKind 15 = .ok (.iload 4, 2) := by decide +kernel
theorem dX0_countOfKind_17 : decode cX0_countOfKind 17 = .ok (.ishr, 1) := by decide +kernel
theorem dX0_countOfKind_18 : decode cX0_countOfKind 18 = .ok (.iconst 1, 1) := by decide +kernel
theorem dX0_countOfKind_19 : decode cX0_countOfKind 19 = .ok (.iand, 1) := by decide +kernel
theorem dX0_countOfKind_20 : decode cX0_countOfKind 20 = .ok (.ifCond .eq 17, 3) := by decide +kernel
theorem dX0_countOfKind_23 : decode cX0_countOfKind 23 = .ok (.aload_n 0, 1) := by decide +kernel
theorem dX0_countOfKind_24 : decode cX0_countOfKind 24 = .ok (.getfield 9, 3) := by decide +kernel
theorem dX0_countOfKind_27 : decode cX0_countOfKind 27 = .ok (.iload 4, 2) := by decide +kernel
theorem dX0_countOfKind_29 : decode cX0_countOfKind 29 = .ok (.iaload, 1) := by decide +kernel
theorem dX0_countOfKind_30 : decode cX0_countOfKind 30 = .ok (.iload_n 1, 1) := by decide +kernel
theorem dX0_countOfKind_31 : decode cX0_countOfKind 31 = .ok (.if_icmp .ne 6, 3) := by decide +kernel
theorem dX0_countOfKind_34 : decode cX0_countOfKind 34 = .ok (.iinc 3 1, 3) := by decide +kernel
theorem dX0_countOfKind_37 : decode cX0_countOfKind 37 = .ok (.iinc 4 1, 3) := by decide +kernel
theorem dX0_countOfKind_40 : decode cX0_countOfKind 40 = .ok (.goto (-35), 3) := by decide +kernel
theorem dX0_countOfKind_43 : decode cX0_countOfKind 43 = .ok (.iload_n 3, 1) := by decide +kernel
theorem dX0_countOfKind_44 : decode cX0_countOfKind 44 = .ok (.ireturn, 1) := by decide +kernel
theorem dX0_openFeet_0 : decode cX0_openFeet 0 = .ok (.aload_n 1, 1) := by decide +kernel
theorem dX0_openFeet_1 : decode cX0_openFeet 1 = .ok (.iload_n 3, 1) := by decide +kernel
theorem dX0_openFeet_2 : decode cX0_openFeet 2 = .ok (.invokevirtual 35, 3) := by decide +kernel
theorem dX0_openFeet_5 : decode cX0_openFeet 5 = .ok (.ifCond .eq 18, 3) := by decide +kernel
theorem dX0_openFeet_8 : decode cX0_openFeet 8 = .ok (.aload_n 1, 1) := by decide +kernel
theorem dX0_openFeet_9 : decode cX0_openFeet 9 = .ok (.getfield 40, 3) := by decide +kernel
theorem dX0_openFeet_12 : decode cX0_openFeet 12 = .ok (.iload_n 3, 1) := by decide +kernel
theorem dX0_openFeet_13 : decode cX0_openFeet 13 = .ok (.iaload, 1) := by decide +kernel
theorem dX0_openFeet_14 : decode cX0_openFeet 14 = .ok (.aload_n 0, 1) := by decide +kernel
theorem dX0_openFeet_15 : decode cX0_openFeet 15 = .ok (.getfield 9, 3) := by decide +kernel
theorem dX0_openFeet_18 : decode cX0_openFeet 18 = .ok (.iload_n 2, 1) := by decide +kernel
theorem dX0_openFeet_19 : decode cX0_openFeet 19 = .ok (.iaload, 1) := by decide +kernel
theorem dX0_openFeet_20 : decode cX0_openFeet 20 = .ok (.if_icmp .eq 5, 3) := by decide +kernel
theorem dX0_openFeet_23 : decode cX0_openFeet 23 = .ok (.iconst 0, 1) := by decide +kernel
theorem dX0_openFeet_24 : decode cX0_openFeet 24 = .ok (.ireturn, 1) := by decide +kernel
theorem dX0_openFeet_25 : decode cX0_openFeet 25 = .ok (.aload_n 1, 1) := by decide +kernel
theorem dX0_openFeet_26 : decode cX0_openFeet 26 = .ok (.getfield 41, 3) := by decide +kernel
theorem dX0_openFeet_29 : decode cX0_openFeet 29 = .ok (.iload_n 3, 1) := by decide +kernel
theorem dX0_openFeet_30 : decode cX0_openFeet 30 = .ok (.iconst 4, 1) := by decide +kernel
theorem dX0_openFeet_31 : decode cX0_openFeet 31 = .ok (.imul, 1) := by decide +kernel
theorem dX0_openFeet_32 : decode cX0_openFeet 32 = .ok (.iload 4, 2) := by decide +kernel
theorem dX0_openFeet_34 : decode cX0_openFeet 34 = .ok (.iadd, 1) := by decide +kernel
theorem dX0_openFeet_35 : decode cX0_openFeet 35 = .ok (.iaload, 1) := by decide +kernel
theorem dX0_openFeet_36 : decode cX0_openFeet 36 = .ok (.aload_n 1, 1) := by decide +kernel
theorem dX0_openFeet_37 : decode cX0_openFeet 37 = .ok (.aload_n 0, 1) := by decide +kernel
theorem dX0_openFeet_38 : decode cX0_openFeet 38 = .ok (.getfield 18, 3) := by decide +kernel
theorem dX0_openFeet_41 : decode cX0_openFeet 41 = .ok (.iload_n 2, 1) := by decide +kernel
theorem dX0_openFeet_42 : decode cX0_openFeet 42 = .ok (.iaload, 1) := by decide +kernel
theorem dX0_openFeet_43 : decode cX0_openFeet 43 = .ok (.invokevirtual 44, 3) := by decide +kernel
theorem dX0_openFeet_46 : decode cX0_openFeet 46 = .ok (.iand, 1) := by decide +kernel
theorem dX0_openFeet_47 : decode cX0_openFeet 47 = .ok (.istore 5, 2) := by decide +kernel
theorem dX0_openFeet_49 : decode cX0_openFeet 49 = .ok (.aload_n 0, 1) := by decide +kernel
theorem dX0_openFeet_50 : decode cX0_openFeet 50 = .ok (.getfield 24, 3) := by decide +kernel
theorem dX0_openFeet_53 : decode cX0_openFeet 53 = .ok (.iload_n 2, 1) := by decide +kernel
theorem dX0_openFeet_54 : decode cX0_openFeet 54 = .ok (.iconst 4, 1) := by decide +kernel
theorem dX0_openFeet_55 : decode cX0_openFeet 55 = .ok (.imul, 1) := by decide +kernel
theorem dX0_openFeet_56 : decode cX0_openFeet 56 = .ok (.iload 4, 2) := by decide +kernel
theorem dX0_openFeet_58 : decode cX0_openFeet 58 = .ok (.iadd, 1) := by decide +kernel
theorem dX0_openFeet_59 : decode cX0_openFeet 59 = .ok (.iaload, 1) := by decide +kernel
theorem dX0_openFeet_60 : decode cX0_openFeet 60 = .ok (.istore 6, 2) := by decide +kernel
theorem dX0_openFeet_62 : decode cX0_openFeet 62 = .ok (.iload 6, 2) := by decide +kernel
theorem dX0_openFeet_64 : decode cX0_openFeet 64 = .ok (.bipush (-6), 2) := by decide +kernel
theorem dX0_openFeet_66 : decode cX0_openFeet 66 = .ok (.if_icmp .ne 8, 3) := by decide +kernel
theorem dX0_openFeet_69 : decode cX0_openFeet 69 = .ok (.iload 5, 2) := by decide +kernel
theorem dX0_openFeet_71 : decode cX0_openFeet 71 = .ok (.goto 10, 3) := by decide +kernel
theorem dX0_openFeet_74 : decode cX0_openFeet 74 = .ok (.iload 5, 2) := by decide +kernel
theorem dX0_openFeet_76 : decode cX0_openFeet 76 = .ok (.iconst 1, 1) := by decide +kernel
theorem dX0_openFeet_77 : decode cX0_openFeet 77 = .ok (.iload 6, 2) := by decide +kernel
theorem dX0_openFeet_79 : decode cX0_openFeet 79 = .ok (.ishl, 1) := by decide +kernel
theorem dX0_openFeet_80 : decode cX0_openFeet 80 = .ok (.iand, 1) := by decide +kernel
theorem dX0_openFeet_81 : decode cX0_openFeet 81 = .ok (.ireturn, 1) := by decide +kernel
theorem dX1_init_0 : decode cX1_init 0 = .ok (.aload_n 0, 1) := by decide +kernel
theorem dX1_init_1 : decode cX1_init 1 = .ok (.invokespecial 3, 3) := by decide +kernel
theorem dX1_init_4 : decode cX1_init 4 = .ok (.aload_n 0, 1) := by decide +kernel
theorem dX1_init_5 : decode cX1_init 5 = .ok (.bipush 16, 2) := by decide +kernel
theorem dX1_init_7 : decode cX1_init 7 = .ok (.newarray .int, 2) := by decide +kernel
theorem dX1_init_9 : decode cX1_init 9 = .ok (.putfield 9, 3) := by decide +kernel
theorem dX1_init_12 : decode cX1_init 12 = .ok (.aload_n 0, 1) := by decide +kernel
theorem dX1_init_13 : decode cX1_init 13 = .ok (.bipush 6, 2) := by decide +kernel
theorem dX1_init_15 : decode cX1_init 15 = .ok (.newarray .int, 2) := by decide +kernel
theorem dX1_init_17 : decode cX1_init 17 = .ok (.putfield 15, 3) := by decide +kernel
theorem dX1_init_20 : decode cX1_init 20 = .ok (.aload_n 0, 1) := by decide +kernel
theorem dX1_init_21 : decode cX1_init 21 = .ok (.bipush 90, 2) := by decide +kernel
theorem dX1_init_23 : decode cX1_init 23 = .ok (.newarray .int, 2) := by decide +kernel
theorem dX1_init_25 : decode cX1_init 25 = .ok (.putfield 18, 3) := by decide +kernel
theorem dX1_init_28 : decode cX1_init 28 = .ok (.aload_n 0, 1) := by decide +kernel
theorem dX1_init_29 : decode cX1_init 29 = .ok (.bipush 24, 2) := by decide +kernel
theorem dX1_init_31 : decode cX1_init 31 = .ok (.newarray .int, 2) := by decide +kernel
theorem dX1_init_33 : decode cX1_init 33 = .ok (.putfield 21, 3) := by decide +kernel
theorem dX1_init_36 : decode cX1_init 36 = .ok (.aload_n 0, 1) := by decide +kernel
theorem dX1_init_37 : decode cX1_init 37 = .ok (.bipush 8, 2) := by decide +kernel
theorem dX1_init_39 : decode cX1_init 39 = .ok (.invokevirtual 24, 3) := by decide +kernel
theorem dX1_init_42 : decode cX1_init 42 = .ok (.return_, 1) := by decide +kernel
theorem dX1_renew_0 : decode cX1_renew 0 = .ok (.aload_n 0, 1) := by decide +kernel
theorem dX1_renew_1 : decode cX1_renew 1 = .ok (.iload_n 1, 1) := by decide +kernel
theorem dX1_renew_2 : decode cX1_renew 2 = .ok (.putfield 28, 3) := by decide +kernel
theorem dX1_renew_5 : decode cX1_renew 5 = .ok (.aload_n 0, 1) := by decide +kernel
theorem dX1_renew_6 : decode cX1_renew 6 = .ok (.iconst 0, 1) := by decide +kernel
theorem dX1_renew_7 : decode cX1_renew 7 = .ok (.putfield 32, 3) := by decide +kernel
theorem dX1_renew_10 : decode cX1_renew 10 = .ok (.aload_n 0, 1) := by decide +kernel
theorem dX1_renew_11 : decode cX1_renew 11 = .ok (.iconst 0, 1) := by decide +kernel
theorem dX1_renew_12 : decode cX1_renew 12 = .ok (.putfield 35, 3) := by decide +kernel
theorem dX1_renew_15 : decode cX1_renew 15 = .ok (.iconst 0, 1) := by decide +kernel
theorem dX1_renew_16 : decode cX1_renew 16 = .ok (.istore_n 2, 1) := by decide +kernel
theorem dX1_renew_17 : decode cX1_renew 17 = .ok (.iload_n 2, 1) := by decide +kernel
theorem dX1_renew_18 : decode cX1_renew 18 = .ok (.bipush 16, 2) := by decide +kernel
theorem dX1_renew_20 : decode cX1_renew 20 = .ok (.if_icmp .ge 16, 3) := by decide +kernel
theorem dX1_renew_23 : decode cX1_renew 23 = .ok (.aload_n 0, 1) := by decide +kernel
theorem dX1_renew_24 : decode cX1_renew 24 = .ok (.getfield 9, 3) := by decide +kernel
theorem dX1_renew_27 : decode cX1_renew 27 = .ok (.iload_n 2, 1) := by decide +kernel
theorem dX1_renew_28 : decode cX1_renew 28 = .ok (.iconst 1, 1) := by decide +kernel
theorem dX1_renew_29 : decode cX1_renew 29 = .ok (.iastore, 1) := by decide +kernel
theorem dX1_renew_30 : decode cX1_renew 30 = .ok (.iinc 2 1, 3) := by decide +kernel
theorem dX1_renew_33 : decode cX1_renew 33 = .ok (.goto (-16), 3) := by decide +kernel
theorem dX1_renew_36 : decode cX1_renew 36 = .ok (.iconst 0, 1) := by decide +kernel
theorem dX1_renew_37 : decode cX1_renew 37 = .ok (.istore_n 2, 1) := by decide +kernel
theorem dX1_renew_38 : decode cX1_renew 38 = .ok (.iload_n 2, 1) := by decide +kernel
theorem dX1_renew_39 : decode cX1_renew 39 = .ok (.aload_n 0, 1) := by decide +kernel
theorem dX1_renew_40 : decode cX1_renew 40 = .ok (.getfield 21, 3) := by decide +kernel
theorem dX1_renew_43 : decode cX1_renew 43 = .ok (.arraylength, 1) := by decide +kernel
theorem dX1_renew_44 : decode cX1_renew 44 = .ok (.if_icmp .ge 16, 3) := by decide +kernel
theorem dX1_renew_47 : decode cX1_renew 47 = .ok (.aload_n 0, 1) := by decide +kernel
theorem dX1_renew_48 : decode cX1_renew 48 = .ok (.getfield 21, 3) := by decide +kernel
theorem dX1_renew_51 : decode cX1_renew 51 = .ok (.iload_n 2, 1) := by decide +kernel
theorem dX1_renew_52 : decode cX1_renew 52 = .ok (.iconst 0, 1) := by decide +kernel
theorem dX1_renew_53 : decode cX1_renew 53 = .ok (.iastore, 1) := by decide +kernel
theorem dX1_renew_54 : decode cX1_renew 54 = .ok (.iinc 2 1, 3) := by decide +kernel
theorem dX1_renew_57 : decode cX1_renew 57 = .ok (.goto (-19), 3) := by decide +kernel
theorem dX1_renew_60 : decode cX1_renew 60 = .ok (.return_, 1) := by decide +kernel
theorem dX1_hasFoot_0 : decode cX1_hasFoot 0 = .ok (.iload_n 1, 1) := by decide +kernel
theorem dX1_hasFoot_1 : decode cX1_hasFoot 1 = .ok (.ifCond .lt 15, 3) := by decide +kernel
theorem dX1_hasFoot_4 : decode cX1_hasFoot 4 = .ok (.iload_n 1, 1) := by decide +kernel
theorem dX1_hasFoot_5 : decode cX1_hasFoot 5 = .ok (.aload_n 0, 1) := by decide +kernel
theorem dX1_hasFoot_6 : decode cX1_hasFoot 6 = .ok (.getfield 28, 3) := by decide +kernel
theorem dX1_hasFoot_9 : decode cX1_hasFoot 9 = .ok (.if_icmp .ge 7, 3) := by decide +kernel
theorem dX1_hasFoot_12 : decode cX1_hasFoot 12 = .ok (.iconst 1, 1) := by decide +kernel
theorem dX1_hasFoot_13 : decode cX1_hasFoot 13 = .ok (.goto 4, 3) := by decide +kernel
theorem dX1_hasFoot_16 : decode cX1_hasFoot 16 = .ok (.iconst 0, 1) := by decide +kernel
theorem dX1_hasFoot_17 : decode cX1_hasFoot 17 = .ok (.ireturn, 1) := by decide +kernel
theorem dX1_hasUnit_0 : decode cX1_hasUnit 0 = .ok (.iload_n 1, 1) := by decide +kernel
theorem dX1_hasUnit_1 : decode cX1_hasUnit 1 = .ok (.ifCond .lt 15, 3) := by decide +kernel
theorem dX1_hasUnit_4 : decode cX1_hasUnit 4 = .ok (.iload_n 1, 1) := by decide +kernel
theorem dX1_hasUnit_5 : decode cX1_hasUnit 5 = .ok (.aload_n 0, 1) := by decide +kernel
theorem dX1_hasUnit_6 : decode cX1_hasUnit 6 = .ok (.getfield 32, 3) := by decide +kernel
theorem dX1_hasUnit_9 : decode cX1_hasUnit 9 = .ok (.if_icmp .ge 7, 3) := by decide +kernel
theorem dX1_hasUnit_12 : decode cX1_hasUnit 12 = .ok (.iconst 1, 1) := by decide +kernel
theorem dX1_hasUnit_13 : decode cX1_hasUnit 13 = .ok (.goto 4, 3) := by decide +kernel
theorem dX1_hasUnit_16 : decode cX1_hasUnit 16 = .ok (.iconst 0, 1) := by decide +kernel
theorem dX1_hasUnit_17 : decode cX1_hasUnit 17 = .ok (.ireturn, 1) := by decide +kernel
theorem dX1_isAble_0 : decode cX1_isAble 0 = .ok (.aload_n 0, 1) := by decide +kernel
theorem dX1_isAble_1 : decode cX1_isAble 1 = .ok (.getfield 21, 3) := by decide +kernel
theorem dX1_isAble_4 : decode cX1_isAble 4 = .ok (.iload_n 2, 1) := by decide +kernel
theorem dX1_isAble_5 : decode cX1_isAble 5 = .ok (.iconst 4, 1) := by decide +kernel
theorem dX1_isAble_6 : decode cX1_isAble 6 = .ok (.imul, 1) := by decide +kernel
theorem dX1_isAble_7 : decode cX1_isAble 7 = .ok (.iload_n 3, 1) := by decide +kernel
theorem dX1_isAble_8 : decode cX1_isAble 8 = .ok (.iadd, 1) := by decide +kernel
theorem dX1_isAble_9 : decode cX1_isAble 9 = .ok (.iaload, 1) := by decide +kernel
theorem dX1_isAble_10 : decode cX1_isAble 10 = .ok (.iload_n 1, 1) := by decide +kernel
theorem dX1_isAble_11 : decode cX1_isAble 11 = .ok (.ishr, 1) := by decide +kernel
theorem dX1_isAble_12 : decode cX1_isAble 12 = .ok (.iconst 1, 1) := by decide +kernel
theorem dX1_isAble_13 : decode cX1_isAble 13 = .ok (.iand, 1) := by decide +kernel
theorem dX1_isAble_14 : decode cX1_isAble 14 = .ok (.ifCond .eq 7, 3) := by decide +kernel
theorem dX1_isAble_17 : decode cX1_isAble 17 = .ok (.iconst 1, 1) := by decide +kernel
theorem dX1_isAble_18 : decode cX1_isAble 18 = .ok (.goto 4, 3) := by decide +kernel
theorem dX1_isAble_21 : decode cX1_isAble 21 = .ok (.iconst 0, 1) := by decide +kernel
theorem dX1_isAble_22 : decode cX1_isAble 22 = .ok (.ireturn, 1) := by decide +kernel
theorem dX1_addUnit_0 : decode cX1_addUnit 0 = .ok (.aload_n 0, 1) := by decide +kernel
theorem dX1_addUnit_1 : decode cX1_addUnit 1 = .ok (.getfield 15, 3) := by decide +kernel
theorem dX1_addUnit_4 : decode cX1_addUnit 4 = .ok (.aload_n 0, 1) := by decide +kernel
theorem dX1_addUnit_5 : decode cX1_addUnit 5 = .ok (.getfield 32, 3) := by decide +kernel
theorem dX1_addUnit_8 : decode cX1_addUnit 8 = .ok (.iload_n 1, 1) := by decide +kernel
theorem dX1_addUnit_9 : decode cX1_addUnit 9 = .ok (.iastore, 1) := by decide +kernel
theorem dX1_addUnit_10 : decode cX1_addUnit 10 = .ok (.aload_n 0, 1) := by decide +kernel
theorem dX1_addUnit_11 : decode cX1_addUnit 11 = .ok (.dup, 1) := by decide +kernel
theorem dX1_addUnit_12 : decode cX1_addUnit 12 = .ok (.getfield 32, 3) := by decide +kernel
theorem dX1_addUnit_15 : decode cX1_addUnit 15 = .ok (.iconst 1, 1) := by decide +kernel
theorem dX1_addUnit_16 : decode cX1_addUnit 16 = .ok (.iadd, 1) := by decide +kernel
theorem dX1_addUnit_17 : decode cX1_addUnit 17 = .ok (.putfield 32, 3) := by decide +kernel
theorem dX1_addUnit_20 : decode cX1_addUnit 20 = .ok (.aload_n 0, 1) := by decide +kernel
theorem dX1_addUnit_21 : decode cX1_addUnit 21 = .ok (.getfield 32, 3) := by decide +kernel
theorem dX1_addUnit_24 : decode cX1_addUnit 24 = .ok (.iconst 1, 1) := by decide +kernel
theorem dX1_addUnit_25 : decode cX1_addUnit 25 = .ok (.isub, 1) := by decide +kernel
theorem dX1_addUnit_26 : decode cX1_addUnit 26 = .ok (.ireturn, 1) := by decide +kernel
theorem dX1_addUse_0 : decode cX1_addUse 0 = .ok (.aload_n 0, 1) := by decide +kernel
theorem dX1_addUse_1 : decode cX1_addUse 1 = .ok (.getfield 35, 3) := by decide +kernel
theorem dX1_addUse_4 : decode cX1_addUse 4 = .ok (.iconst 3, 1) := by decide +kernel
theorem dX1_addUse_5 : decode cX1_addUse 5 = .ok (.imul, 1) := by decide +kernel
theorem dX1_addUse_6 : decode cX1_addUse 6 = .ok (.istore 4, 2) := by decide +kernel
theorem dX1_addUse_8 : decode cX1_addUse 8 = .ok (.aload_n 0, 1) := by decide +kernel
theorem dX1_addUse_9 : decode cX1_addUse 9 = .ok (.getfield 18, 3) := by decide +kernel
theorem dX1_addUse_12 : decode cX1_addUse 12 = .ok (.iload 4, 2) := by decide +kernel
theorem dX1_addUse_14 : decode cX1_addUse 14 = .ok (.iload_n 1, 1) := by decide +kernel
theorem dX1_addUse_15 : decode cX1_addUse 15 = .ok (.iastore, 1) := by decide +kernel
theorem dX1_addUse_16 : decode cX1_addUse 16 = .ok (.aload_n 0, 1) := by decide +kernel
theorem dX1_addUse_17 : decode cX1_addUse 17 = .ok (.getfield 18, 3) := by decide +kernel
theorem dX1_addUse_20 : decode cX1_addUse 20 = .ok (.iload 4, 2) := by decide +kernel
theorem dX1_addUse_22 : decode cX1_addUse 22 = .ok (.iconst 1, 1) := by decide +kernel
theorem dX1_addUse_23 : decode cX1_addUse 23 = .ok (.iadd, 1) := by decide +kernel
theorem dX1_addUse_24 : decode cX1_addUse 24 = .ok (.iload_n 2, 1) := by decide +kernel
theorem dX1_addUse_25 : decode cX1_addUse 25 = .ok (.iastore, 1) := by decide +kernel
theorem dX1_addUse_26 : decode cX1_addUse 26 = .ok (.aload_n 0, 1) := by decide +kernel
theorem dX1_addUse_27 : decode cX1_addUse 27 = .ok (.getfield 18, 3) := by decide +kernel
theorem dX1_addUse_30 : decode cX1_addUse 30 = .ok (.iload 4, 2) := by decide +kernel
theorem dX1_addUse_32 : decode cX1_addUse 32 = .ok (.iconst 2, 1) := by decide +kernel
theorem dX1_addUse_33 : decode cX1_addUse 33 = .ok (.iadd, 1) := by decide +kernel
theorem dX1_addUse_34 : decode cX1_addUse 34 = .ok (.iload_n 3, 1) := by decide +kernel
theorem dX1_addUse_35 : decode cX1_addUse 35 = .ok (.iastore, 1) := by decide +kernel
theorem dX1_addUse_36 : decode cX1_addUse 36 = .ok (.aload_n 0, 1) := by decide +kernel
theorem dX1_addUse_37 : decode cX1_addUse 37 = .ok (.getfield 21, 3) := by decide +kernel
theorem dX1_addUse_40 : decode cX1_addUse 40 = .ok (.iload_n 2, 1) := by decide +kernel
theorem dX1_addUse_41 : decode cX1_addUse 41 = .ok (.iconst 4, 1) := by decide +kernel
theorem dX1_addUse_42 : decode cX1_addUse 42 = .ok (.imul, 1) := by decide +kernel
theorem dX1_addUse_43 : decode cX1_addUse 43 = .ok (.iload_n 3, 1) := by decide +kernel
theorem dX1_addUse_44 : decode cX1_addUse 44 = .ok (.iadd, 1) := by decide +kernel
theorem dX1_addUse_45 : decode cX1_addUse 45 = .ok (.dup2, 1) := by decide +kernel
theorem dX1_addUse_46 : decode cX1_addUse 46 = .ok (.iaload, 1) := by decide +kernel
theorem dX1_addUse_47 : decode cX1_addUse 47 = .ok (.iconst 1, 1) := by decide +kernel
theorem dX1_addUse_48 : decode cX1_addUse 48 = .ok (.iload_n 1, 1) := by decide +kernel
theorem dX1_addUse_49 : decode cX1_addUse 49 = .ok (.ishl, 1) := by decide +kernel
theorem dX1_addUse_50 : decode cX1_addUse 50 = .ok (.ior, 1) := by decide +kernel
theorem dX1_addUse_51 : decode cX1_addUse 51 = .ok (.iastore, 1) := by decide +kernel
theorem dX1_addUse_52 : decode cX1_addUse 52 = .ok (.aload_n 0, 1) := by decide +kernel
theorem dX1_addUse_53 : decode cX1_addUse 53 = .ok (.dup, 1) := by decide +kernel
theorem dX1_addUse_54 : decode cX1_addUse 54 = .ok (.getfield 35, 3) := by decide +kernel
theorem dX1_addUse_57 : decode cX1_addUse 57 = .ok (.iconst 1, 1) := by decide +kernel
theorem dX1_addUse_58 : decode cX1_addUse 58 = .ok (.iadd, 1) := by decide +kernel
theorem dX1_addUse_59 : decode cX1_addUse 59 = .ok (.putfield 35, 3) := by decide +kernel
theorem dX1_addUse_62 : decode cX1_addUse 62 = .ok (.aload_n 0, 1) := by decide +kernel
theorem dX1_addUse_63 : decode cX1_addUse 63 = .ok (.getfield 35, 3) := by decide +kernel
theorem dX1_addUse_66 : decode cX1_addUse 66 = .ok (.iconst 1, 1) := by decide +kernel
theorem dX1_addUse_67 : decode cX1_addUse 67 = .ok (.isub, 1) := by decide +kernel
theorem dX1_addUse_68 : decode cX1_addUse 68 = .ok (.ireturn, 1) := by decide +kernel
theorem dX1_countOfKind_0 : decode cX1_countOfKind 0 = .ok (.iconst 0, 1) := by decide +kernel
theorem dX1_countOfKind_1 : decode cX1_countOfKind 1 = .ok (.istore_n 2, 1) := by decide +kernel
theorem dX1_countOfKind_2 : decode cX1_countOfKind 2 = .ok (.iconst 0, 1) := by decide +kernel
theorem dX1_countOfKind_3 : decode cX1_countOfKind 3 = .ok (.istore_n 3, 1) := by decide +kernel
theorem dX1_countOfKind_4 : decode cX1_countOfKind 4 = .ok (.iload_n 3, 1) := by decide +kernel
theorem dX1_countOfKind_5 : decode cX1_countOfKind 5 = .ok (.aload_n 0, 1) := by decide +kernel
theorem dX1_countOfKind_6 : decode cX1_countOfKind 6 = .ok (.getfield 32, 3) := by decide +kernel
theorem dX1_countOfKind_9 : decode cX1_countOfKind 9 = .ok (.if_icmp .ge 22, 3) := by decide +kernel
theorem dX1_countOfKind_12 : decode cX1_countOfKind 12 = .ok (.aload_n 0, 1) := by decide +kernel
theorem dX1_countOfKind_13 : decode cX1_countOfKind 13 = .ok (.getfield 15, 3) := by decide +kernel
theorem dX1_countOfKind_16 : decode cX1_countOfKind 16 = .ok (.iload_n 3, 1) := by decide +kernel
theorem dX1_countOfKind_17 : decode cX1_countOfKind 17 = .ok (.iaload, 1) := by decide +kernel
theorem dX1_countOfKind_18 : decode cX1_countOfKind 18 = .ok (.iload_n 1, 1) := by decide +kernel
theorem dX1_countOfKind_19 : decode cX1_countOfKind 19 = .ok (.if_icmp .ne 6, 3) := by decide +kernel
theorem dX1_countOfKind_22 : decode cX1_countOfKind 22 = .ok (.iinc 2 1, 3) := by decide +kernel
theorem dX1_countOfKind_25 : decode cX1_countOfKind 25 = .ok (.iinc 3 1, 3) := by decide +kernel
theorem dX1_countOfKind_28 : decode cX1_countOfKind 28 = .ok (.goto (-24), 3) := by decide +kernel
theorem dX1_countOfKind_31 : decode cX1_countOfKind 31 = .ok (.iload_n 2, 1) := by decide +kernel
theorem dX1_countOfKind_32 : decode cX1_countOfKind 32 = .ok (.ireturn, 1) := by decide +kernel
theorem dX1_feetOfVolt_0 : decode cX1_feetOfVolt 0 = .ok (.iconst 0, 1) := by decide +kernel
theorem dX1_feetOfVolt_1 : decode cX1_feetOfVolt 1 = .ok (.istore_n 2, 1) := by decide +kernel
theorem dX1_feetOfVolt_2 : decode cX1_feetOfVolt 2 = .ok (.iconst 0, 1) := by decide +kernel
theorem dX1_feetOfVolt_3 : decode cX1_feetOfVolt 3 = .ok (.istore_n 3, 1) := by decide +kernel
theorem dX1_feetOfVolt_4 : decode cX1_feetOfVolt 4 = .ok (.iload_n 3, 1) := by decide +kernel
theorem dX1_feetOfVolt_5 : decode cX1_feetOfVolt 5 = .ok (.aload_n 0, 1) := by decide +kernel
theorem dX1_feetOfVolt_6 : decode cX1_feetOfVolt 6 = .ok (.getfield 28, 3) := by decide +kernel
theorem dX1_feetOfVolt_9 : decode cX1_feetOfVolt 9 = .ok (.if_icmp .ge 29, 3) := by decide +kernel
theorem dX1_feetOfVolt_12 : decode cX1_feetOfVolt 12 = .ok (.iload_n 1, 1) := by decide +kernel
theorem dX1_feetOfVolt_13 : decode cX1_feetOfVolt 13 = .ok (.ifCond .eq 13, 3) := by decide +kernel
theorem dX1_feetOfVolt_16 : decode cX1_feetOfVolt 16 = .ok (.aload_n 0, 1) := by decide +kernel
theorem dX1_feetOfVolt_17 : decode cX1_feetOfVolt 17 = .ok (.getfield 9, 3) := by decide +kernel
theorem dX1_feetOfVolt_20 : decode cX1_feetOfVolt 20 = .ok (.iload_n 3, 1) := by decide +kernel
theorem dX1_feetOfVolt_21 : decode cX1_feetOfVolt 21 = .ok (.iaload, 1) := by decide +kernel
theorem dX1_feetOfVolt_22 : decode cX1_feetOfVolt 22 = .ok (.iload_n 1, 1) := by decide +kernel
theorem dX1_feetOfVolt_23 : decode cX1_feetOfVolt 23 = .ok (.if_icmp .ne 9, 3) := by decide +kernel
theorem dX1_feetOfVolt_26 : decode cX1_feetOfVolt 26 = .ok (.iload_n 2, 1) := by decide +kernel
theorem dX1_feetOfVolt_27 : decode cX1_feetOfVolt 27 = .ok (.iconst 1, 1) := by decide +kernel
theorem dX1_feetOfVolt_28 : decode cX1_feetOfVolt 28 = .ok (.iload_n 3, 1) := by decide +kernel
theorem dX1_feetOfVolt_29 : decode cX1_feetOfVolt 29 = .ok (.ishl, 1) := by decide +kernel
theorem dX1_feetOfVolt_30 : decode cX1_feetOfVolt 30 = .ok (.ior, 1) := by decide +kernel
theorem dX1_feetOfVolt_31 : decode cX1_feetOfVolt 31 = .ok (.istore_n 2, 1) := by decide +kernel
theorem dX1_feetOfVolt_32 : decode cX1_feetOfVolt 32 = .ok (.iinc 3 1, 3) := by decide +kernel
theorem dX1_feetOfVolt_35 : decode cX1_feetOfVolt 35 = .ok (.goto (-31), 3) := by decide +kernel
theorem dX1_feetOfVolt_38 : decode cX1_feetOfVolt 38 = .ok (.iload_n 2, 1) := by decide +kernel
theorem dX1_feetOfVolt_39 : decode cX1_feetOfVolt 39 = .ok (.ireturn, 1) := by decide +kernel
theorem dX1_steps_0 : decode cX1_steps 0 = .ok (.iload_n 1, 1) := by decide +kernel
theorem dX1_steps_1 : decode cX1_steps 1 = .ok (.iload_n 2, 1) := by decide +kernel
theorem dX1_steps_2 : decode cX1_steps 2 = .ok (.isub, 1) := by decide +kernel
theorem dX1_steps_3 : decode cX1_steps 3 = .ok (.invokestatic 38, 3) := by decide +kernel
theorem dX1_steps_6 : decode cX1_steps 6 = .ok (.istore_n 3, 1) := by decide +kernel
theorem dX1_steps_7 : decode cX1_steps 7 = .ok (.iload_n 3, 1) := by decide +kernel
theorem dX1_steps_8 : decode cX1_steps 8 = .ok (.aload_n 0, 1) := by decide +kernel
theorem dX1_steps_9 : decode cX1_steps 9 = .ok (.getfield 28, 3) := by decide +kernel
theorem dX1_steps_12 : decode cX1_steps 12 = .ok (.iload_n 3, 1) := by decide +kernel
theorem dX1_steps_13 : decode cX1_steps 13 = .ok (.isub, 1) := by decide +kernel
theorem dX1_steps_14 : decode cX1_steps 14 = .ok (.invokestatic 44, 3) := by decide +kernel
theorem dX1_steps_17 : decode cX1_steps 17 = .ok (.ireturn, 1) := by decide +kernel
theorem dX2_init_0 : decode cX2_init 0 = .ok (.aload_n 0, 1) := by decide +kernel
theorem dX2_init_1 : decode cX2_init 1 = .ok (.invokespecial 3, 3) := by decide +kernel
theorem dX2_init_4 : decode cX2_init 4 = .ok (.aload_n 0, 1) := by decide +kernel
theorem dX2_init_5 : decode cX2_init 5 = .ok (.iconst 4, 1) := by decide +kernel
theorem dX2_init_6 : decode cX2_init 6 = .ok (.newarray .int, 2) := by decide +kernel
theorem dX2_init_8 : decode cX2_init 8 = .ok (.putfield 9, 3) := by decide +kernel
theorem dX2_init_11 : decode cX2_init 11 = .ok (.aload_n 0, 1) := by decide +kernel
theorem dX2_init_12 : decode cX2_init 12 = .ok (.bipush 16, 2) := by decide +kernel
theorem dX2_init_14 : decode cX2_init 14 = .ok (.newarray .int, 2) := by decide +kernel
theorem dX2_init_16 : decode cX2_init 16 = .ok (.putfield 15, 3) := by decide +kernel
theorem dX2_init_19 : decode cX2_init 19 = .ok (.aload_n 0, 1) := by decide +kernel
theorem dX2_init_20 : decode cX2_init 20 = .ok (.invokevirtual 18, 3) := by decide +kernel
theorem dX2_init_23 : decode cX2_init 23 = .ok (.return_, 1) := by decide +kernel
theorem dX2_clear_0 : decode cX2_clear 0 = .ok (.aload_n 0, 1) := by decide +kernel
theorem dX2_clear_1 : decode cX2_clear 1 = .ok (.iconst 0, 1) := by decide +kernel
theorem dX2_clear_2 : decode cX2_clear 2 = .ok (.putfield 21, 3) := by decide +kernel
theorem dX2_clear_5 : decode cX2_clear 5 = .ok (.aload_n 0, 1) := by decide +kernel
theorem dX2_clear_6 : decode cX2_clear 6 = .ok (.iconst 0, 1) := by decide +kernel
theorem dX2_clear_7 : decode cX2_clear 7 = .ok (.putfield 25, 3) := by decide +kernel
theorem dX2_clear_10 : decode cX2_clear 10 = .ok (.iconst 0, 1) := by decide +kernel
theorem dX2_clear_11 : decode cX2_clear 11 = .ok (.istore_n 1, 1) := by decide +kernel
theorem dX2_clear_12 : decode cX2_clear 12 = .ok (.iload_n 1, 1) := by decide +kernel
theorem dX2_clear_13 : decode cX2_clear 13 = .ok (.iconst 4, 1) := by decide +kernel
theorem dX2_clear_14 : decode cX2_clear 14 = .ok (.if_icmp .ge 17, 3) := by decide +kernel
theorem dX2_clear_17 : decode cX2_clear 17 = .ok (.aload_n 0, 1) := by decide +kernel
theorem dX2_clear_18 : decode cX2_clear 18 = .ok (.getfield 9, 3) := by decide +kernel
theorem dX2_clear_21 : decode cX2_clear 21 = .ok (.iload_n 1, 1) := by decide +kernel
theorem dX2_clear_22 : decode cX2_clear 22 = .ok (.bipush (-6), 2) := by decide +kernel
theorem dX2_clear_24 : decode cX2_clear 24 = .ok (.iastore, 1) := by decide +kernel
theorem dX2_clear_25 : decode cX2_clear 25 = .ok (.iinc 1 1, 3) := by decide +kernel
theorem dX2_clear_28 : decode cX2_clear 28 = .ok (.goto (-16), 3) := by decide +kernel
theorem dX2_clear_31 : decode cX2_clear 31 = .ok (.iconst 0, 1) := by decide +kernel
theorem dX2_clear_32 : decode cX2_clear 32 = .ok (.istore_n 1, 1) := by decide +kernel
theorem dX2_clear_33 : decode cX2_clear 33 = .ok (.iload_n 1, 1) := by decide +kernel
theorem dX2_clear_34 : decode cX2_clear 34 = .ok (.aload_n 0, 1) := by decide +kernel
theorem dX2_clear_35 : decode cX2_clear 35 = .ok (.getfield 15, 3) := by decide +kernel
theorem dX2_clear_38 : decode cX2_clear 38 = .ok (.arraylength, 1) := by decide +kernel
theorem dX2_clear_39 : decode cX2_clear 39 = .ok (.if_icmp .ge 17, 3) := by decide +kernel
theorem dX2_clear_42 : decode cX2_clear 42 = .ok (.aload_n 0, 1) := by decide +kernel
theorem dX2_clear_43 : decode cX2_clear 43 = .ok (.getfield 15, 3) := by decide +kernel
theorem dX2_clear_46 : decode cX2_clear 46 = .ok (.iload_n 1, 1) := by decide +kernel
theorem dX2_clear_47 : decode cX2_clear 47 = .ok (.bipush (-6), 2) := by decide +kernel
theorem dX2_clear_49 : decode cX2_clear 49 = .ok (.iastore, 1) := by decide +kernel
theorem dX2_clear_50 : decode cX2_clear 50 = .ok (.iinc 1 1, 3) := by decide +kernel
theorem dX2_clear_53 : decode cX2_clear 53 = .ok (.goto (-20), 3) := by decide +kernel
theorem dX2_clear_56 : decode cX2_clear 56 = .ok (.return_, 1) := by decide +kernel
theorem dX2_copy_0 : decode cX2_copy 0 = .ok (.aload_n 0, 1) := by decide +kernel
theorem dX2_copy_1 : decode cX2_copy 1 = .ok (.aload_n 1, 1) := by decide +kernel
theorem dX2_copy_2 : decode cX2_copy 2 = .ok (.getfield 21, 3) := by decide +kernel
theorem dX2_copy_5 : decode cX2_copy 5 = .ok (.putfield 21, 3) := by decide +kernel
theorem dX2_copy_8 : decode cX2_copy 8 = .ok (.aload_n 0, 1) := by decide +kernel
theorem dX2_copy_9 : decode cX2_copy 9 = .ok (.aload_n 1, 1) := by decide +kernel
theorem dX2_copy_10 : decode cX2_copy 10 = .ok (.getfield 25, 3) := by decide +kernel
theorem dX2_copy_13 : decode cX2_copy 13 = .ok (.putfield 25, 3) := by decide +kernel
theorem dX2_copy_16 : decode cX2_copy 16 = .ok (.aload_n 1, 1) := by decide +kernel
theorem dX2_copy_17 : decode cX2_copy 17 = .ok (.getfield 9, 3) := by decide +kernel
theorem dX2_copy_20 : decode cX2_copy 20 = .ok (.iconst 0, 1) := by decide +kernel
theorem dX2_copy_21 : decode cX2_copy 21 = .ok (.aload_n 0, 1) := by decide +kernel
theorem dX2_copy_22 : decode cX2_copy 22 = .ok (.getfield 9, 3) := by decide +kernel
theorem dX2_copy_25 : decode cX2_copy 25 = .ok (.iconst 0, 1) := by decide +kernel
theorem dX2_copy_26 : decode cX2_copy 26 = .ok (.aload_n 0, 1) := by decide +kernel
theorem dX2_copy_27 : decode cX2_copy 27 = .ok (.getfield 9, 3) := by decide +kernel
theorem dX2_copy_30 : decode cX2_copy 30 = .ok (.arraylength, 1) := by decide +kernel
theorem dX2_copy_31 : decode cX2_copy 31 = .ok (.invokestatic 29, 3) := by decide +kernel
theorem dX2_copy_34 : decode cX2_copy 34 = .ok (.aload_n 1, 1) := by decide +kernel
theorem dX2_copy_35 : decode cX2_copy 35 = .ok (.getfield 15, 3) := by decide +kernel
theorem dX2_copy_38 : decode cX2_copy 38 = .ok (.iconst 0, 1) := by decide +kernel
theorem dX2_copy_39 : decode cX2_copy 39 = .ok (.aload_n 0, 1) := by decide +kernel
theorem dX2_copy_40 : decode cX2_copy 40 = .ok (.getfield 15, 3) := by decide +kernel
theorem dX2_copy_43 : decode cX2_copy 43 = .ok (.iconst 0, 1) := by decide +kernel
theorem dX2_copy_44 : decode cX2_copy 44 = .ok (.aload_n 0, 1) := by decide +kernel
theorem dX2_copy_45 : decode cX2_copy 45 = .ok (.getfield 15, 3) := by decide +kernel
theorem dX2_copy_48 : decode cX2_copy 48 = .ok (.arraylength, 1) := by decide +kernel
theorem dX2_copy_49 : decode cX2_copy 49 = .ok (.invokestatic 29, 3) := by decide +kernel
theorem dX2_copy_52 : decode cX2_copy 52 = .ok (.return_, 1) := by decide +kernel
theorem dX2_unitOf_0 : decode cX2_unitOf 0 = .ok (.aload_n 0, 1) := by decide +kernel
theorem dX2_unitOf_1 : decode cX2_unitOf 1 = .ok (.getfield 9, 3) := by decide +kernel
theorem dX2_unitOf_4 : decode cX2_unitOf 4 = .ok (.iload_n 1, 1) := by decide +kernel
theorem dX2_unitOf_5 : decode cX2_unitOf 5 = .ok (.iaload, 1) := by decide +kernel
theorem dX2_unitOf_6 : decode cX2_unitOf 6 = .ok (.ireturn, 1) := by decide +kernel
theorem dX2_footOf_0 : decode cX2_footOf 0 = .ok (.aload_n 0, 1) := by decide +kernel
theorem dX2_footOf_1 : decode cX2_footOf 1 = .ok (.getfield 15, 3) := by decide +kernel
theorem dX2_footOf_4 : decode cX2_footOf 4 = .ok (.iload_n 1, 1) := by decide +kernel
theorem dX2_footOf_5 : decode cX2_footOf 5 = .ok (.iconst 4, 1) := by decide +kernel
theorem dX2_footOf_6 : decode cX2_footOf 6 = .ok (.imul, 1) := by decide +kernel
theorem dX2_footOf_7 : decode cX2_footOf 7 = .ok (.iload_n 2, 1) := by decide +kernel
theorem dX2_footOf_8 : decode cX2_footOf 8 = .ok (.iadd, 1) := by decide +kernel
theorem dX2_footOf_9 : decode cX2_footOf 9 = .ok (.iaload, 1) := by decide +kernel
theorem dX2_footOf_10 : decode cX2_footOf 10 = .ok (.ireturn, 1) := by decide +kernel
theorem dX2_slotOn_0 : decode cX2_slotOn 0 = .ok (.iconst 0, 1) := by decide +kernel
theorem dX2_slotOn_1 : decode cX2_slotOn 1 = .ok (.istore_n 2, 1) := by decide +kernel
theorem dX2_slotOn_2 : decode cX2_slotOn 2 = .ok (.iload_n 2, 1) := by decide +kernel
theorem dX2_slotOn_3 : decode cX2_slotOn 3 = .ok (.aload_n 0, 1) := by decide +kernel
theorem dX2_slotOn_4 : decode cX2_slotOn 4 = .ok (.getfield 15, 3) := by decide +kernel
theorem dX2_slotOn_7 : decode cX2_slotOn 7 = .ok (.arraylength, 1) := by decide +kernel
theorem dX2_slotOn_8 : decode cX2_slotOn 8 = .ok (.if_icmp .ge 21, 3) := by decide +kernel
theorem dX2_slotOn_11 : decode cX2_slotOn 11 = .ok (.aload_n 0, 1) := by decide +kernel
theorem dX2_slotOn_12 : decode cX2_slotOn 12 = .ok (.getfield 15, 3) := by decide +kernel
theorem dX2_slotOn_15 : decode cX2_slotOn 15 = .ok (.iload_n 2, 1) := by decide +kernel
theorem dX2_slotOn_16 : decode cX2_slotOn 16 = .ok (.iaload, 1) := by decide +kernel
theorem dX2_slotOn_17 : decode cX2_slotOn 17 = .ok (.iload_n 1, 1) := by decide +kernel
theorem dX2_slotOn_18 : decode cX2_slotOn 18 = .ok (.if_icmp .ne 5, 3) := by decide +kernel
theorem dX2_slotOn_21 : decode cX2_slotOn 21 = .ok (.iload_n 2, 1) := by decide +kernel
theorem dX2_slotOn_22 : decode cX2_slotOn 22 = .ok (.ireturn, 1) := by decide +kernel
theorem dX2_slotOn_23 : decode cX2_slotOn 23 = .ok (.iinc 2 1, 3) := by decide +kernel
theorem dX2_slotOn_26 : decode cX2_slotOn 26 = .ok (.goto (-24), 3) := by decide +kernel
theorem dX2_slotOn_29 : decode cX2_slotOn 29 = .ok (.bipush (-6), 2) := by decide +kernel
theorem dX2_slotOn_31 : decode cX2_slotOn 31 = .ok (.ireturn, 1) := by decide +kernel
theorem dX3_init_0 : decode cX3_init 0 = .ok (.aload_n 0, 1) := by decide +kernel
theorem dX3_init_1 : decode cX3_init 1 = .ok (.invokespecial 3, 3) := by decide +kernel
theorem dX3_init_4 : decode cX3_init 4 = .ok (.aload_n 0, 1) := by decide +kernel
theorem dX3_init_5 : decode cX3_init 5 = .ok (.new 9, 3) := by decide +kernel
theorem dX3_init_8 : decode cX3_init 8 = .ok (.dup, 1) := by decide +kernel
theorem dX3_init_9 : decode cX3_init 9 = .ok (.invokespecial 11, 3) := by decide +kernel
theorem dX3_init_12 : decode cX3_init 12 = .ok (.putfield 12, 3) := by decide +kernel
theorem dX3_init_15 : decode cX3_init 15 = .ok (.aload_n 0, 1) := by decide +kernel
theorem dX3_init_16 : decode cX3_init 16 = .ok (.new 9, 3) := by decide +kernel
theorem dX3_init_19 : decode cX3_init 19 = .ok (.dup, 1) := by decide +kernel
theorem dX3_init_20 : decode cX3_init 20 = .ok (.invokespecial 11, 3) := by decide +kernel
theorem dX3_init_23 : decode cX3_init 23 = .ok (.putfield 18, 3) := by decide +kernel
theorem dX3_init_26 : decode cX3_init 26 = .ok (.aload_n 0, 1) := by decide +kernel
theorem dX3_init_27 : decode cX3_init 27 = .ok (.new 9, 3) := by decide +kernel
theorem dX3_init_30 : decode cX3_init 30 = .ok (.dup, 1) := by decide +kernel
theorem dX3_init_31 : decode cX3_init 31 = .ok (.invokespecial 11, 3) := by decide +kernel
theorem dX3_init_34 : decode cX3_init 34 = .ok (.putfield 21, 3) := by decide +kernel
theorem dX3_init_37 : decode cX3_init 37 = .ok (.aload_n 0, 1) := by decide +kernel
theorem dX3_init_38 : decode cX3_init 38 = .ok (.iconst 4, 1) := by decide +kernel
theorem dX3_init_39 : decode cX3_init 39 = .ok (.newarray .int, 2) := by decide +kernel
theorem dX3_init_41 : decode cX3_init 41 = .ok (.putfield 24, 3) := by decide +kernel
theorem dX3_init_44 : decode cX3_init 44 = .ok (.aload_n 0, 1) := by decide +kernel
theorem dX3_init_45 : decode cX3_init 45 = .ok (.bipush 96, 2) := by decide +kernel
theorem dX3_init_47 : decode cX3_init 47 = .ok (.newarray .int, 2) := by decide +kernel
theorem dX3_init_49 : decode cX3_init 49 = .ok (.putfield 28, 3) := by decide +kernel
theorem dX3_init_52 : decode cX3_init 52 = .ok (.aload_n 0, 1) := by decide +kernel
theorem dX3_init_53 : decode cX3_init 53 = .ok (.bipush 64, 2) := by decide +kernel
theorem dX3_init_55 : decode cX3_init 55 = .ok (.newarray .int, 2) := by decide +kernel
theorem dX3_init_57 : decode cX3_init 57 = .ok (.putfield 31, 3) := by decide +kernel
theorem dX3_init_60 : decode cX3_init 60 = .ok (.aload_n 0, 1) := by decide +kernel
theorem dX3_init_61 : decode cX3_init 61 = .ok (.bipush 120, 2) := by decide +kernel
theorem dX3_init_63 : decode cX3_init 63 = .ok (.newarray .int, 2) := by decide +kernel
theorem dX3_init_65 : decode cX3_init 65 = .ok (.putfield 34, 3) := by decide +kernel
theorem dX3_init_68 : decode cX3_init 68 = .ok (.aload_n 0, 1) := by decide +kernel
theorem dX3_init_69 : decode cX3_init 69 = .ok (.iconst 5, 1) := by decide +kernel
theorem dX3_init_70 : decode cX3_init 70 = .ok (.newarray .int, 2) := by decide +kernel
theorem dX3_init_72 : decode cX3_init 72 = .ok (.putfield 37, 3) := by decide +kernel
theorem dX3_init_75 : decode cX3_init 75 = .ok (.return_, 1) := by decide +kernel
theorem dX3_aim_0 : decode cX3_aim 0 = .ok (.aload_n 0, 1) := by decide +kernel
theorem dX3_aim_1 : decode cX3_aim 1 = .ok (.aload_n 2, 1) := by decide +kernel
theorem dX3_aim_2 : decode cX3_aim 2 = .ok (.getfield 40, 3) := by decide +kernel
theorem dX3_aim_5 : decode cX3_aim 5 = .ok (.putfield 46, 3) := by decide +kernel
theorem dX3_aim_8 : decode cX3_aim 8 = .ok (.aload_n 0, 1) := by decide +kernel
theorem dX3_aim_9 : decode cX3_aim 9 = .ok (.aload_n 1, 1) := by decide +kernel
theorem dX3_aim_10 : decode cX3_aim 10 = .ok (.getfield 47, 3) := by decide +kernel
theorem dX3_aim_13 : decode cX3_aim 13 = .ok (.putfield 52, 3) := by decide +kernel
theorem dX3_aim_16 : decode cX3_aim 16 = .ok (.aload_n 0, 1) := by decide +kernel
theorem dX3_aim_17 : decode cX3_aim 17 = .ok (.aload_n 1, 1) := by decide +kernel
theorem dX3_aim_18 : decode cX3_aim 18 = .ok (.getfield 53, 3) := by decide +kernel
theorem dX3_aim_21 : decode cX3_aim 21 = .ok (.putfield 56, 3) := by decide +kernel
theorem dX3_aim_24 : decode cX3_aim 24 = .ok (.aload_n 0, 1) := by decide +kernel
theorem dX3_aim_25 : decode cX3_aim 25 = .ok (.bipush (-6), 2) := by decide +kernel
theorem dX3_aim_27 : decode cX3_aim 27 = .ok (.putfield 57, 3) := by decide +kernel
theorem dX3_aim_30 : decode cX3_aim 30 = .ok (.aload_n 0, 1) := by decide +kernel
theorem dX3_aim_31 : decode cX3_aim 31 = .ok (.iconst 1, 1) := by decide +kernel
theorem dX3_aim_32 : decode cX3_aim 32 = .ok (.putfield 60, 3) := by decide +kernel
theorem dX3_aim_35 : decode cX3_aim 35 = .ok (.aload_n 0, 1) := by decide +kernel
theorem dX3_aim_36 : decode cX3_aim 36 = .ok (.getfield 21, 3) := by decide +kernel
theorem dX3_aim_39 : decode cX3_aim 39 = .ok (.invokevirtual 64, 3) := by decide +kernel
theorem dX3_aim_42 : decode cX3_aim 42 = .ok (.iconst 0, 1) := by decide +kernel
theorem dX3_aim_43 : decode cX3_aim 43 = .ok (.istore 4, 2) := by decide +kernel
theorem dX3_aim_45 : decode cX3_aim 45 = .ok (.iload 4, 2) := by decide +kernel
theorem dX3_aim_47 : decode cX3_aim 47 = .ok (.aload_n 0, 1) := by decide +kernel
theorem dX3_aim_48 : decode cX3_aim 48 = .ok (.getfield 46, 3) := by decide +kernel
theorem dX3_aim_51 : decode cX3_aim 51 = .ok (.if_icmp .ge 92, 3) := by decide +kernel
theorem dX3_aim_54 : decode cX3_aim 54 = .ok (.iload_n 3, 1) := by decide +kernel
theorem dX3_aim_55 : decode cX3_aim 55 = .ok (.iload 4, 2) := by decide +kernel
theorem dX3_aim_57 : decode cX3_aim 57 = .ok (.ishr, 1) := by decide +kernel
theorem dX3_aim_58 : decode cX3_aim 58 = .ok (.iconst 1, 1) := by decide +kernel
theorem dX3_aim_59 : decode cX3_aim 59 = .ok (.iand, 1) := by decide +kernel
theorem dX3_aim_60 : decode cX3_aim 60 = .ok (.ifCond .eq 7, 3) := by decide +kernel
theorem dX3_aim_63 : decode cX3_aim 63 = .ok (.iconst 1, 1) := by decide +kernel
theorem dX3_aim_64 : decode cX3_aim 64 = .ok (.goto 4, 3) := by decide +kernel
theorem dX3_aim_67 : decode cX3_aim 67 = .ok (.iconst 0, 1) := by decide +kernel
theorem dX3_aim_68 : decode cX3_aim 68 = .ok (.istore 5, 2) := by decide +kernel
theorem dX3_aim_70 : decode cX3_aim 70 = .ok (.aload_n 0, 1) := by decide +kernel
theorem dX3_aim_71 : decode cX3_aim 71 = .ok (.getfield 24, 3) := by decide +kernel
theorem dX3_aim_74 : decode cX3_aim 74 = .ok (.iload 4, 2) := by decide +kernel
theorem dX3_aim_76 : decode cX3_aim 76 = .ok (.iload 5, 2) := by decide +kernel
theorem dX3_aim_78 : decode cX3_aim 78 = .ok (.ifCond .eq 13, 3) := by decide +kernel
theorem dX3_aim_81 : decode cX3_aim 81 = .ok (.aload_n 2, 1) := by decide +kernel
theorem dX3_aim_82 : decode cX3_aim 82 = .ok (.getfield 67, 3) := by decide +kernel
theorem dX3_aim_85 : decode cX3_aim 85 = .ok (.iload 4, 2) := by decide +kernel
theorem dX3_aim_87 : decode cX3_aim 87 = .ok (.iaload, 1) := by decide +kernel
theorem dX3_aim_88 : decode cX3_aim 88 = .ok (.goto 4, 3) := by decide +kernel
theorem dX3_aim_91 : decode cX3_aim 91 = .ok (.iconst 0, 1) := by decide +kernel
theorem dX3_aim_92 : decode cX3_aim 92 = .ok (.iastore, 1) := by decide +kernel
theorem dX3_aim_93 : decode cX3_aim 93 = .ok (.iload 5, 2) := by decide +kernel
theorem dX3_aim_95 : decode cX3_aim 95 = .ok (.ifCond .eq 42, 3) := by decide +kernel
theorem dX3_aim_98 : decode cX3_aim 98 = .ok (.aload_n 0, 1) := by decide +kernel
theorem dX3_aim_99 : decode cX3_aim 99 = .ok (.aload_n 1, 1) := by decide +kernel
theorem dX3_aim_100 : decode cX3_aim 100 = .ok (.aload_n 2, 1) := by decide +kernel
theorem dX3_aim_101 : decode cX3_aim 101 = .ok (.iload 4, 2) := by decide +kernel
theorem dX3_aim_103 : decode cX3_aim 103 = .ok (.invokevirtual 68, 3) := by decide +kernel
theorem dX3_aim_106 : decode cX3_aim 106 = .ok (.aload_n 2, 1) := by decide +kernel
theorem dX3_aim_107 : decode cX3_aim 107 = .ok (.aload_n 2, 1) := by decide +kernel
theorem dX3_aim_108 : decode cX3_aim 108 = .ok (.getfield 72, 3) := by decide +kernel
theorem dX3_aim_111 : decode cX3_aim 111 = .ok (.iload 4, 2) := by decide +kernel
theorem dX3_aim_113 : decode cX3_aim 113 = .ok (.iaload, 1) := by decide +kernel
theorem dX3_aim_114 : decode cX3_aim 114 = .ok (.iload_n 3, 1) := by decide +kernel
theorem dX3_aim_115 : decode cX3_aim 115 = .ok (.invokevirtual 75, 3) := by decide +kernel
theorem dX3_aim_118 : decode cX3_aim 118 = .ok (.aload_n 1, 1) := by decide +kernel
theorem dX3_aim_119 : decode cX3_aim 119 = .ok (.aload_n 2, 1) := by decide +kernel
theorem dX3_aim_120 : decode cX3_aim 120 = .ok (.getfield 72, 3) := by decide +kernel
theorem dX3_aim_123 : decode cX3_aim 123 = .ok (.iload 4, 2) := by decide +kernel
theorem dX3_aim_125 : decode cX3_aim 125 = .ok (.iaload, 1) := by decide +kernel
theorem dX3_aim_126 : decode cX3_aim 126 = .ok (.invokevirtual 79, 3) := by decide +kernel
theorem dX3_aim_129 : decode cX3_aim 129 = .ok (.if_icmp .le 8, 3) := by decide +kernel
theorem dX3_aim_132 : decode cX3_aim 132 = .ok (.aload_n 0, 1) := by decide +kernel
theorem dX3_aim_133 : decode cX3_aim 133 = .ok (.iconst 0, 1) := by decide +kernel
theorem dX3_aim_134 : decode cX3_aim 134 = .ok (.putfield 60, 3) := by decide +kernel
theorem dX3_aim_137 : decode cX3_aim 137 = .ok (.iinc 4 1, 3) := by decide +kernel
theorem dX3_aim_140 : decode cX3_aim 140 = .ok (.goto (-95), 3) := by decide +kernel
theorem dX3_aim_143 : decode cX3_aim 143 = .ok (.return_, 1) := by decide +kernel
theorem dX3_aimAt_0 : decode cX3_aimAt 0 = .ok (.iconst 0, 1) := by decide +kernel
theorem dX3_aimAt_1 : decode cX3_aimAt 1 = .ok (.istore 4, 2) := by decide +kernel
theorem dX3_aimAt_3 : decode cX3_aimAt 3 = .ok (.iload 4, 2) := by decide +kernel
theorem dX3_aimAt_5 : decode cX3_aimAt 5 = .ok (.aload_n 0, 1) := by decide +kernel
theorem dX3_aimAt_6 : decode cX3_aimAt 6 = .ok (.getfield 56, 3) := by decide +kernel
theorem dX3_aimAt_9 : decode cX3_aimAt 9 = .ok (.if_icmp .ge 33, 3) := by decide +kernel
theorem dX3_aimAt_12 : decode cX3_aimAt 12 = .ok (.aload_n 0, 1) := by decide +kernel
theorem dX3_aimAt_13 : decode cX3_aimAt 13 = .ok (.getfield 31, 3) := by decide +kernel
theorem dX3_aimAt_16 : decode cX3_aimAt 16 = .ok (.iload_n 3, 1) := by decide +kernel
theorem dX3_aimAt_17 : decode cX3_aimAt 17 = .ok (.bipush 16, 2) := by decide +kernel
theorem dX3_aimAt_19 : decode cX3_aimAt 19 = .ok (.imul, 1) := by decide +kernel
theorem dX3_aimAt_20 : decode cX3_aimAt 20 = .ok (.iload 4, 2) := by decide +kernel
theorem dX3_aimAt_22 : decode cX3_aimAt 22 = .ok (.iadd, 1) := by decide +kernel
theorem dX3_aimAt_23 : decode cX3_aimAt 23 = .ok (.aload_n 1, 1) := by decide +kernel
theorem dX3_aimAt_24 : decode cX3_aimAt 24 = .ok (.aload_n 2, 1) := by decide +kernel
theorem dX3_aimAt_25 : decode cX3_aimAt 25 = .ok (.getfield 82, 3) := by decide +kernel
theorem dX3_aimAt_28 : decode cX3_aimAt 28 = .ok (.iload_n 3, 1) := by decide +kernel
theorem dX3_aimAt_29 : decode cX3_aimAt 29 = .ok (.iaload, 1) := by decide +kernel
theorem dX3_aimAt_30 : decode cX3_aimAt 30 = .ok (.iload 4, 2) := by decide +kernel
theorem dX3_aimAt_32 : decode cX3_aimAt 32 = .ok (.invokevirtual 85, 3) := by decide +kernel
theorem dX3_aimAt_35 : decode cX3_aimAt 35 = .ok (.iastore, 1) := by decide +kernel
theorem dX3_aimAt_36 : decode cX3_aimAt 36 = .ok (.iinc 4 1, 3) := by decide +kernel
theorem dX3_aimAt_39 : decode cX3_aimAt 39 = .ok (.goto (-36), 3) := by decide +kernel
theorem dX3_aimAt_42 : decode cX3_aimAt 42 = .ok (.iconst 0, 1) := by decide +kernel
theorem dX3_aimAt_43 : decode cX3_aimAt 43 = .ok (.istore 4, 2) := by decide +kernel
theorem dX3_aimAt_45 : decode cX3_aimAt 45 = .ok (.iload 4, 2) := by decide +kernel
theorem dX3_aimAt_47 : decode cX3_aimAt 47 = .ok (.iconst 4, 1) := by decide +kernel
theorem dX3_aimAt_48 : decode cX3_aimAt 48 = .ok (.if_icmp .ge 74, 3) := by decide +kernel
theorem dX3_aimAt_51 : decode cX3_aimAt 51 = .ok (.aload_n 2, 1) := by decide +kernel
theorem dX3_aimAt_52 : decode cX3_aimAt 52 = .ok (.iload_n 3, 1) := by decide +kernel
theorem dX3_aimAt_53 : decode cX3_aimAt 53 = .ok (.iload 4, 2) := by decide +kernel
theorem dX3_aimAt_55 : decode cX3_aimAt 55 = .ok (.invokevirtual 87, 3) := by decide +kernel
theorem dX3_aimAt_58 : decode cX3_aimAt 58 = .ok (.ifCond .eq 13, 3) := by decide +kernel
theorem dX3_aimAt_61 : decode cX3_aimAt 61 = .ok (.aload_n 0, 1) := by decide +kernel
theorem dX3_aimAt_62 : decode cX3_aimAt 62 = .ok (.iload_n 3, 1) := by decide +kernel
theorem dX3_aimAt_63 : decode cX3_aimAt 63 = .ok (.iconst 4, 1) := by decide +kernel
theorem dX3_aimAt_64 : decode cX3_aimAt 64 = .ok (.imul, 1) := by decide +kernel
theorem dX3_aimAt_65 : decode cX3_aimAt 65 = .ok (.iload 4, 2) := by decide +kernel
theorem dX3_aimAt_67 : decode cX3_aimAt 67 = .ok (.iadd, 1) := by decide +kernel
theorem dX3_aimAt_68 : decode cX3_aimAt 68 = .ok (.putfield 57, 3) := by decide +kernel
theorem dX3_aimAt_71 : decode cX3_aimAt 71 = .ok (.iconst 0, 1) := by decide +kernel
theorem dX3_aimAt_72 : decode cX3_aimAt 72 = .ok (.istore 5, 2) := by decide +kernel
theorem dX3_aimAt_74 : decode cX3_aimAt 74 = .ok (.iload 5, 2) := by decide +kernel
theorem dX3_aimAt_76 : decode cX3_aimAt 76 = .ok (.aload_n 0, 1) := by decide +kernel
theorem dX3_aimAt_77 : decode cX3_aimAt 77 = .ok (.getfield 52, 3) := by decide +kernel
theorem dX3_aimAt_80 : decode cX3_aimAt 80 = .ok (.if_icmp .ge 36, 3) := by decide +kernel
theorem dX3_aimAt_83 : decode cX3_aimAt 83 = .ok (.aload_n 0, 1) := by decide +kernel
theorem dX3_aimAt_84 : decode cX3_aimAt 84 = .ok (.getfield 28, 3) := by decide +kernel
theorem dX3_aimAt_87 : decode cX3_aimAt 87 = .ok (.iload_n 3, 1) := by decide +kernel
theorem dX3_aimAt_88 : decode cX3_aimAt 88 = .ok (.bipush 6, 2) := by decide +kernel
theorem dX3_aimAt_90 : decode cX3_aimAt 90 = .ok (.imul, 1) := by decide +kernel
theorem dX3_aimAt_91 : decode cX3_aimAt 91 = .ok (.iload 5, 2) := by decide +kernel
theorem dX3_aimAt_93 : decode cX3_aimAt 93 = .ok (.iadd, 1) := by decide +kernel
theorem dX3_aimAt_94 : decode cX3_aimAt 94 = .ok (.iconst 4, 1) := by decide +kernel
theorem dX3_aimAt_95 : decode cX3_aimAt 95 = .ok (.imul, 1) := by decide +kernel
theorem dX3_aimAt_96 : decode cX3_aimAt 96 = .ok (.iload 4, 2) := by decide +kernel
theorem dX3_aimAt_98 : decode cX3_aimAt 98 = .ok (.iadd, 1) := by decide +kernel
theorem dX3_aimAt_99 : decode cX3_aimAt 99 = .ok (.aload_n 2, 1) := by decide +kernel
theorem dX3_aimAt_100 : decode cX3_aimAt 100 = .ok (.aload_n 1, 1) := by decide +kernel
theorem dX3_aimAt_101 : decode cX3_aimAt 101 = .ok (.iload_n 3, 1) := by decide +kernel
theorem dX3_aimAt_102 : decode cX3_aimAt 102 = .ok (.iload 5, 2) := by decide +kernel
theorem dX3_aimAt_104 : decode cX3_aimAt 104 = .ok (.iload 4, 2) := by decide +kernel
theorem dX3_aimAt_106 : decode cX3_aimAt 106 = .ok (.invokevirtual 91, 3) := by decide +kernel
theorem dX3_aimAt_109 : decode cX3_aimAt 109 = .ok (.iastore, 1) := by decide +kernel
theorem dX3_aimAt_110 : decode cX3_aimAt 110 = .ok (.iinc 5 1, 3) := by decide +kernel
theorem dX3_aimAt_113 : decode cX3_aimAt 113 = .ok (.goto (-39), 3) := by decide +kernel
theorem dX3_aimAt_116 : decode cX3_aimAt 116 = .ok (.iinc 4 1, 3) := by decide +kernel
theorem dX3_aimAt_119 : decode cX3_aimAt 119 = .ok (.goto (-74), 3) := by decide +kernel
theorem dX3_aimAt_122 : decode cX3_aimAt 122 = .ok (.return_, 1) := by decide +kernel
theorem dX3_compareWith_0 : decode cX3_compareWith 0 = .ok (.aload_n 0, 1) := by decide +kernel
theorem dX3_compareWith_1 : decode cX3_compareWith 1 = .ok (.getfield 21, 3) := by decide +kernel
theorem dX3_compareWith_4 : decode cX3_compareWith 4 = .ok (.aload_n 1, 1) := by decide +kernel
theorem dX3_compareWith_5 : decode cX3_compareWith 5 = .ok (.invokevirtual 95, 3) := by decide +kernel
theorem dX3_compareWith_8 : decode cX3_compareWith 8 = .ok (.return_, 1) := by decide +kernel
theorem dX3_findLeast_0 : decode cX3_findLeast 0 = .ok (.aload_n 0, 1) := by decide +kernel
theorem dX3_findLeast_1 : decode cX3_findLeast 1 = .ok (.iconst 0, 1) := by decide +kernel
theorem dX3_findLeast_2 : decode cX3_findLeast 2 = .ok (.invokevirtual 99, 3) := by decide +kernel
theorem dX3_findLeast_5 : decode cX3_findLeast 5 = .ok (.aload_n 0, 1) := by decide +kernel
theorem dX3_findLeast_6 : decode cX3_findLeast 6 = .ok (.getfield 12, 3) := by decide +kernel
theorem dX3_findLeast_9 : decode cX3_findLeast 9 = .ok (.invokevirtual 64, 3) := by decide +kernel
theorem dX3_findLeast_12 : decode cX3_findLeast 12 = .ok (.aload_n 0, 1) := by decide +kernel
theorem dX3_findLeast_13 : decode cX3_findLeast 13 = .ok (.getfield 60, 3) := by decide +kernel
theorem dX3_findLeast_16 : decode cX3_findLeast 16 = .ok (.ifCond .eq 9, 3) := by decide +kernel
theorem dX3_findLeast_19 : decode cX3_findLeast 19 = .ok (.aload_n 0, 1) := by decide +kernel
theorem dX3_findLeast_20 : decode cX3_findLeast 20 = .ok (.iconst 0, 1) := by decide +kernel
theorem dX3_findLeast_21 : decode cX3_findLeast 21 = .ok (.iconst 0, 1) := by decide +kernel
theorem dX3_findLeast_22 : decode cX3_findLeast 22 = .ok (.invokevirtual 103, 3) := by decide +kernel
theorem dX3_findLeast_25 : decode cX3_findLeast 25 = .ok (.aload_n 0, 1) := by decide +kernel
theorem dX3_findLeast_26 : decode cX3_findLeast 26 = .ok (.getfield 12, 3) := by decide +kernel
theorem dX3_findLeast_29 : decode cX3_findLeast 29 = .ok (.getfield 107, 3) := by decide +kernel
theorem dX3_findLeast_32 : decode cX3_findLeast 32 = .ok (.ifCond .eq 10, 3) := by decide +kernel
theorem dX3_findLeast_35 : decode cX3_findLeast 35 = .ok (.aload_n 0, 1) := by decide +kernel
theorem dX3_findLeast_36 : decode cX3_findLeast 36 = .ok (.getfield 110, 3) := by decide +kernel
theorem dX3_findLeast_39 : decode cX3_findLeast 39 = .ok (.goto 5, 3) := by decide +kernel
theorem dX3_findLeast_42 : decode cX3_findLeast 42 = .ok (.bipush (-6), 2) := by decide +kernel
theorem dX3_findLeast_44 : decode cX3_findLeast 44 = .ok (.ireturn, 1) := by decide +kernel
theorem dX3_countUpTo_0 : decode cX3_countUpTo 0 = .ok (.aload_n 0, 1) := by decide +kernel
theorem dX3_countUpTo_1 : decode cX3_countUpTo 1 = .ok (.iload_n 1, 1) := by decide +kernel
theorem dX3_countUpTo_2 : decode cX3_countUpTo 2 = .ok (.invokevirtual 99, 3) := by decide +kernel
theorem dX3_countUpTo_5 : decode cX3_countUpTo 5 = .ok (.aload_n 0, 1) := by decide +kernel
theorem dX3_countUpTo_6 : decode cX3_countUpTo 6 = .ok (.getfield 60, 3) := by decide +kernel
theorem dX3_countUpTo_9 : decode cX3_countUpTo 9 = .ok (.ifCond .eq 9, 3) := by decide +kernel
theorem dX3_countUpTo_12 : decode cX3_countUpTo 12 = .ok (.aload_n 0, 1) := by decide +kernel
theorem dX3_countUpTo_13 : decode cX3_countUpTo 13 = .ok (.iconst 0, 1) := by decide +kernel
theorem dX3_countUpTo_14 : decode cX3_countUpTo 14 = .ok (.iconst 0, 1) := by decide +kernel
theorem dX3_countUpTo_15 : decode cX3_countUpTo 15 = .ok (.invokevirtual 103, 3) := by decide +kernel
theorem dX3_countUpTo_18 : decode cX3_countUpTo 18 = .ok (.aload_n 0, 1) := by decide +kernel
theorem dX3_countUpTo_19 : decode cX3_countUpTo 19 = .ok (.getfield 113, 3) := by decide +kernel
theorem dX3_countUpTo_22 : decode cX3_countUpTo 22 = .ok (.iload_n 1, 1) := by decide +kernel
theorem dX3_countUpTo_23 : decode cX3_countUpTo 23 = .ok (.invokestatic 116, 3) := by decide +kernel
theorem dX3_countUpTo_26 : decode cX3_countUpTo 26 = .ok (.ireturn, 1) := by decide +kernel
theorem dX3_begin_0 : decode cX3_begin 0 = .ok (.aload_n 0, 1) := by decide +kernel
theorem dX3_begin_1 : decode cX3_begin 1 = .ok (.iload_n 1, 1) := by decide +kernel
theorem dX3_begin_2 : decode cX3_begin 2 = .ok (.putfield 121, 3) := by decide +kernel
theorem dX3_begin_5 : decode cX3_begin 5 = .ok (.aload_n 0, 1) := by decide +kernel
theorem dX3_begin_6 : decode cX3_begin 6 = .ok (.iconst 0, 1) := by decide +kernel
theorem dX3_begin_7 : decode cX3_begin 7 = .ok (.putfield 113, 3) := by decide +kernel
theorem dX3_begin_10 : decode cX3_begin 10 = .ok (.aload_n 0, 1) := by decide +kernel
theorem dX3_begin_11 : decode cX3_begin 11 = .ok (.ldc 124, 2) := by decide +kernel
theorem dX3_begin_13 : decode cX3_begin 13 = .ok (.putfield 110, 3) := by decide +kernel
theorem dX3_begin_16 : decode cX3_begin 16 = .ok (.aload_n 0, 1) := by decide +kernel
theorem dX3_begin_17 : decode cX3_begin 17 = .ok (.iconst 0, 1) := by decide +kernel
theorem dX3_begin_18 : decode cX3_begin 18 = .ok (.putfield 125, 3) := by decide +kernel
theorem dX3_begin_21 : decode cX3_begin 21 = .ok (.aload_n 0, 1) := by decide +kernel
theorem dX3_begin_22 : decode cX3_begin 22 = .ok (.iconst 0, 1) := by decide +kernel
theorem dX3_begin_23 : decode cX3_begin 23 = .ok (.putfield 128, 3) := by decide +kernel
theorem dX3_begin_26 : decode cX3_begin 26 = .ok (.aload_n 0, 1) := by decide +kernel
theorem dX3_begin_27 : decode cX3_begin 27 = .ok (.getfield 18, 3) := by decide +kernel
theorem dX3_begin_30 : decode cX3_begin 30 = .ok (.invokevirtual 64, 3) := by decide +kernel
theorem dX3_begin_33 : decode cX3_begin 33 = .ok (.aload_n 0, 1) := by decide +kernel
theorem dX3_begin_34 : decode cX3_begin 34 = .ok (.getfield 18, 3) := by decide +kernel
theorem dX3_begin_37 : decode cX3_begin 37 = .ok (.iconst 1, 1) := by decide +kernel
theorem dX3_begin_38 : decode cX3_begin 38 = .ok (.putfield 107, 3) := by decide +kernel
theorem dX3_begin_41 : decode cX3_begin 41 = .ok (.aload_n 0, 1) := by decide +kernel
theorem dX3_begin_42 : decode cX3_begin 42 = .ok (.getfield 18, 3) := by decide +kernel
theorem dX3_begin_45 : decode cX3_begin 45 = .ok (.aload_n 0, 1) := by decide +kernel
theorem dX3_begin_46 : decode cX3_begin 46 = .ok (.getfield 46, 3) := by decide +kernel
theorem dX3_begin_49 : decode cX3_begin 49 = .ok (.putfield 131, 3) := by decide +kernel
theorem dX3_begin_52 : decode cX3_begin 52 = .ok (.aload_n 0, 1) := by decide +kernel
theorem dX3_begin_53 : decode cX3_begin 53 = .ok (.invokevirtual 132, 3) := by decide +kernel
theorem dX3_begin_56 : decode cX3_begin 56 = .ok (.return_, 1) := by decide +kernel
theorem dX3_setBounds_0 : decode cX3_setBounds 0 = .ok (.aload_n 0, 1) := by decide +kernel
theorem dX3_setBounds_1 : decode cX3_setBounds 1 = .ok (.getfield 37, 3) := by decide +kernel
theorem dX3_setBounds_4 : decode cX3_setBounds 4 = .ok (.aload_n 0, 1) := by decide +kernel
theorem dX3_setBounds_5 : decode cX3_setBounds 5 = .ok (.getfield 46, 3) := by decide +kernel
theorem dX3_setBounds_8 : decode cX3_setBounds 8 = .ok (.iconst 0, 1) := by decide +kernel
theorem dX3_setBounds_9 : decode cX3_setBounds 9 = .ok (.iastore, 1) := by decide +kernel
theorem dX3_setBounds_10 : decode cX3_setBounds 10 = .ok (.aload_n 0, 1) := by decide +kernel
theorem dX3_setBounds_11 : decode cX3_setBounds 11 = .ok (.getfield 46, 3) := by decide +kernel
theorem dX3_setBounds_14 : decode cX3_setBounds 14 = .ok (.iconst 1, 1) := by decide +kernel
theorem dX3_setBounds_15 : decode cX3_setBounds 15 = .ok (.isub, 1) := by decide +kernel
theorem dX3_setBounds_16 : decode cX3_setBounds 16 = .ok (.istore_n 1, 1) := by decide +kernel
theorem dX3_setBounds_17 : decode cX3_setBounds 17 = .ok (.iload_n 1, 1) := by decide +kernel
theorem dX3_setBounds_18 : decode cX3_setBounds 18 = .ok (.ifCond .lt 143, 3) := by decide +kernel
theorem dX3_setBounds_21 : decode cX3_setBounds 21 = .ok (.aload_n 0, 1) := by decide +kernel
theorem dX3_setBounds_22 : decode cX3_setBounds 22 = .ok (.getfield 24, 3) := by decide +kernel
theorem dX3_setBounds_25 : decode cX3_setBounds 25 = .ok (.iload_n 1, 1) := by decide +kernel
theorem dX3_setBounds_26 : decode cX3_setBounds 26 = .ok (.iaload, 1) := by decide +kernel
theorem dX3_setBounds_27 : decode cX3_setBounds 27 = .ok (.ifCond .ne 7, 3) := by decide +kernel
theorem dX3_setBounds_30 : decode cX3_setBounds 30 = .ok (.iconst 0, 1) := by decide +kernel
theorem dX3_setBounds_31 : decode cX3_setBounds 31 = .ok (.goto 5, 3) := by decide +kernel
theorem dX3_setBounds_34 : decode cX3_setBounds 34 = .ok (.ldc 124, 2) := by decide +kernel
theorem dX3_setBounds_36 : decode cX3_setBounds 36 = .ok (.istore_n 2, 1) := by decide +kernel
theorem dX3_setBounds_37 : decode cX3_setBounds 37 = .ok (.iconst 0, 1) := by decide +kernel
theorem dX3_setBounds_38 : decode cX3_setBounds 38 = .ok (.istore_n 3, 1) := by decide +kernel
theorem dX3_setBounds_39 : decode cX3_setBounds 39 = .ok (.iload_n 3, 1) := by decide +kernel
theorem dX3_setBounds_40 : decode cX3_setBounds 40 = .ok (.aload_n 0, 1) := by decide +kernel
theorem dX3_setBounds_41 : decode cX3_setBounds 41 = .ok (.getfield 52, 3) := by decide +kernel
theorem dX3_setBounds_44 : decode cX3_setBounds 44 = .ok (.if_icmp .ge 95, 3) := by decide +kernel
theorem dX3_setBounds_47 : decode cX3_setBounds 47 = .ok (.aload_n 0, 1) := by decide +kernel
theorem dX3_setBounds_48 : decode cX3_setBounds 48 = .ok (.getfield 24, 3) := by decide +kernel
theorem dX3_setBounds_51 : decode cX3_setBounds 51 = .ok (.iload_n 1, 1) := by decide +kernel
theorem dX3_setBounds_52 : decode cX3_setBounds 52 = .ok (.iaload, 1) := by decide +kernel
theorem dX3_setBounds_53 : decode cX3_setBounds 53 = .ok (.ifCond .eq 86, 3) := by decide +kernel
theorem dX3_setBounds_56 : decode cX3_setBounds 56 = .ok (.iload_n 1, 1) := by decide +kernel
theorem dX3_setBounds_57 : decode cX3_setBounds 57 = .ok (.bipush 6, 2) := by decide +kernel
theorem dX3_setBounds_59 : decode cX3_setBounds 59 = .ok (.imul, 1) := by decide +kernel
theorem dX3_setBounds_60 : decode cX3_setBounds 60 = .ok (.iload_n 3, 1) := by decide +kernel
theorem dX3_setBounds_61 : decode cX3_setBounds 61 = .ok (.iadd, 1) := by decide +kernel
theorem dX3_setBounds_62 : decode cX3_setBounds 62 = .ok (.iconst 5, 1) := by decide +kernel
theorem dX3_setBounds_63 : decode cX3_setBounds 63 = .ok (.imul, 1) := by decide +kernel
theorem dX3_setBounds_64 : decode cX3_setBounds 64 = .ok (.istore 4, 2) := by decide +kernel
theorem dX3_setBounds_66 : decode cX3_setBounds 66 = .ok (.aload_n 0, 1) := by decide +kernel
theorem dX3_setBounds_67 : decode cX3_setBounds 67 = .ok (.getfield 34, 3) := by decide +kernel
theorem dX3_setBounds_70 : decode cX3_setBounds 70 = .ok (.iload 4, 2) := by decide +kernel
theorem dX3_setBounds_72 : decode cX3_setBounds 72 = .ok (.iconst 4, 1) := by decide +kernel
theorem dX3_setBounds_73 : decode cX3_setBounds 73 = .ok (.iadd, 1) := by decide +kernel
theorem dX3_setBounds_74 : decode cX3_setBounds 74 = .ok (.iconst 0, 1) := by decide +kernel
theorem dX3_setBounds_75 : decode cX3_setBounds 75 = .ok (.iastore, 1) := by decide +kernel
theorem dX3_setBounds_76 : decode cX3_setBounds 76 = .ok (.iconst 3, 1) := by decide +kernel
theorem dX3_setBounds_77 : decode cX3_setBounds 77 = .ok (.istore 5, 2) := by decide +kernel
theorem dX3_setBounds_79 : decode cX3_setBounds 79 = .ok (.iload 5, 2) := by decide +kernel
theorem dX3_setBounds_81 : decode cX3_setBounds 81 = .ok (.ifCond .lt 40, 3) := by decide +kernel
theorem dX3_setBounds_84 : decode cX3_setBounds 84 = .ok (.aload_n 0, 1) := by decide +kernel
theorem dX3_setBounds_85 : decode cX3_setBounds 85 = .ok (.getfield 34, 3) := by decide +kernel
theorem dX3_setBounds_88 : decode cX3_setBounds 88 = .ok (.iload 4, 2) := by decide +kernel
theorem dX3_setBounds_90 : decode cX3_setBounds 90 = .ok (.iload 5, 2) := by decide +kernel
theorem dX3_setBounds_92 : decode cX3_setBounds 92 = .ok (.iadd, 1) := by decide +kernel
theorem dX3_setBounds_93 : decode cX3_setBounds 93 = .ok (.aload_n 0, 1) := by decide +kernel
theorem dX3_setBounds_94 : decode cX3_setBounds 94 = .ok (.getfield 34, 3) := by decide +kernel
theorem dX3_setBounds_97 : decode cX3_setBounds 97 = .ok (.iload 4, 2) := by decide +kernel
theorem dX3_setBounds_99 : decode cX3_setBounds 99 = .ok (.iload 5, 2) := by decide +kernel
theorem dX3_setBounds_101 : decode cX3_setBounds 101 = .ok (.iadd, 1) := by decide +kernel
theorem dX3_setBounds_102 : decode cX3_setBounds 102 = .ok (.iconst 1, 1) := by decide +kernel
theorem dX3_setBounds_103 : decode cX3_setBounds 103 = .ok (.iadd, 1) := by decide +kernel
theorem dX3_setBounds_104 : decode cX3_setBounds 104 = .ok (.iaload, 1) := by decide +kernel
theorem dX3_setBounds_105 : decode cX3_setBounds 105 = .ok (.aload_n 0, 1) := by decide +kernel
theorem dX3_setBounds_106 : decode cX3_setBounds 106 = .ok (.iload_n 1, 1) := by decide +kernel
theorem dX3_setBounds_107 : decode cX3_setBounds 107 = .ok (.iload_n 3, 1) := by decide +kernel
theorem dX3_setBounds_108 : decode cX3_setBounds 108 = .ok (.iload 5, 2) := by decide +kernel
theorem dX3_setBounds_110 : decode cX3_setBounds 110 = .ok (.invokevirtual 135, 3) := by decide +kernel
theorem dX3_setBounds_113 : decode cX3_setBounds 113 = .ok (.iadd, 1) := by decide +kernel
theorem dX3_setBounds_114 : decode cX3_setBounds 114 = .ok (.iastore, 1) := by decide +kernel
theorem dX3_setBounds_115 : decode cX3_setBounds 115 = .ok (.iinc 5 (-1), 3) := by decide +kernel
theorem dX3_setBounds_118 : decode cX3_setBounds 118 = .ok (.goto (-39), 3) := by decide +kernel
theorem dX3_setBounds_121 : decode cX3_setBounds 121 = .ok (.iload_n 2, 1) := by decide +kernel
theorem dX3_setBounds_122 : decode cX3_setBounds 122 = .ok (.aload_n 0, 1) := by decide +kernel
theorem dX3_setBounds_123 : decode cX3_setBounds 123 = .ok (.getfield 34, 3) := by decide +kernel
theorem dX3_setBounds_126 : decode cX3_setBounds 126 = .ok (.iload 4, 2) := by decide +kernel
theorem dX3_setBounds_128 : decode cX3_setBounds 128 = .ok (.iaload, 1) := by decide +kernel
theorem dX3_setBounds_129 : decode cX3_setBounds 129 = .ok (.invokestatic 116, 3) := by decide +kernel
theorem dX3_setBounds_132 : decode cX3_setBounds 132 = .ok (.istore_n 2, 1) := by decide +kernel
theorem dX3_setBounds_133 : decode cX3_setBounds 133 = .ok (.iinc 3 1, 3) := by decide +kernel
theorem dX3_setBounds_136 : decode cX3_setBounds 136 = .ok (.goto (-97), 3) := by decide +kernel
theorem dX3_setBounds_139 : decode cX3_setBounds 139 = .ok (.aload_n 0, 1) := by decide +kernel
theorem dX3_setBounds_140 : decode cX3_setBounds 140 = .ok (.getfield 37, 3) := by decide +kernel
theorem dX3_setBounds_143 : decode cX3_setBounds 143 = .ok (.iload_n 1, 1) := by decide +kernel
theorem dX3_setBounds_144 : decode cX3_setBounds 144 = .ok (.aload_n 0, 1) := by decide +kernel
theorem dX3_setBounds_145 : decode cX3_setBounds 145 = .ok (.getfield 37, 3) := by decide +kernel
theorem dX3_setBounds_148 : decode cX3_setBounds 148 = .ok (.iload_n 1, 1) := by decide +kernel
theorem dX3_setBounds_149 : decode cX3_setBounds 149 = .ok (.iconst 1, 1) := by decide +kernel
theorem dX3_setBounds_150 : decode cX3_setBounds 150 = .ok (.iadd, 1) := by decide +kernel
theorem dX3_setBounds_151 : decode cX3_setBounds 151 = .ok (.iaload, 1) := by decide +kernel
theorem dX3_setBounds_152 : decode cX3_setBounds 152 = .ok (.iload_n 2, 1) := by decide +kernel
theorem dX3_setBounds_153 : decode cX3_setBounds 153 = .ok (.iadd, 1) := by decide +kernel
theorem dX3_setBounds_154 : decode cX3_setBounds 154 = .ok (.iastore, 1) := by decide +kernel
theorem dX3_setBounds_155 : decode cX3_setBounds 155 = .ok (.iinc 1 (-1), 3) := by decide +kernel
theorem dX3_setBounds_158 : decode cX3_setBounds 158 = .ok (.goto (-141), 3) := by decide +kernel
theorem dX3_setBounds_161 : decode cX3_setBounds 161 = .ok (.return_, 1) := by decide +kernel
theorem dX3_lightestFoot_0 : decode cX3_lightestFoot 0 = .ok (.aload_n 0, 1) := by decide +kernel
theorem dX3_lightestFoot_1 : decode cX3_lightestFoot 1 = .ok (.getfield 24, 3) := by decide +kernel
theorem dX3_lightestFoot_4 : decode cX3_lightestFoot 4 = .ok (.iload_n 1, 1) := by decide +kernel
theorem dX3_lightestFoot_5 : decode cX3_lightestFoot 5 = .ok (.iaload, 1) := by decide +kernel
theorem dX3_lightestFoot_6 : decode cX3_lightestFoot 6 = .ok (.iload_n 3, 1) := by decide +kernel
theorem dX3_lightestFoot_7 : decode cX3_lightestFoot 7 = .ok (.ishr, 1) := by decide +kernel
theorem dX3_lightestFoot_8 : decode cX3_lightestFoot 8 = .ok (.iconst 1, 1) := by decide +kernel
theorem dX3_lightestFoot_9 : decode cX3_lightestFoot 9 = .ok (.iand, 1) := by decide +kernel
theorem dX3_lightestFoot_10 : decode cX3_lightestFoot 10 = .ok (.ifCond .ne 5, 3) := by decide +kernel
theorem dX3_lightestFoot_13 : decode cX3_lightestFoot 13 = .ok (.iconst 0, 1) := by decide +kernel
theorem dX3_lightestFoot_14 : decode cX3_lightestFoot 14 = .ok (.ireturn, 1) := by decide +kernel
theorem dX3_lightestFoot_15 : decode cX3_lightestFoot 15 = .ok (.ldc 124, 2) := by decide +kernel
theorem dX3_lightestFoot_17 : decode cX3_lightestFoot 17 = .ok (.istore 4, 2) := by decide +kernel
theorem dX3_lightestFoot_19 : decode cX3_lightestFoot 19 = .ok (.aload_n 0, 1) := by decide +kernel
theorem dX3_lightestFoot_20 : decode cX3_lightestFoot 20 = .ok (.getfield 28, 3) := by decide +kernel
theorem dX3_lightestFoot_23 : decode cX3_lightestFoot 23 = .ok (.iload_n 1, 1) := by decide +kernel
theorem dX3_lightestFoot_24 : decode cX3_lightestFoot 24 = .ok (.bipush 6, 2) := by decide +kernel
theorem dX3_lightestFoot_26 : decode cX3_lightestFoot 26 = .ok (.imul, 1) := by decide +kernel
theorem dX3_lightestFoot_27 : decode cX3_lightestFoot 27 = .ok (.iload_n 2, 1) := by decide +kernel
theorem dX3_lightestFoot_28 : decode cX3_lightestFoot 28 = .ok (.iadd, 1) := by decide +kernel
theorem dX3_lightestFoot_29 : decode cX3_lightestFoot 29 = .ok (.iconst 4, 1) := by decide +kernel
theorem dX3_lightestFoot_30 : decode cX3_lightestFoot 30 = .ok (.imul, 1) := by decide +kernel
theorem dX3_lightestFoot_31 : decode cX3_lightestFoot 31 = .ok (.iload_n 3, 1) := by decide +kernel
theorem dX3_lightestFoot_32 : decode cX3_lightestFoot 32 = .ok (.iadd, 1) := by decide +kernel
theorem dX3_lightestFoot_33 : decode cX3_lightestFoot 33 = .ok (.iaload, 1) := by decide +kernel
theorem dX3_lightestFoot_34 : decode cX3_lightestFoot 34 = .ok (.istore 5, 2) := by decide +kernel
theorem dX3_lightestFoot_36 : decode cX3_lightestFoot 36 = .ok (.iconst 0, 1) := by decide +kernel
theorem dX3_lightestFoot_37 : decode cX3_lightestFoot 37 = .ok (.istore 6, 2) := by decide +kernel
theorem dX3_lightestFoot_39 : decode cX3_lightestFoot 39 = .ok (.iload 6, 2) := by decide +kernel
theorem dX3_lightestFoot_41 : decode cX3_lightestFoot 41 = .ok (.aload_n 0, 1) := by decide +kernel
theorem dX3_lightestFoot_42 : decode cX3_lightestFoot 42 = .ok (.getfield 56, 3) := by decide +kernel
theorem dX3_lightestFoot_45 : decode cX3_lightestFoot 45 = .ok (.if_icmp .ge 35, 3) := by decide +kernel
theorem dX3_lightestFoot_48 : decode cX3_lightestFoot 48 = .ok (.iload 5, 2) := by decide +kernel
theorem dX3_lightestFoot_50 : decode cX3_lightestFoot 50 = .ok (.iload 6, 2) := by decide +kernel
theorem dX3_lightestFoot_52 : decode cX3_lightestFoot 52 = .ok (.ishr, 1) := by decide +kernel
theorem dX3_lightestFoot_53 : decode cX3_lightestFoot 53 = .ok (.iconst 1, 1) := by decide +kernel
theorem dX3_lightestFoot_54 : decode cX3_lightestFoot 54 = .ok (.iand, 1) := by decide +kernel
theorem dX3_lightestFoot_55 : decode cX3_lightestFoot 55 = .ok (.ifCond .eq 19, 3) := by decide +kernel
theorem dX3_lightestFoot_58 : decode cX3_lightestFoot 58 = .ok (.iload 4, 2) := by decide +kernel
theorem dX3_lightestFoot_60 : decode cX3_lightestFoot 60 = .ok (.aload_n 0, 1) := by decide +kernel
theorem dX3_lightestFoot_61 : decode cX3_lightestFoot 61 = .ok (.iload_n 1, 1) := by decide +kernel
theorem dX3_lightestFoot_62 : decode cX3_lightestFoot 62 = .ok (.iload_n 2, 1) := by decide +kernel
theorem dX3_lightestFoot_63 : decode cX3_lightestFoot 63 = .ok (.iload_n 3, 1) := by decide +kernel
theorem dX3_lightestFoot_64 : decode cX3_lightestFoot 64 = .ok (.iload 6, 2) := by decide +kernel
theorem dX3_lightestFoot_66 : decode cX3_lightestFoot 66 = .ok (.invokevirtual 139, 3) := by decide +kernel
theorem dX3_lightestFoot_69 : decode cX3_lightestFoot 69 = .ok (.invokestatic 116, 3) := by decide +kernel
theorem dX3_lightestFoot_72 : decode cX3_lightestFoot 72 = .ok (.istore 4, 2) := by decide +kernel
theorem dX3_lightestFoot_74 : decode cX3_lightestFoot 74 = .ok (.iinc 6 1, 3) := by decide +kernel
theorem dX3_lightestFoot_77 : decode cX3_lightestFoot 77 = .ok (.goto (-38), 3) := by decide +kernel
theorem dX3_lightestFoot_80 : decode cX3_lightestFoot 80 = .ok (.iload 4, 2) := by decide +kernel
theorem dX3_lightestFoot_82 : decode cX3_lightestFoot 82 = .ok (.ireturn, 1) := by decide +kernel
theorem dX3_weigh_0 : decode cX3_weigh 0 = .ok (.aload_n 0, 1) := by decide +kernel
theorem dX3_weigh_1 : decode cX3_weigh 1 = .ok (.getfield 31, 3) := by decide +kernel
theorem dX3_weigh_4 : decode cX3_weigh 4 = .ok (.iload_n 1, 1) := by decide +kernel
theorem dX3_weigh_5 : decode cX3_weigh 5 = .ok (.bipush 16, 2) := by decide +kernel
theorem dX3_weigh_7 : decode cX3_weigh 7 = .ok (.imul, 1) := by decide +kernel
theorem dX3_weigh_8 : decode cX3_weigh 8 = .ok (.iload 4, 2) := by decide +kernel
theorem dX3_weigh_10 : decode cX3_weigh 10 = .ok (.iadd, 1) := by decide +kernel
theorem dX3_weigh_11 : decode cX3_weigh 11 = .ok (.iaload, 1) := by decide +kernel
theorem dX3_weigh_12 : decode cX3_weigh 12 = .ok (.istore 5, 2) := by decide +kernel
theorem dX3_weigh_14 : decode cX3_weigh 14 = .ok (.iload_n 1, 1) := by decide +kernel
theorem dX3_weigh_15 : decode cX3_weigh 15 = .ok (.aload_n 0, 1) := by decide +kernel
theorem dX3_weigh_16 : decode cX3_weigh 16 = .ok (.getfield 21, 3) := by decide +kernel
theorem dX3_weigh_19 : decode cX3_weigh 19 = .ok (.getfield 131, 3) := by decide +kernel
theorem dX3_weigh_22 : decode cX3_weigh 22 = .ok (.if_icmp .ge 38, 3) := by decide +kernel
theorem dX3_weigh_25 : decode cX3_weigh 25 = .ok (.aload_n 0, 1) := by decide +kernel
theorem dX3_weigh_26 : decode cX3_weigh 26 = .ok (.getfield 21, 3) := by decide +kernel
theorem dX3_weigh_29 : decode cX3_weigh 29 = .ok (.getfield 143, 3) := by decide +kernel
theorem dX3_weigh_32 : decode cX3_weigh 32 = .ok (.iload_n 1, 1) := by decide +kernel
theorem dX3_weigh_33 : decode cX3_weigh 33 = .ok (.iaload, 1) := by decide +kernel
theorem dX3_weigh_34 : decode cX3_weigh 34 = .ok (.iload_n 2, 1) := by decide +kernel
theorem dX3_weigh_35 : decode cX3_weigh 35 = .ok (.if_icmp .ne 21, 3) := by decide +kernel
theorem dX3_weigh_38 : decode cX3_weigh 38 = .ok (.aload_n 0, 1) := by decide +kernel
theorem dX3_weigh_39 : decode cX3_weigh 39 = .ok (.getfield 21, 3) := by decide +kernel
theorem dX3_weigh_42 : decode cX3_weigh 42 = .ok (.getfield 146, 3) := by decide +kernel
theorem dX3_weigh_45 : decode cX3_weigh 45 = .ok (.iload_n 1, 1) := by decide +kernel
theorem dX3_weigh_46 : decode cX3_weigh 46 = .ok (.iconst 4, 1) := by decide +kernel
theorem dX3_weigh_47 : decode cX3_weigh 47 = .ok (.imul, 1) := by decide +kernel
theorem dX3_weigh_48 : decode cX3_weigh 48 = .ok (.iload_n 3, 1) := by decide +kernel
theorem dX3_weigh_49 : decode cX3_weigh 49 = .ok (.iadd, 1) := by decide +kernel
theorem dX3_weigh_50 : decode cX3_weigh 50 = .ok (.iaload, 1) := by decide +kernel
theorem dX3_weigh_51 : decode cX3_weigh 51 = .ok (.iload 4, 2) := by decide +kernel
theorem dX3_weigh_53 : decode cX3_weigh 53 = .ok (.if_icmp .eq 7, 3) := by decide +kernel
theorem dX3_weigh_56 : decode cX3_weigh 56 = .ok (.iconst 1, 1) := by decide +kernel
theorem dX3_weigh_57 : decode cX3_weigh 57 = .ok (.goto 4, 3) := by decide +kernel
theorem dX3_weigh_60 : decode cX3_weigh 60 = .ok (.iconst 0, 1) := by decide +kernel
theorem dX3_weigh_61 : decode cX3_weigh 61 = .ok (.istore 6, 2) := by decide +kernel
theorem dX3_weigh_63 : decode cX3_weigh 63 = .ok (.iload 6, 2) := by decide +kernel
theorem dX3_weigh_65 : decode cX3_weigh 65 = .ok (.ifCond .eq 12, 3) := by decide +kernel
theorem dX3_weigh_68 : decode cX3_weigh 68 = .ok (.iload 5, 2) := by decide +kernel
theorem dX3_weigh_70 : decode cX3_weigh 70 = .ok (.sipush 1000, 3) := by decide +kernel
theorem dX3_weigh_73 : decode cX3_weigh 73 = .ok (.iadd, 1) := by decide +kernel
theorem dX3_weigh_74 : decode cX3_weigh 74 = .ok (.goto 5, 3) := by decide +kernel
theorem dX3_weigh_77 : decode cX3_weigh 77 = .ok (.iload 5, 2) := by decide +kernel
theorem dX3_weigh_79 : decode cX3_weigh 79 = .ok (.ireturn, 1) := by decide +kernel
theorem dX3_isOver_0 : decode cX3_isOver 0 = .ok (.aload_n 0, 1) := by decide +kernel
theorem dX3_isOver_1 : decode cX3_isOver 1 = .ok (.getfield 121, 3) := by decide +kernel
theorem dX3_isOver_4 : decode cX3_isOver 4 = .ok (.ifCond .le 18, 3) := by decide +kernel
theorem dX3_isOver_7 : decode cX3_isOver 7 = .ok (.aload_n 0, 1) := by decide +kernel
theorem dX3_isOver_8 : decode cX3_isOver 8 = .ok (.getfield 113, 3) := by decide +kernel
theorem dX3_isOver_11 : decode cX3_isOver 11 = .ok (.aload_n 0, 1) := by decide +kernel
theorem dX3_isOver_12 : decode cX3_isOver 12 = .ok (.getfield 121, 3) := by decide +kernel
theorem dX3_isOver_15 : decode cX3_isOver 15 = .ok (.if_icmp .lt 7, 3) := by decide +kernel
theorem dX3_isOver_18 : decode cX3_isOver 18 = .ok (.iconst 1, 1) := by decide +kernel
theorem dX3_isOver_19 : decode cX3_isOver 19 = .ok (.goto 4, 3) := by decide +kernel
theorem dX3_isOver_22 : decode cX3_isOver 22 = .ok (.iconst 0, 1) := by decide +kernel
theorem dX3_isOver_23 : decode cX3_isOver 23 = .ok (.ireturn, 1) := by decide +kernel
theorem dX3_giveUnit_0 : decode cX3_giveUnit 0 = .ok (.iload_n 1, 1) := by decide +kernel
theorem dX3_giveUnit_1 : decode cX3_giveUnit 1 = .ok (.aload_n 0, 1) := by decide +kernel
theorem dX3_giveUnit_2 : decode cX3_giveUnit 2 = .ok (.getfield 46, 3) := by decide +kernel
theorem dX3_giveUnit_5 : decode cX3_giveUnit 5 = .ok (.if_icmp .lt 9, 3) := by decide +kernel
theorem dX3_giveUnit_8 : decode cX3_giveUnit 8 = .ok (.aload_n 0, 1) := by decide +kernel
theorem dX3_giveUnit_9 : decode cX3_giveUnit 9 = .ok (.iload_n 2, 1) := by decide +kernel
theorem dX3_giveUnit_10 : decode cX3_giveUnit 10 = .ok (.invokevirtual 149, 3) := by decide +kernel
theorem dX3_giveUnit_13 : decode cX3_giveUnit 13 = .ok (.return_, 1) := by decide +kernel
theorem dX3_giveUnit_14 : decode cX3_giveUnit 14 = .ok (.aload_n 0, 1) := by decide +kernel
theorem dX3_giveUnit_15 : decode cX3_giveUnit 15 = .ok (.getfield 24, 3) := by decide +kernel
theorem dX3_giveUnit_18 : decode cX3_giveUnit 18 = .ok (.iload_n 1, 1) := by decide +kernel
theorem dX3_giveUnit_19 : decode cX3_giveUnit 19 = .ok (.iaload, 1) := by decide +kernel
theorem dX3_giveUnit_20 : decode cX3_giveUnit 20 = .ok (.ifCond .ne 12, 3) := by decide +kernel
theorem dX3_giveUnit_23 : decode cX3_giveUnit 23 = .ok (.aload_n 0, 1) := by decide +kernel
theorem dX3_giveUnit_24 : decode cX3_giveUnit 24 = .ok (.iload_n 1, 1) := by decide +kernel
theorem dX3_giveUnit_25 : decode cX3_giveUnit 25 = .ok (.iconst 1, 1) := by decide +kernel
theorem dX3_giveUnit_26 : decode cX3_giveUnit 26 = .ok (.iadd, 1) := by decide +kernel
theorem dX3_giveUnit_27 : decode cX3_giveUnit 27 = .ok (.iload_n 2, 1) := by decide +kernel
theorem dX3_giveUnit_28 : decode cX3_giveUnit 28 = .ok (.invokevirtual 103, 3) := by decide +kernel
theorem dX3_giveUnit_31 : decode cX3_giveUnit 31 = .ok (.return_, 1) := by decide +kernel
theorem dX3_giveUnit_32 : decode cX3_giveUnit 32 = .ok (.iconst 0, 1) := by decide +kernel
theorem dX3_giveUnit_33 : decode cX3_giveUnit 33 = .ok (.istore_n 3, 1) := by decide +kernel
theorem dX3_giveUnit_34 : decode cX3_giveUnit 34 = .ok (.iload_n 3, 1) := by decide +kernel
theorem dX3_giveUnit_35 : decode cX3_giveUnit 35 = .ok (.aload_n 0, 1) := by decide +kernel
theorem dX3_giveUnit_36 : decode cX3_giveUnit 36 = .ok (.getfield 52, 3) := by decide +kernel
theorem dX3_giveUnit_39 : decode cX3_giveUnit 39 = .ok (.if_icmp .ge 70, 3) := by decide +kernel
theorem dX3_giveUnit_42 : decode cX3_giveUnit 42 = .ok (.aload_n 0, 1) := by decide +kernel
theorem dX3_giveUnit_43 : decode cX3_giveUnit 43 = .ok (.invokevirtual 152, 3) := by decide +kernel
theorem dX3_giveUnit_46 : decode cX3_giveUnit 46 = .ok (.ifCond .ne 63, 3) := by decide +kernel
theorem dX3_giveUnit_49 : decode cX3_giveUnit 49 = .ok (.aload_n 0, 1) := by decide +kernel
theorem dX3_giveUnit_50 : decode cX3_giveUnit 50 = .ok (.getfield 125, 3) := by decide +kernel
theorem dX3_giveUnit_53 : decode cX3_giveUnit 53 = .ok (.iload_n 3, 1) := by decide +kernel
theorem dX3_giveUnit_54 : decode cX3_giveUnit 54 = .ok (.ishr, 1) := by decide +kernel
theorem dX3_giveUnit_55 : decode cX3_giveUnit 55 = .ok (.iconst 1, 1) := by decide +kernel
theorem dX3_giveUnit_56 : decode cX3_giveUnit 56 = .ok (.iand, 1) := by decide +kernel
theorem dX3_giveUnit_57 : decode cX3_giveUnit 57 = .ok (.ifCond .ne 46, 3) := by decide +kernel
theorem dX3_giveUnit_60 : decode cX3_giveUnit 60 = .ok (.aload_n 0, 1) := by decide +kernel
theorem dX3_giveUnit_61 : decode cX3_giveUnit 61 = .ok (.getfield 18, 3) := by decide +kernel
theorem dX3_giveUnit_64 : decode cX3_giveUnit 64 = .ok (.getfield 143, 3) := by decide +kernel
theorem dX3_giveUnit_67 : decode cX3_giveUnit 67 = .ok (.iload_n 1, 1) := by decide +kernel
theorem dX3_giveUnit_68 : decode cX3_giveUnit 68 = .ok (.iload_n 3, 1) := by decide +kernel
theorem dX3_giveUnit_69 : decode cX3_giveUnit 69 = .ok (.iastore, 1) := by decide +kernel
theorem dX3_giveUnit_70 : decode cX3_giveUnit 70 = .ok (.aload_n 0, 1) := by decide +kernel
theorem dX3_giveUnit_71 : decode cX3_giveUnit 71 = .ok (.dup, 1) := by decide +kernel
theorem dX3_giveUnit_72 : decode cX3_giveUnit 72 = .ok (.getfield 125, 3) := by decide +kernel
theorem dX3_giveUnit_75 : decode cX3_giveUnit 75 = .ok (.iconst 1, 1) := by decide +kernel
theorem dX3_giveUnit_76 : decode cX3_giveUnit 76 = .ok (.iload_n 3, 1) := by decide +kernel
theorem dX3_giveUnit_77 : decode cX3_giveUnit 77 = .ok (.ishl, 1) := by decide +kernel
theorem dX3_giveUnit_78 : decode cX3_giveUnit 78 = .ok (.ior, 1) := by decide +kernel
theorem dX3_giveUnit_79 : decode cX3_giveUnit 79 = .ok (.putfield 125, 3) := by decide +kernel
theorem dX3_giveUnit_82 : decode cX3_giveUnit 82 = .ok (.aload_n 0, 1) := by decide +kernel
theorem dX3_giveUnit_83 : decode cX3_giveUnit 83 = .ok (.iload_n 1, 1) := by decide +kernel
theorem dX3_giveUnit_84 : decode cX3_giveUnit 84 = .ok (.iconst 0, 1) := by decide +kernel
theorem dX3_giveUnit_85 : decode cX3_giveUnit 85 = .ok (.iload_n 2, 1) := by decide +kernel
theorem dX3_giveUnit_86 : decode cX3_giveUnit 86 = .ok (.invokevirtual 156, 3) := by decide +kernel
theorem dX3_giveUnit_89 : decode cX3_giveUnit 89 = .ok (.aload_n 0, 1) := by decide +kernel
theorem dX3_giveUnit_90 : decode cX3_giveUnit 90 = .ok (.dup, 1) := by decide +kernel
theorem dX3_giveUnit_91 : decode cX3_giveUnit 91 = .ok (.getfield 125, 3) := by decide +kernel
theorem dX3_giveUnit_94 : decode cX3_giveUnit 94 = .ok (.iconst 1, 1) := by decide +kernel
theorem dX3_giveUnit_95 : decode cX3_giveUnit 95 = .ok (.iload_n 3, 1) := by decide +kernel
theorem dX3_giveUnit_96 : decode cX3_giveUnit 96 = .ok (.ishl, 1) := by decide +kernel
theorem dX3_giveUnit_97 : decode cX3_giveUnit 97 = .ok (.iconst (-1), 1) := by decide +kernel
theorem dX3_giveUnit_98 : decode cX3_giveUnit 98 = .ok (.ixor, 1) := by decide +kernel
theorem dX3_giveUnit_99 : decode cX3_giveUnit 99 = .ok (.iand, 1) := by decide +kernel
theorem dX3_giveUnit_100 : decode cX3_giveUnit 100 = .ok (.putfield 125, 3) := by decide +kernel
theorem dX3_giveUnit_103 : decode cX3_giveUnit 103 = .ok (.iinc 3 1, 3) := by decide +kernel
theorem dX3_giveUnit_106 : decode cX3_giveUnit 106 = .ok (.goto (-72), 3) := by decide +kernel
theorem dX3_giveUnit_109 : decode cX3_giveUnit 109 = .ok (.return_, 1) := by decide +kernel
theorem dX3_giveFoot_0 : decode cX3_giveFoot 0 = .ok (.aload_n 0, 1) := by decide +kernel
theorem dX3_giveFoot_1 : decode cX3_giveFoot 1 = .ok (.getfield 18, 3) := by decide +kernel
theorem dX3_giveFoot_4 : decode cX3_giveFoot 4 = .ok (.getfield 143, 3) := by decide +kernel
theorem dX3_giveFoot_7 : decode cX3_giveFoot 7 = .ok (.iload_n 1, 1) := by decide +kernel
theorem dX3_giveFoot_8 : decode cX3_giveFoot 8 = .ok (.iaload, 1) := by decide +kernel
theorem dX3_giveFoot_9 : decode cX3_giveFoot 9 = .ok (.istore 4, 2) := by decide +kernel
theorem dX3_giveFoot_11 : decode cX3_giveFoot 11 = .ok (.aload_n 0, 1) := by decide +kernel
theorem dX3_giveFoot_12 : decode cX3_giveFoot 12 = .ok (.iload_n 1, 1) := by decide +kernel
theorem dX3_giveFoot_13 : decode cX3_giveFoot 13 = .ok (.iload_n 2, 1) := by decide +kernel
theorem dX3_giveFoot_14 : decode cX3_giveFoot 14 = .ok (.invokevirtual 160, 3) := by decide +kernel
theorem dX3_giveFoot_17 : decode cX3_giveFoot 17 = .ok (.istore 5, 2) := by decide +kernel
theorem dX3_giveFoot_19 : decode cX3_giveFoot 19 = .ok (.aload_n 0, 1) := by decide +kernel
theorem dX3_giveFoot_20 : decode cX3_giveFoot 20 = .ok (.getfield 34, 3) := by decide +kernel
theorem dX3_giveFoot_23 : decode cX3_giveFoot 23 = .ok (.iload_n 1, 1) := by decide +kernel
theorem dX3_giveFoot_24 : decode cX3_giveFoot 24 = .ok (.bipush 6, 2) := by decide +kernel
theorem dX3_giveFoot_26 : decode cX3_giveFoot 26 = .ok (.imul, 1) := by decide +kernel
theorem dX3_giveFoot_27 : decode cX3_giveFoot 27 = .ok (.iload 4, 2) := by decide +kernel
theorem dX3_giveFoot_29 : decode cX3_giveFoot 29 = .ok (.iadd, 1) := by decide +kernel
theorem dX3_giveFoot_30 : decode cX3_giveFoot 30 = .ok (.iconst 5, 1) := by decide +kernel
theorem dX3_giveFoot_31 : decode cX3_giveFoot 31 = .ok (.imul, 1) := by decide +kernel
theorem dX3_giveFoot_32 : decode cX3_giveFoot 32 = .ok (.iload 5, 2) := by decide +kernel
theorem dX3_giveFoot_34 : decode cX3_giveFoot 34 = .ok (.iadd, 1) := by decide +kernel
theorem dX3_giveFoot_35 : decode cX3_giveFoot 35 = .ok (.iaload, 1) := by decide +kernel
theorem dX3_giveFoot_36 : decode cX3_giveFoot 36 = .ok (.aload_n 0, 1) := by decide +kernel
theorem dX3_giveFoot_37 : decode cX3_giveFoot 37 = .ok (.getfield 37, 3) := by decide +kernel
theorem dX3_giveFoot_40 : decode cX3_giveFoot 40 = .ok (.iload_n 1, 1) := by decide +kernel
theorem dX3_giveFoot_41 : decode cX3_giveFoot 41 = .ok (.iconst 1, 1) := by decide +kernel
theorem dX3_giveFoot_42 : decode cX3_giveFoot 42 = .ok (.iadd, 1) := by decide +kernel
theorem dX3_giveFoot_43 : decode cX3_giveFoot 43 = .ok (.iaload, 1) := by decide +kernel
theorem dX3_giveFoot_44 : decode cX3_giveFoot 44 = .ok (.iadd, 1) := by decide +kernel
theorem dX3_giveFoot_45 : decode cX3_giveFoot 45 = .ok (.istore 6, 2) := by decide +kernel
theorem dX3_giveFoot_47 : decode cX3_giveFoot 47 = .ok (.iload_n 3, 1) := by decide +kernel
theorem dX3_giveFoot_48 : decode cX3_giveFoot 48 = .ok (.iload 6, 2) := by decide +kernel
theorem dX3_giveFoot_50 : decode cX3_giveFoot 50 = .ok (.iadd, 1) := by decide +kernel
theorem dX3_giveFoot_51 : decode cX3_giveFoot 51 = .ok (.aload_n 0, 1) := by decide +kernel
theorem dX3_giveFoot_52 : decode cX3_giveFoot 52 = .ok (.getfield 110, 3) := by decide +kernel
theorem dX3_giveFoot_55 : decode cX3_giveFoot 55 = .ok (.if_icmp .lt 4, 3) := by decide +kernel
theorem dX3_giveFoot_58 : decode cX3_giveFoot 58 = .ok (.return_, 1) := by decide +kernel
theorem dX3_giveFoot_59 : decode cX3_giveFoot 59 = .ok (.iload 5, 2) := by decide +kernel
theorem dX3_giveFoot_61 : decode cX3_giveFoot 61 = .ok (.iconst 4, 1) := by decide +kernel
theorem dX3_giveFoot_62 : decode cX3_giveFoot 62 = .ok (.if_icmp .lt 12, 3) := by decide +kernel
theorem dX3_giveFoot_65 : decode cX3_giveFoot 65 = .ok (.aload_n 0, 1) := by decide +kernel
theorem dX3_giveFoot_66 : decode cX3_giveFoot 66 = .ok (.iload_n 1, 1) := by decide +kernel
theorem dX3_giveFoot_67 : decode cX3_giveFoot 67 = .ok (.iconst 1, 1) := by decide +kernel
theorem dX3_giveFoot_68 : decode cX3_giveFoot 68 = .ok (.iadd, 1) := by decide +kernel
theorem dX3_giveFoot_69 : decode cX3_giveFoot 69 = .ok (.iload_n 3, 1) := by decide +kernel
theorem dX3_giveFoot_70 : decode cX3_giveFoot 70 = .ok (.invokevirtual 103, 3) := by decide +kernel
theorem dX3_giveFoot_73 : decode cX3_giveFoot 73 = .ok (.return_, 1) := by decide +kernel
theorem dX3_giveFoot_74 : decode cX3_giveFoot 74 = .ok (.iload_n 1, 1) := by decide +kernel
theorem dX3_giveFoot_75 : decode cX3_giveFoot 75 = .ok (.iconst 4, 1) := by decide +kernel
theorem dX3_giveFoot_76 : decode cX3_giveFoot 76 = .ok (.imul, 1) := by decide +kernel
theorem dX3_giveFoot_77 : decode cX3_giveFoot 77 = .ok (.iload 5, 2) := by decide +kernel
theorem dX3_giveFoot_79 : decode cX3_giveFoot 79 = .ok (.iadd, 1) := by decide +kernel
theorem dX3_giveFoot_80 : decode cX3_giveFoot 80 = .ok (.istore 7, 2) := by decide +kernel
theorem dX3_giveFoot_82 : decode cX3_giveFoot 82 = .ok (.aload_n 0, 1) := by decide +kernel
theorem dX3_giveFoot_83 : decode cX3_giveFoot 83 = .ok (.getfield 28, 3) := by decide +kernel
theorem dX3_giveFoot_86 : decode cX3_giveFoot 86 = .ok (.iload_n 1, 1) := by decide +kernel
theorem dX3_giveFoot_87 : decode cX3_giveFoot 87 = .ok (.bipush 6, 2) := by decide +kernel
theorem dX3_giveFoot_89 : decode cX3_giveFoot 89 = .ok (.imul, 1) := by decide +kernel
theorem dX3_giveFoot_90 : decode cX3_giveFoot 90 = .ok (.iload 4, 2) := by decide +kernel
theorem dX3_giveFoot_92 : decode cX3_giveFoot 92 = .ok (.iadd, 1) := by decide +kernel
theorem dX3_giveFoot_93 : decode cX3_giveFoot 93 = .ok (.iconst 4, 1) := by decide +kernel
theorem dX3_giveFoot_94 : decode cX3_giveFoot 94 = .ok (.imul, 1) := by decide +kernel
theorem dX3_giveFoot_95 : decode cX3_giveFoot 95 = .ok (.iload 5, 2) := by decide +kernel
theorem dX3_giveFoot_97 : decode cX3_giveFoot 97 = .ok (.iadd, 1) := by decide +kernel
theorem dX3_giveFoot_98 : decode cX3_giveFoot 98 = .ok (.iaload, 1) := by decide +kernel
theorem dX3_giveFoot_99 : decode cX3_giveFoot 99 = .ok (.aload_n 0, 1) := by decide +kernel
theorem dX3_giveFoot_100 : decode cX3_giveFoot 100 = .ok (.getfield 128, 3) := by decide +kernel
theorem dX3_giveFoot_103 : decode cX3_giveFoot 103 = .ok (.iconst (-1), 1) := by decide +kernel
theorem dX3_giveFoot_104 : decode cX3_giveFoot 104 = .ok (.ixor, 1) := by decide +kernel
theorem dX3_giveFoot_105 : decode cX3_giveFoot 105 = .ok (.iand, 1) := by decide +kernel
theorem dX3_giveFoot_106 : decode cX3_giveFoot 106 = .ok (.istore 8, 2) := by decide +kernel
theorem dX3_giveFoot_108 : decode cX3_giveFoot 108 = .ok (.aload_n 0, 1) := by decide +kernel
theorem dX3_giveFoot_109 : decode cX3_giveFoot 109 = .ok (.getfield 121, 3) := by decide +kernel
theorem dX3_giveFoot_112 : decode cX3_giveFoot 112 = .ok (.ifCond .le 27, 3) := by decide +kernel
theorem dX3_giveFoot_115 : decode cX3_giveFoot 115 = .ok (.iload 7, 2) := by decide +kernel
theorem dX3_giveFoot_117 : decode cX3_giveFoot 117 = .ok (.aload_n 0, 1) := by decide +kernel
theorem dX3_giveFoot_118 : decode cX3_giveFoot 118 = .ok (.getfield 57, 3) := by decide +kernel
theorem dX3_giveFoot_121 : decode cX3_giveFoot 121 = .ok (.if_icmp .ne 18, 3) := by decide +kernel
theorem dX3_giveFoot_124 : decode cX3_giveFoot 124 = .ok (.aload_n 0, 1) := by decide +kernel
theorem dX3_giveFoot_125 : decode cX3_giveFoot 125 = .ok (.dup, 1) := by decide +kernel
theorem dX3_giveFoot_126 : decode cX3_giveFoot 126 = .ok (.getfield 113, 3) := by decide +kernel
theorem dX3_giveFoot_129 : decode cX3_giveFoot 129 = .ok (.iload 8, 2) := by decide +kernel
theorem dX3_giveFoot_131 : decode cX3_giveFoot 131 = .ok (.invokestatic 163, 3) := by decide +kernel
theorem dX3_giveFoot_134 : decode cX3_giveFoot 134 = .ok (.iadd, 1) := by decide +kernel
theorem dX3_giveFoot_135 : decode cX3_giveFoot 135 = .ok (.putfield 113, 3) := by decide +kernel
theorem dX3_giveFoot_138 : decode cX3_giveFoot 138 = .ok (.return_, 1) := by decide +kernel
theorem dX3_giveFoot_139 : decode cX3_giveFoot 139 = .ok (.iconst 0, 1) := by decide +kernel
theorem dX3_giveFoot_140 : decode cX3_giveFoot 140 = .ok (.istore 9, 2) := by decide +kernel
theorem dX3_giveFoot_142 : decode cX3_giveFoot 142 = .ok (.iload 9, 2) := by decide +kernel
theorem dX3_giveFoot_144 : decode cX3_giveFoot 144 = .ok (.aload_n 0, 1) := by decide +kernel
theorem dX3_giveFoot_145 : decode cX3_giveFoot 145 = .ok (.getfield 56, 3) := by decide +kernel
theorem dX3_giveFoot_148 : decode cX3_giveFoot 148 = .ok (.if_icmp .ge 88, 3) := by decide +kernel
theorem dX3_giveFoot_151 : decode cX3_giveFoot 151 = .ok (.aload_n 0, 1) := by decide +kernel
theorem dX3_giveFoot_152 : decode cX3_giveFoot 152 = .ok (.invokevirtual 152, 3) := by decide +kernel
theorem dX3_giveFoot_155 : decode cX3_giveFoot 155 = .ok (.ifCond .ne 81, 3) := by decide +kernel
theorem dX3_giveFoot_158 : decode cX3_giveFoot 158 = .ok (.iload 8, 2) := by decide +kernel
theorem dX3_giveFoot_160 : decode cX3_giveFoot 160 = .ok (.iload 9, 2) := by decide +kernel
theorem dX3_giveFoot_162 : decode cX3_giveFoot 162 = .ok (.ishr, 1) := by decide +kernel
theorem dX3_giveFoot_163 : decode cX3_giveFoot 163 = .ok (.iconst 1, 1) := by decide +kernel
theorem dX3_giveFoot_164 : decode cX3_giveFoot 164 = .ok (.iand, 1) := by decide +kernel
theorem dX3_giveFoot_165 : decode cX3_giveFoot 165 = .ok (.ifCond .eq 65, 3) := by decide +kernel
theorem dX3_giveFoot_168 : decode cX3_giveFoot 168 = .ok (.aload_n 0, 1) := by decide +kernel
theorem dX3_giveFoot_169 : decode cX3_giveFoot 169 = .ok (.getfield 18, 3) := by decide +kernel
theorem dX3_giveFoot_172 : decode cX3_giveFoot 172 = .ok (.getfield 146, 3) := by decide +kernel
theorem dX3_giveFoot_175 : decode cX3_giveFoot 175 = .ok (.iload 7, 2) := by decide +kernel
theorem dX3_giveFoot_177 : decode cX3_giveFoot 177 = .ok (.iload 9, 2) := by decide +kernel
theorem dX3_giveFoot_179 : decode cX3_giveFoot 179 = .ok (.iastore, 1) := by decide +kernel
theorem dX3_giveFoot_180 : decode cX3_giveFoot 180 = .ok (.aload_n 0, 1) := by decide +kernel
theorem dX3_giveFoot_181 : decode cX3_giveFoot 181 = .ok (.dup, 1) := by decide +kernel
theorem dX3_giveFoot_182 : decode cX3_giveFoot 182 = .ok (.getfield 128, 3) := by decide +kernel
theorem dX3_giveFoot_185 : decode cX3_giveFoot 185 = .ok (.iconst 1, 1) := by decide +kernel
theorem dX3_giveFoot_186 : decode cX3_giveFoot 186 = .ok (.iload 9, 2) := by decide +kernel
theorem dX3_giveFoot_188 : decode cX3_giveFoot 188 = .ok (.ishl, 1) := by decide +kernel
theorem dX3_giveFoot_189 : decode cX3_giveFoot 189 = .ok (.ior, 1) := by decide +kernel
theorem dX3_giveFoot_190 : decode cX3_giveFoot 190 = .ok (.putfield 128, 3) := by decide +kernel
theorem dX3_giveFoot_193 : decode cX3_giveFoot 193 = .ok (.aload_n 0, 1) := by decide +kernel
theorem dX3_giveFoot_194 : decode cX3_giveFoot 194 = .ok (.iload_n 1, 1) := by decide +kernel
theorem dX3_giveFoot_195 : decode cX3_giveFoot 195 = .ok (.iload 5, 2) := by decide +kernel
theorem dX3_giveFoot_197 : decode cX3_giveFoot 197 = .ok (.iconst 1, 1) := by decide +kernel
theorem dX3_giveFoot_198 : decode cX3_giveFoot 198 = .ok (.iadd, 1) := by decide +kernel
theorem dX3_giveFoot_199 : decode cX3_giveFoot 199 = .ok (.iload_n 3, 1) := by decide +kernel
theorem dX3_giveFoot_200 : decode cX3_giveFoot 200 = .ok (.aload_n 0, 1) := by decide +kernel
theorem dX3_giveFoot_201 : decode cX3_giveFoot 201 = .ok (.iload_n 1, 1) := by decide +kernel
theorem dX3_giveFoot_202 : decode cX3_giveFoot 202 = .ok (.iload 4, 2) := by decide +kernel
theorem dX3_giveFoot_204 : decode cX3_giveFoot 204 = .ok (.iload 5, 2) := by decide +kernel
theorem dX3_giveFoot_206 : decode cX3_giveFoot 206 = .ok (.iload 9, 2) := by decide +kernel
theorem dX3_giveFoot_208 : decode cX3_giveFoot 208 = .ok (.invokevirtual 139, 3) := by decide +kernel
theorem dX3_giveFoot_211 : decode cX3_giveFoot 211 = .ok (.iadd, 1) := by decide +kernel
theorem dX3_giveFoot_212 : decode cX3_giveFoot 212 = .ok (.invokevirtual 156, 3) := by decide +kernel
theorem dX3_giveFoot_215 : decode cX3_giveFoot 215 = .ok (.aload_n 0, 1) := by decide +kernel
theorem dX3_giveFoot_216 : decode cX3_giveFoot 216 = .ok (.dup, 1) := by decide +kernel
theorem dX3_giveFoot_217 : decode cX3_giveFoot 217 = .ok (.getfield 128, 3) := by decide +kernel
theorem dX3_giveFoot_220 : decode cX3_giveFoot 220 = .ok (.iconst 1, 1) := by decide +kernel
theorem dX3_giveFoot_221 : decode cX3_giveFoot 221 = .ok (.iload 9, 2) := by decide +kernel
theorem dX3_giveFoot_223 : decode cX3_giveFoot 223 = .ok (.ishl, 1) := by decide +kernel
theorem dX3_giveFoot_224 : decode cX3_giveFoot 224 = .ok (.iconst (-1), 1) := by decide +kernel
theorem dX3_giveFoot_225 : decode cX3_giveFoot 225 = .ok (.ixor, 1) := by decide +kernel
theorem dX3_giveFoot_226 : decode cX3_giveFoot 226 = .ok (.iand, 1) := by decide +kernel
theorem dX3_giveFoot_227 : decode cX3_giveFoot 227 = .ok (.putfield 128, 3) := by decide +kernel
theorem dX3_giveFoot_230 : decode cX3_giveFoot 230 = .ok (.iinc 9 1, 3) := by decide +kernel
theorem dX3_giveFoot_233 : decode cX3_giveFoot 233 = .ok (.goto (-91), 3) := by decide +kernel
theorem dX3_giveFoot_236 : decode cX3_giveFoot 236 = .ok (.return_, 1) := by decide +kernel
theorem dX3_wishedFrom_0 : decode cX3_wishedFrom 0 = .ok (.iload_n 2, 1) := by decide +kernel
theorem dX3_wishedFrom_1 : decode cX3_wishedFrom 1 = .ok (.istore_n 3, 1) := by decide +kernel
theorem dX3_wishedFrom_2 : decode cX3_wishedFrom 2 = .ok (.iload_n 3, 1) := by decide +kernel
theorem dX3_wishedFrom_3 : decode cX3_wishedFrom 3 = .ok (.iconst 4, 1) := by decide +kernel
theorem dX3_wishedFrom_4 : decode cX3_wishedFrom 4 = .ok (.if_icmp .ge 22, 3) := by decide +kernel
theorem dX3_wishedFrom_7 : decode cX3_wishedFrom 7 = .ok (.aload_n 0, 1) := by decide +kernel
theorem dX3_wishedFrom_8 : decode cX3_wishedFrom 8 = .ok (.getfield 24, 3) := by decide +kernel
theorem dX3_wishedFrom_11 : decode cX3_wishedFrom 11 = .ok (.iload_n 1, 1) := by decide +kernel
theorem dX3_wishedFrom_12 : decode cX3_wishedFrom 12 = .ok (.iaload, 1) := by decide +kernel
theorem dX3_wishedFrom_13 : decode cX3_wishedFrom 13 = .ok (.iload_n 3, 1) := by decide +kernel
theorem dX3_wishedFrom_14 : decode cX3_wishedFrom 14 = .ok (.ishr, 1) := by decide +kernel
theorem dX3_wishedFrom_15 : decode cX3_wishedFrom 15 = .ok (.iconst 1, 1) := by decide +kernel
theorem dX3_wishedFrom_16 : decode cX3_wishedFrom 16 = .ok (.iand, 1) := by decide +kernel
theorem dX3_wishedFrom_17 : decode cX3_wishedFrom 17 = .ok (.ifCond .ne 9, 3) := by decide +kernel
theorem dX3_wishedFrom_20 : decode cX3_wishedFrom 20 = .ok (.iinc 3 1, 3) := by decide +kernel
theorem dX3_wishedFrom_23 : decode cX3_wishedFrom 23 = .ok (.goto (-21), 3) := by decide +kernel
theorem dX3_wishedFrom_26 : decode cX3_wishedFrom 26 = .ok (.iload_n 3, 1) := by decide +kernel
theorem dX3_wishedFrom_27 : decode cX3_wishedFrom 27 = .ok (.ireturn, 1) := by decide +kernel
theorem dX3_reach_0 : decode cX3_reach 0 = .ok (.aload_n 0, 1) := by decide +kernel
theorem dX3_reach_1 : decode cX3_reach 1 = .ok (.getfield 121, 3) := by decide +kernel
theorem dX3_reach_4 : decode cX3_reach 4 = .ok (.ifCond .le 16, 3) := by decide +kernel
theorem dX3_reach_7 : decode cX3_reach 7 = .ok (.aload_n 0, 1) := by decide +kernel
theorem dX3_reach_8 : decode cX3_reach 8 = .ok (.dup, 1) := by decide +kernel
theorem dX3_reach_9 : decode cX3_reach 9 = .ok (.getfield 113, 3) := by decide +kernel
theorem dX3_reach_12 : decode cX3_reach 12 = .ok (.iconst 1, 1) := by decide +kernel
theorem dX3_reach_13 : decode cX3_reach 13 = .ok (.iadd, 1) := by decide +kernel
theorem dX3_reach_14 : decode cX3_reach 14 = .ok (.putfield 113, 3) := by decide +kernel
theorem dX3_reach_17 : decode cX3_reach 17 = .ok (.goto 19, 3) := by decide +kernel
theorem dX3_reach_20 : decode cX3_reach 20 = .ok (.aload_n 0, 1) := by decide +kernel
theorem dX3_reach_21 : decode cX3_reach 21 = .ok (.iload_n 1, 1) := by decide +kernel
theorem dX3_reach_22 : decode cX3_reach 22 = .ok (.putfield 110, 3) := by decide +kernel
