theorem dX3_reach_25 : decode cX3_reach 25 = .ok (.aload_n 0, 1) := by decide +kernel
theorem dX3_reach_26 : decode cX3_reach 26 = .ok (.getfield 12, 3) := by decide +kernel
theorem dX3_reach_29 : decode cX3_reach 29 = .ok (.aload_n 0, 1) := by decide +kernel
theorem dX3_reach_30 : decode cX3_reach 30 = .ok (.getfield 18, 3) := by decide +kernel
theorem dX3_reach_33 : decode cX3_reach 33 = .ok (.invokevirtual 95, 3) := by decide +kernel
theorem dX3_reach_36 : decode cX3_reach 36 = .ok (.return_, 1) := by decide +kernel
theorem dX4_init_0 : decode cX4_init 0 = .ok (.aload_n 0, 1) := by decide +kernel
theorem dX4_init_1 : decode cX4_init 1 = .ok (.invokespecial 1, 3) := by decide +kernel
theorem dX4_init_4 : decode cX4_init 4 = .ok (.aload_n 0, 1) := by decide +kernel
theorem dX4_init_5 : decode cX4_init 5 = .ok (.new 7, 3) := by decide +kernel
theorem dX4_init_8 : decode cX4_init 8 = .ok (.dup, 1) := by decide +kernel
theorem dX4_init_9 : decode cX4_init 9 = .ok (.invokespecial 9, 3) := by decide +kernel
theorem dX4_init_12 : decode cX4_init 12 = .ok (.putfield 10, 3) := by decide +kernel
theorem dX4_init_15 : decode cX4_init 15 = .ok (.aload_n 0, 1) := by decide +kernel
theorem dX4_init_16 : decode cX4_init 16 = .ok (.new 16, 3) := by decide +kernel
theorem dX4_init_19 : decode cX4_init 19 = .ok (.dup, 1) := by decide +kernel
theorem dX4_init_20 : decode cX4_init 20 = .ok (.invokespecial 18, 3) := by decide +kernel
theorem dX4_init_23 : decode cX4_init 23 = .ok (.putfield 19, 3) := by decide +kernel
theorem dX4_init_26 : decode cX4_init 26 = .ok (.aload_n 0, 1) := by decide +kernel
theorem dX4_init_27 : decode cX4_init 27 = .ok (.new 23, 3) := by decide +kernel
theorem dX4_init_30 : decode cX4_init 30 = .ok (.dup, 1) := by decide +kernel
theorem dX4_init_31 : decode cX4_init 31 = .ok (.invokespecial 25, 3) := by decide +kernel
theorem dX4_init_34 : decode cX4_init 34 = .ok (.putfield 26, 3) := by decide +kernel
theorem dX4_init_37 : decode cX4_init 37 = .ok (.aload_n 0, 1) := by decide +kernel
theorem dX4_init_38 : decode cX4_init 38 = .ok (.new 30, 3) := by decide +kernel
theorem dX4_init_41 : decode cX4_init 41 = .ok (.dup, 1) := by decide +kernel
theorem dX4_init_42 : decode cX4_init 42 = .ok (.invokespecial 32, 3) := by decide +kernel
theorem dX4_init_45 : decode cX4_init 45 = .ok (.putfield 33, 3) := by decide +kernel
theorem dX4_init_48 : decode cX4_init 48 = .ok (.aload_n 0, 1) := by decide +kernel
theorem dX4_init_49 : decode cX4_init 49 = .ok (.new 30, 3) := by decide +kernel
theorem dX4_init_52 : decode cX4_init 52 = .ok (.dup, 1) := by decide +kernel
theorem dX4_init_53 : decode cX4_init 53 = .ok (.invokespecial 32, 3) := by decide +kernel
theorem dX4_init_56 : decode cX4_init 56 = .ok (.putfield 37, 3) := by decide +kernel
theorem dX4_init_59 : decode cX4_init 59 = .ok (.aload_n 0, 1) := by decide +kernel
theorem dX4_init_60 : decode cX4_init 60 = .ok (.bipush (-6), 2) := by decide +kernel
theorem dX4_init_62 : decode cX4_init 62 = .ok (.putfield 40, 3) := by decide +kernel
theorem dX4_init_65 : decode cX4_init 65 = .ok (.aload_n 0, 1) := by decide +kernel
theorem dX4_init_66 : decode cX4_init 66 = .ok (.iconst 0, 1) := by decide +kernel
theorem dX4_init_67 : decode cX4_init 67 = .ok (.putfield 44, 3) := by decide +kernel
theorem dX4_init_70 : decode cX4_init 70 = .ok (.return_, 1) := by decide +kernel
theorem dX4_feet_0 : decode cX4_feet 0 = .ok (.iload_n 1, 1) := by decide +kernel
theorem dX4_feet_1 : decode cX4_feet 1 = .ok (.iconst 4, 1) := by decide +kernel
theorem dX4_feet_2 : decode cX4_feet 2 = .ok (.if_icmp .lt 9, 3) := by decide +kernel
theorem dX4_feet_5 : decode cX4_feet 5 = .ok (.iload_n 1, 1) := by decide +kernel
theorem dX4_feet_6 : decode cX4_feet 6 = .ok (.bipush 16, 2) := by decide +kernel
theorem dX4_feet_8 : decode cX4_feet 8 = .ok (.if_icmp .le 6, 3) := by decide +kernel
theorem dX4_feet_11 : decode cX4_feet 11 = .ok (.bipush (-2), 2) := by decide +kernel
theorem dX4_feet_13 : decode cX4_feet 13 = .ok (.ireturn, 1) := by decide +kernel
theorem dX4_feet_14 : decode cX4_feet 14 = .ok (.aload_n 0, 1) := by decide +kernel
theorem dX4_feet_15 : decode cX4_feet 15 = .ok (.getfield 10, 3) := by decide +kernel
theorem dX4_feet_18 : decode cX4_feet 18 = .ok (.getfield 48, 3) := by decide +kernel
theorem dX4_feet_21 : decode cX4_feet 21 = .ok (.istore_n 2, 1) := by decide +kernel
theorem dX4_feet_22 : decode cX4_feet 22 = .ok (.aload_n 0, 1) := by decide +kernel
theorem dX4_feet_23 : decode cX4_feet 23 = .ok (.getfield 10, 3) := by decide +kernel
theorem dX4_feet_26 : decode cX4_feet 26 = .ok (.iload_n 1, 1) := by decide +kernel
theorem dX4_feet_27 : decode cX4_feet 27 = .ok (.invokevirtual 51, 3) := by decide +kernel
theorem dX4_feet_30 : decode cX4_feet 30 = .ok (.aload_n 0, 1) := by decide +kernel
theorem dX4_feet_31 : decode cX4_feet 31 = .ok (.getfield 19, 3) := by decide +kernel
theorem dX4_feet_34 : decode cX4_feet 34 = .ok (.iconst 0, 1) := by decide +kernel
theorem dX4_feet_35 : decode cX4_feet 35 = .ok (.putfield 55, 3) := by decide +kernel
theorem dX4_feet_38 : decode cX4_feet 38 = .ok (.aload_n 0, 1) := by decide +kernel
theorem dX4_feet_39 : decode cX4_feet 39 = .ok (.getfield 33, 3) := by decide +kernel
theorem dX4_feet_42 : decode cX4_feet 42 = .ok (.invokevirtual 58, 3) := by decide +kernel
theorem dX4_feet_45 : decode cX4_feet 45 = .ok (.aload_n 0, 1) := by decide +kernel
theorem dX4_feet_46 : decode cX4_feet 46 = .ok (.iconst 0, 1) := by decide +kernel
theorem dX4_feet_47 : decode cX4_feet 47 = .ok (.putfield 44, 3) := by decide +kernel
theorem dX4_feet_50 : decode cX4_feet 50 = .ok (.iload_n 2, 1) := by decide +kernel
theorem dX4_feet_51 : decode cX4_feet 51 = .ok (.ireturn, 1) := by decide +kernel
theorem dX4_volt_0 : decode cX4_volt 0 = .ok (.aload_n 0, 1) := by decide +kernel
theorem dX4_volt_1 : decode cX4_volt 1 = .ok (.getfield 10, 3) := by decide +kernel
theorem dX4_volt_4 : decode cX4_volt 4 = .ok (.iload_n 1, 1) := by decide +kernel
theorem dX4_volt_5 : decode cX4_volt 5 = .ok (.invokevirtual 61, 3) := by decide +kernel
theorem dX4_volt_8 : decode cX4_volt 8 = .ok (.ifCond .ne 5, 3) := by decide +kernel
theorem dX4_volt_11 : decode cX4_volt 11 = .ok (.iconst (-1), 1) := by decide +kernel
theorem dX4_volt_12 : decode cX4_volt 12 = .ok (.ireturn, 1) := by decide +kernel
theorem dX4_volt_13 : decode cX4_volt 13 = .ok (.iload_n 2, 1) := by decide +kernel
theorem dX4_volt_14 : decode cX4_volt 14 = .ok (.iconst 1, 1) := by decide +kernel
theorem dX4_volt_15 : decode cX4_volt 15 = .ok (.if_icmp .lt 8, 3) := by decide +kernel
theorem dX4_volt_18 : decode cX4_volt 18 = .ok (.iload_n 2, 1) := by decide +kernel
theorem dX4_volt_19 : decode cX4_volt 19 = .ok (.iconst 4, 1) := by decide +kernel
theorem dX4_volt_20 : decode cX4_volt 20 = .ok (.if_icmp .le 6, 3) := by decide +kernel
theorem dX4_volt_23 : decode cX4_volt 23 = .ok (.bipush (-2), 2) := by decide +kernel
theorem dX4_volt_25 : decode cX4_volt 25 = .ok (.ireturn, 1) := by decide +kernel
theorem dX4_volt_26 : decode cX4_volt 26 = .ok (.aload_n 0, 1) := by decide +kernel
theorem dX4_volt_27 : decode cX4_volt 27 = .ok (.getfield 10, 3) := by decide +kernel
theorem dX4_volt_30 : decode cX4_volt 30 = .ok (.getfield 65, 3) := by decide +kernel
theorem dX4_volt_33 : decode cX4_volt 33 = .ok (.iload_n 1, 1) := by decide +kernel
theorem dX4_volt_34 : decode cX4_volt 34 = .ok (.iaload, 1) := by decide +kernel
theorem dX4_volt_35 : decode cX4_volt 35 = .ok (.istore_n 3, 1) := by decide +kernel
theorem dX4_volt_36 : decode cX4_volt 36 = .ok (.aload_n 0, 1) := by decide +kernel
theorem dX4_volt_37 : decode cX4_volt 37 = .ok (.getfield 10, 3) := by decide +kernel
theorem dX4_volt_40 : decode cX4_volt 40 = .ok (.getfield 65, 3) := by decide +kernel
theorem dX4_volt_43 : decode cX4_volt 43 = .ok (.iload_n 1, 1) := by decide +kernel
theorem dX4_volt_44 : decode cX4_volt 44 = .ok (.iload_n 2, 1) := by decide +kernel
theorem dX4_volt_45 : decode cX4_volt 45 = .ok (.iastore, 1) := by decide +kernel
theorem dX4_volt_46 : decode cX4_volt 46 = .ok (.aload_n 0, 1) := by decide +kernel
theorem dX4_volt_47 : decode cX4_volt 47 = .ok (.iconst 0, 1) := by decide +kernel
theorem dX4_volt_48 : decode cX4_volt 48 = .ok (.putfield 44, 3) := by decide +kernel
theorem dX4_volt_51 : decode cX4_volt 51 = .ok (.iload_n 3, 1) := by decide +kernel
theorem dX4_volt_52 : decode cX4_volt 52 = .ok (.ireturn, 1) := by decide +kernel
theorem dX4_unit_0 : decode cX4_unit 0 = .ok (.iload_n 1, 1) := by decide +kernel
theorem dX4_unit_1 : decode cX4_unit 1 = .ok (.invokestatic 69, 3) := by decide +kernel
theorem dX4_unit_4 : decode cX4_unit 4 = .ok (.ifCond .ne 6, 3) := by decide +kernel
theorem dX4_unit_7 : decode cX4_unit 7 = .ok (.bipush (-2), 2) := by decide +kernel
theorem dX4_unit_9 : decode cX4_unit 9 = .ok (.ireturn, 1) := by decide +kernel
theorem dX4_unit_10 : decode cX4_unit 10 = .ok (.aload_n 0, 1) := by decide +kernel
theorem dX4_unit_11 : decode cX4_unit 11 = .ok (.getfield 10, 3) := by decide +kernel
theorem dX4_unit_14 : decode cX4_unit 14 = .ok (.getfield 72, 3) := by decide +kernel
theorem dX4_unit_17 : decode cX4_unit 17 = .ok (.bipush 6, 2) := by decide +kernel
theorem dX4_unit_19 : decode cX4_unit 19 = .ok (.if_icmp .lt 6, 3) := by decide +kernel
theorem dX4_unit_22 : decode cX4_unit 22 = .ok (.bipush (-4), 2) := by decide +kernel
theorem dX4_unit_24 : decode cX4_unit 24 = .ok (.ireturn, 1) := by decide +kernel
theorem dX4_unit_25 : decode cX4_unit 25 = .ok (.aload_n 0, 1) := by decide +kernel
theorem dX4_unit_26 : decode cX4_unit 26 = .ok (.iconst 0, 1) := by decide +kernel
theorem dX4_unit_27 : decode cX4_unit 27 = .ok (.putfield 44, 3) := by decide +kernel
theorem dX4_unit_30 : decode cX4_unit 30 = .ok (.aload_n 0, 1) := by decide +kernel
theorem dX4_unit_31 : decode cX4_unit 31 = .ok (.getfield 10, 3) := by decide +kernel
theorem dX4_unit_34 : decode cX4_unit 34 = .ok (.iload_n 1, 1) := by decide +kernel
theorem dX4_unit_35 : decode cX4_unit 35 = .ok (.invokevirtual 75, 3) := by decide +kernel
theorem dX4_unit_38 : decode cX4_unit 38 = .ok (.ireturn, 1) := by decide +kernel
theorem dX4_kind_0 : decode cX4_kind 0 = .ok (.aload_n 0, 1) := by decide +kernel
theorem dX4_kind_1 : decode cX4_kind 1 = .ok (.getfield 10, 3) := by decide +kernel
theorem dX4_kind_4 : decode cX4_kind 4 = .ok (.iload_n 1, 1) := by decide +kernel
theorem dX4_kind_5 : decode cX4_kind 5 = .ok (.invokevirtual 79, 3) := by decide +kernel
theorem dX4_kind_8 : decode cX4_kind 8 = .ok (.ifCond .eq 15, 3) := by decide +kernel
theorem dX4_kind_11 : decode cX4_kind 11 = .ok (.aload_n 0, 1) := by decide +kernel
theorem dX4_kind_12 : decode cX4_kind 12 = .ok (.getfield 10, 3) := by decide +kernel
theorem dX4_kind_15 : decode cX4_kind 15 = .ok (.getfield 82, 3) := by decide +kernel
theorem dX4_kind_18 : decode cX4_kind 18 = .ok (.iload_n 1, 1) := by decide +kernel
theorem dX4_kind_19 : decode cX4_kind 19 = .ok (.iaload, 1) := by decide +kernel
theorem dX4_kind_20 : decode cX4_kind 20 = .ok (.goto 4, 3) := by decide +kernel
theorem dX4_kind_23 : decode cX4_kind 23 = .ok (.iconst (-1), 1) := by decide +kernel
theorem dX4_kind_24 : decode cX4_kind 24 = .ok (.ireturn, 1) := by decide +kernel
theorem dX4_use_0 : decode cX4_use 0 = .ok (.aload_n 0, 1) := by decide +kernel
theorem dX4_use_1 : decode cX4_use 1 = .ok (.getfield 10, 3) := by decide +kernel
theorem dX4_use_4 : decode cX4_use 4 = .ok (.iload_n 1, 1) := by decide +kernel
theorem dX4_use_5 : decode cX4_use 5 = .ok (.invokevirtual 61, 3) := by decide +kernel
theorem dX4_use_8 : decode cX4_use 8 = .ok (.ifCond .eq 14, 3) := by decide +kernel
theorem dX4_use_11 : decode cX4_use 11 = .ok (.aload_n 0, 1) := by decide +kernel
theorem dX4_use_12 : decode cX4_use 12 = .ok (.getfield 10, 3) := by decide +kernel
theorem dX4_use_15 : decode cX4_use 15 = .ok (.iload_n 2, 1) := by decide +kernel
theorem dX4_use_16 : decode cX4_use 16 = .ok (.invokevirtual 79, 3) := by decide +kernel
theorem dX4_use_19 : decode cX4_use 19 = .ok (.ifCond .ne 5, 3) := by decide +kernel
theorem dX4_use_22 : decode cX4_use 22 = .ok (.iconst (-1), 1) := by decide +kernel
theorem dX4_use_23 : decode cX4_use 23 = .ok (.ireturn, 1) := by decide +kernel
theorem dX4_use_24 : decode cX4_use 24 = .ok (.iload_n 3, 1) := by decide +kernel
theorem dX4_use_25 : decode cX4_use 25 = .ok (.invokestatic 85, 3) := by decide +kernel
theorem dX4_use_28 : decode cX4_use 28 = .ok (.ifCond .ne 6, 3) := by decide +kernel
theorem dX4_use_31 : decode cX4_use 31 = .ok (.bipush (-2), 2) := by decide +kernel
theorem dX4_use_33 : decode cX4_use 33 = .ok (.ireturn, 1) := by decide +kernel
theorem dX4_use_34 : decode cX4_use 34 = .ok (.aload_n 0, 1) := by decide +kernel
theorem dX4_use_35 : decode cX4_use 35 = .ok (.getfield 10, 3) := by decide +kernel
theorem dX4_use_38 : decode cX4_use 38 = .ok (.getfield 88, 3) := by decide +kernel
theorem dX4_use_41 : decode cX4_use 41 = .ok (.bipush 30, 2) := by decide +kernel
theorem dX4_use_43 : decode cX4_use 43 = .ok (.if_icmp .lt 6, 3) := by decide +kernel
theorem dX4_use_46 : decode cX4_use 46 = .ok (.bipush (-4), 2) := by decide +kernel
theorem dX4_use_48 : decode cX4_use 48 = .ok (.ireturn, 1) := by decide +kernel
theorem dX4_use_49 : decode cX4_use 49 = .ok (.aload_n 0, 1) := by decide +kernel
theorem dX4_use_50 : decode cX4_use 50 = .ok (.getfield 10, 3) := by decide +kernel
theorem dX4_use_53 : decode cX4_use 53 = .ok (.iload_n 1, 1) := by decide +kernel
theorem dX4_use_54 : decode cX4_use 54 = .ok (.iload_n 2, 1) := by decide +kernel
theorem dX4_use_55 : decode cX4_use 55 = .ok (.iload_n 3, 1) := by decide +kernel
theorem dX4_use_56 : decode cX4_use 56 = .ok (.invokevirtual 91, 3) := by decide +kernel
theorem dX4_use_59 : decode cX4_use 59 = .ok (.ifCond .eq 6, 3) := by decide +kernel
theorem dX4_use_62 : decode cX4_use 62 = .ok (.bipush (-5), 2) := by decide +kernel
theorem dX4_use_64 : decode cX4_use 64 = .ok (.ireturn, 1) := by decide +kernel
theorem dX4_use_65 : decode cX4_use 65 = .ok (.aload_n 0, 1) := by decide +kernel
theorem dX4_use_66 : decode cX4_use 66 = .ok (.iconst 0, 1) := by decide +kernel
theorem dX4_use_67 : decode cX4_use 67 = .ok (.putfield 44, 3) := by decide +kernel
theorem dX4_use_70 : decode cX4_use 70 = .ok (.aload_n 0, 1) := by decide +kernel
theorem dX4_use_71 : decode cX4_use 71 = .ok (.getfield 10, 3) := by decide +kernel
theorem dX4_use_74 : decode cX4_use 74 = .ok (.iload_n 1, 1) := by decide +kernel
theorem dX4_use_75 : decode cX4_use 75 = .ok (.iload_n 2, 1) := by decide +kernel
theorem dX4_use_76 : decode cX4_use 76 = .ok (.iload_n 3, 1) := by decide +kernel
theorem dX4_use_77 : decode cX4_use 77 = .ok (.invokevirtual 95, 3) := by decide +kernel
theorem dX4_use_80 : decode cX4_use 80 = .ok (.ireturn, 1) := by decide +kernel
theorem dX4_about_0 : decode cX4_about 0 = .ok (.iload_n 1, 1) := by decide +kernel
theorem dX4_about_1 : decode cX4_about 1 = .ok (.ifCond .lt 14, 3) := by decide +kernel
theorem dX4_about_4 : decode cX4_about 4 = .ok (.iload_n 1, 1) := by decide +kernel
theorem dX4_about_5 : decode cX4_about 5 = .ok (.aload_n 0, 1) := by decide +kernel
theorem dX4_about_6 : decode cX4_about 6 = .ok (.getfield 10, 3) := by decide +kernel
theorem dX4_about_9 : decode cX4_about 9 = .ok (.getfield 88, 3) := by decide +kernel
theorem dX4_about_12 : decode cX4_about 12 = .ok (.if_icmp .lt 5, 3) := by decide +kernel
theorem dX4_about_15 : decode cX4_about 15 = .ok (.iconst (-1), 1) := by decide +kernel
theorem dX4_about_16 : decode cX4_about 16 = .ok (.ireturn, 1) := by decide +kernel
theorem dX4_about_17 : decode cX4_about 17 = .ok (.iload_n 2, 1) := by decide +kernel
theorem dX4_about_18 : decode cX4_about 18 = .ok (.ifCond .lt 8, 3) := by decide +kernel
theorem dX4_about_21 : decode cX4_about 21 = .ok (.iload_n 2, 1) := by decide +kernel
theorem dX4_about_22 : decode cX4_about 22 = .ok (.iconst 3, 1) := by decide +kernel
theorem dX4_about_23 : decode cX4_about 23 = .ok (.if_icmp .lt 6, 3) := by decide +kernel
theorem dX4_about_26 : decode cX4_about 26 = .ok (.bipush (-2), 2) := by decide +kernel
theorem dX4_about_28 : decode cX4_about 28 = .ok (.ireturn, 1) := by decide +kernel
theorem dX4_about_29 : decode cX4_about 29 = .ok (.aload_n 0, 1) := by decide +kernel
theorem dX4_about_30 : decode cX4_about 30 = .ok (.getfield 10, 3) := by decide +kernel
theorem dX4_about_33 : decode cX4_about 33 = .ok (.getfield 99, 3) := by decide +kernel
theorem dX4_about_36 : decode cX4_about 36 = .ok (.iload_n 1, 1) := by decide +kernel
theorem dX4_about_37 : decode cX4_about 37 = .ok (.iconst 3, 1) := by decide +kernel
theorem dX4_about_38 : decode cX4_about 38 = .ok (.imul, 1) := by decide +kernel
theorem dX4_about_39 : decode cX4_about 39 = .ok (.iload_n 2, 1) := by decide +kernel
theorem dX4_about_40 : decode cX4_about 40 = .ok (.iadd, 1) := by decide +kernel
theorem dX4_about_41 : decode cX4_about 41 = .ok (.iaload, 1) := by decide +kernel
theorem dX4_about_42 : decode cX4_about 42 = .ok (.ireturn, 1) := by decide +kernel
theorem dX4_wish_0 : decode cX4_wish 0 = .ok (.aload_n 0, 1) := by decide +kernel
theorem dX4_wish_1 : decode cX4_wish 1 = .ok (.iload_n 1, 1) := by decide +kernel
theorem dX4_wish_2 : decode cX4_wish 2 = .ok (.iload_n 2, 1) := by decide +kernel
theorem dX4_wish_3 : decode cX4_wish 3 = .ok (.iload_n 3, 1) := by decide +kernel
theorem dX4_wish_4 : decode cX4_wish 4 = .ok (.iload 4, 2) := by decide +kernel
theorem dX4_wish_6 : decode cX4_wish 6 = .ok (.invokevirtual 102, 3) := by decide +kernel
theorem dX4_wish_9 : decode cX4_wish 9 = .ok (.istore 5, 2) := by decide +kernel
theorem dX4_wish_11 : decode cX4_wish 11 = .ok (.iload 5, 2) := by decide +kernel
theorem dX4_wish_13 : decode cX4_wish 13 = .ok (.ifCond .eq 6, 3) := by decide +kernel
theorem dX4_wish_16 : decode cX4_wish 16 = .ok (.iload 5, 2) := by decide +kernel
theorem dX4_wish_18 : decode cX4_wish 18 = .ok (.ireturn, 1) := by decide +kernel
theorem dX4_wish_19 : decode cX4_wish 19 = .ok (.aload_n 0, 1) := by decide +kernel
theorem dX4_wish_20 : decode cX4_wish 20 = .ok (.iconst 0, 1) := by decide +kernel
theorem dX4_wish_21 : decode cX4_wish 21 = .ok (.putfield 44, 3) := by decide +kernel
theorem dX4_wish_24 : decode cX4_wish 24 = .ok (.aload_n 0, 1) := by decide +kernel
theorem dX4_wish_25 : decode cX4_wish 25 = .ok (.getfield 19, 3) := by decide +kernel
theorem dX4_wish_28 : decode cX4_wish 28 = .ok (.iload_n 1, 1) := by decide +kernel
theorem dX4_wish_29 : decode cX4_wish 29 = .ok (.iload_n 2, 1) := by decide +kernel
theorem dX4_wish_30 : decode cX4_wish 30 = .ok (.iload_n 3, 1) := by decide +kernel
theorem dX4_wish_31 : decode cX4_wish 31 = .ok (.iload 4, 2) := by decide +kernel
theorem dX4_wish_33 : decode cX4_wish 33 = .ok (.invokevirtual 106, 3) := by decide +kernel
theorem dX4_wish_36 : decode cX4_wish 36 = .ok (.ireturn, 1) := by decide +kernel
theorem dX4_wished_0 : decode cX4_wished 0 = .ok (.aload_n 0, 1) := by decide +kernel
theorem dX4_wished_1 : decode cX4_wished 1 = .ok (.getfield 19, 3) := by decide +kernel
theorem dX4_wished_4 : decode cX4_wished 4 = .ok (.iload_n 1, 1) := by decide +kernel
theorem dX4_wished_5 : decode cX4_wished 5 = .ok (.invokevirtual 109, 3) := by decide +kernel
theorem dX4_wished_8 : decode cX4_wished 8 = .ok (.ifCond .ne 5, 3) := by decide +kernel
theorem dX4_wished_11 : decode cX4_wished 11 = .ok (.iconst (-1), 1) := by decide +kernel
theorem dX4_wished_12 : decode cX4_wished 12 = .ok (.ireturn, 1) := by decide +kernel
theorem dX4_wished_13 : decode cX4_wished 13 = .ok (.iload_n 2, 1) := by decide +kernel
theorem dX4_wished_14 : decode cX4_wished 14 = .ok (.tableswitch 70 0 3 #[30, 40, 50, 60], 30) := by decide +kernel
theorem dX4_wished_44 : decode cX4_wished 44 = .ok (.aload_n 0, 1) := by decide +kernel
theorem dX4_wished_45 : decode cX4_wished 45 = .ok (.getfield 19, 3) := by decide +kernel
theorem dX4_wished_48 : decode cX4_wished 48 = .ok (.getfield 112, 3) := by decide +kernel
theorem dX4_wished_51 : decode cX4_wished 51 = .ok (.iload_n 1, 1) := by decide +kernel
theorem dX4_wished_52 : decode cX4_wished 52 = .ok (.iaload, 1) := by decide +kernel
theorem dX4_wished_53 : decode cX4_wished 53 = .ok (.ireturn, 1) := by decide +kernel
theorem dX4_wished_54 : decode cX4_wished 54 = .ok (.aload_n 0, 1) := by decide +kernel
theorem dX4_wished_55 : decode cX4_wished 55 = .ok (.getfield 19, 3) := by decide +kernel
theorem dX4_wished_58 : decode cX4_wished 58 = .ok (.getfield 113, 3) := by decide +kernel
theorem dX4_wished_61 : decode cX4_wished 61 = .ok (.iload_n 1, 1) := by decide +kernel
theorem dX4_wished_62 : decode cX4_wished 62 = .ok (.iaload, 1) := by decide +kernel
theorem dX4_wished_63 : decode cX4_wished 63 = .ok (.ireturn, 1) := by decide +kernel
theorem dX4_wished_64 : decode cX4_wished 64 = .ok (.aload_n 0, 1) := by decide +kernel
theorem dX4_wished_65 : decode cX4_wished 65 = .ok (.getfield 19, 3) := by decide +kernel
theorem dX4_wished_68 : decode cX4_wished 68 = .ok (.getfield 116, 3) := by decide +kernel
theorem dX4_wished_71 : decode cX4_wished 71 = .ok (.iload_n 1, 1) := by decide +kernel
theorem dX4_wished_72 : decode cX4_wished 72 = .ok (.iaload, 1) := by decide +kernel
theorem dX4_wished_73 : decode cX4_wished 73 = .ok (.ireturn, 1) := by decide +kernel
theorem dX4_wished_74 : decode cX4_wished 74 = .ok (.aload_n 0, 1) := by decide +kernel
theorem dX4_wished_75 : decode cX4_wished 75 = .ok (.getfield 19, 3) := by decide +kernel
theorem dX4_wished_78 : decode cX4_wished 78 = .ok (.getfield 117, 3) := by decide +kernel
theorem dX4_wished_81 : decode cX4_wished 81 = .ok (.iload_n 1, 1) := by decide +kernel
theorem dX4_wished_82 : decode cX4_wished 82 = .ok (.iaload, 1) := by decide +kernel
theorem dX4_wished_83 : decode cX4_wished 83 = .ok (.ireturn, 1) := by decide +kernel
theorem dX4_wished_84 : decode cX4_wished 84 = .ok (.iload_n 2, 1) := by decide +kernel
theorem dX4_wished_85 : decode cX4_wished 85 = .ok (.bipush 10, 2) := by decide +kernel
theorem dX4_wished_87 : decode cX4_wished 87 = .ok (.if_icmp .lt 28, 3) := by decide +kernel
theorem dX4_wished_90 : decode cX4_wished 90 = .ok (.iload_n 2, 1) := by decide +kernel
theorem dX4_wished_91 : decode cX4_wished 91 = .ok (.bipush 14, 2) := by decide +kernel
theorem dX4_wished_93 : decode cX4_wished 93 = .ok (.if_icmp .ge 22, 3) := by decide +kernel
theorem dX4_wished_96 : decode cX4_wished 96 = .ok (.aload_n 0, 1) := by decide +kernel
theorem dX4_wished_97 : decode cX4_wished 97 = .ok (.getfield 19, 3) := by decide +kernel
theorem dX4_wished_100 : decode cX4_wished 100 = .ok (.getfield 120, 3) := by decide +kernel
theorem dX4_wished_103 : decode cX4_wished 103 = .ok (.iload_n 1, 1) := by decide +kernel
theorem dX4_wished_104 : decode cX4_wished 104 = .ok (.iconst 4, 1) := by decide +kernel
theorem dX4_wished_105 : decode cX4_wished 105 = .ok (.imul, 1) := by decide +kernel
theorem dX4_wished_106 : decode cX4_wished 106 = .ok (.iload_n 2, 1) := by decide +kernel
theorem dX4_wished_107 : decode cX4_wished 107 = .ok (.iadd, 1) := by decide +kernel
theorem dX4_wished_108 : decode cX4_wished 108 = .ok (.bipush 10, 2) := by decide +kernel
theorem dX4_wished_110 : decode cX4_wished 110 = .ok (.isub, 1) := by decide +kernel
theorem dX4_wished_111 : decode cX4_wished 111 = .ok (.iaload, 1) := by decide +kernel
theorem dX4_wished_112 : decode cX4_wished 112 = .ok (.goto 5, 3) := by decide +kernel
theorem dX4_wished_115 : decode cX4_wished 115 = .ok (.bipush (-2), 2) := by decide +kernel
theorem dX4_wished_117 : decode cX4_wished 117 = .ok (.ireturn, 1) := by decide +kernel
theorem dX4_fix_0 : decode cX4_fix 0 = .ok (.aload_n 0, 1) := by decide +kernel
theorem dX4_fix_1 : decode cX4_fix 1 = .ok (.getfield 19, 3) := by decide +kernel
theorem dX4_fix_4 : decode cX4_fix 4 = .ok (.iload_n 1, 1) := by decide +kernel
theorem dX4_fix_5 : decode cX4_fix 5 = .ok (.invokevirtual 109, 3) := by decide +kernel
theorem dX4_fix_8 : decode cX4_fix 8 = .ok (.ifCond .eq 19, 3) := by decide +kernel
theorem dX4_fix_11 : decode cX4_fix 11 = .ok (.iload_n 3, 1) := by decide +kernel
theorem dX4_fix_12 : decode cX4_fix 12 = .ok (.iconst (-1), 1) := by decide +kernel
theorem dX4_fix_13 : decode cX4_fix 13 = .ok (.if_icmp .eq 16, 3) := by decide +kernel
theorem dX4_fix_16 : decode cX4_fix 16 = .ok (.aload_n 0, 1) := by decide +kernel
theorem dX4_fix_17 : decode cX4_fix 17 = .ok (.getfield 10, 3) := by decide +kernel
theorem dX4_fix_20 : decode cX4_fix 20 = .ok (.iload_n 3, 1) := by decide +kernel
theorem dX4_fix_21 : decode cX4_fix 21 = .ok (.invokevirtual 61, 3) := by decide +kernel
theorem dX4_fix_24 : decode cX4_fix 24 = .ok (.ifCond .ne 5, 3) := by decide +kernel
theorem dX4_fix_27 : decode cX4_fix 27 = .ok (.iconst (-1), 1) := by decide +kernel
theorem dX4_fix_28 : decode cX4_fix 28 = .ok (.ireturn, 1) := by decide +kernel
theorem dX4_fix_29 : decode cX4_fix 29 = .ok (.aload_n 0, 1) := by decide +kernel
theorem dX4_fix_30 : decode cX4_fix 30 = .ok (.getfield 19, 3) := by decide +kernel
theorem dX4_fix_33 : decode cX4_fix 33 = .ok (.iload_n 1, 1) := by decide +kernel
theorem dX4_fix_34 : decode cX4_fix 34 = .ok (.iload_n 2, 1) := by decide +kernel
theorem dX4_fix_35 : decode cX4_fix 35 = .ok (.invokevirtual 123, 3) := by decide +kernel
theorem dX4_fix_38 : decode cX4_fix 38 = .ok (.ifCond .ne 6, 3) := by decide +kernel
theorem dX4_fix_41 : decode cX4_fix 41 = .ok (.bipush (-2), 2) := by decide +kernel
theorem dX4_fix_43 : decode cX4_fix 43 = .ok (.ireturn, 1) := by decide +kernel
theorem dX4_fix_44 : decode cX4_fix 44 = .ok (.iload_n 1, 1) := by decide +kernel
theorem dX4_fix_45 : decode cX4_fix 45 = .ok (.iconst 4, 1) := by decide +kernel
theorem dX4_fix_46 : decode cX4_fix 46 = .ok (.imul, 1) := by decide +kernel
theorem dX4_fix_47 : decode cX4_fix 47 = .ok (.iload_n 2, 1) := by decide +kernel
theorem dX4_fix_48 : decode cX4_fix 48 = .ok (.iadd, 1) := by decide +kernel
theorem dX4_fix_49 : decode cX4_fix 49 = .ok (.istore 4, 2) := by decide +kernel
theorem dX4_fix_51 : decode cX4_fix 51 = .ok (.aload_n 0, 1) := by decide +kernel
theorem dX4_fix_52 : decode cX4_fix 52 = .ok (.getfield 19, 3) := by decide +kernel
theorem dX4_fix_55 : decode cX4_fix 55 = .ok (.getfield 120, 3) := by decide +kernel
theorem dX4_fix_58 : decode cX4_fix 58 = .ok (.iload 4, 2) := by decide +kernel
theorem dX4_fix_60 : decode cX4_fix 60 = .ok (.iaload, 1) := by decide +kernel
theorem dX4_fix_61 : decode cX4_fix 61 = .ok (.istore 5, 2) := by decide +kernel
theorem dX4_fix_63 : decode cX4_fix 63 = .ok (.aload_n 0, 1) := by decide +kernel
theorem dX4_fix_64 : decode cX4_fix 64 = .ok (.getfield 19, 3) := by decide +kernel
theorem dX4_fix_67 : decode cX4_fix 67 = .ok (.getfield 120, 3) := by decide +kernel
theorem dX4_fix_70 : decode cX4_fix 70 = .ok (.iload 4, 2) := by decide +kernel
theorem dX4_fix_72 : decode cX4_fix 72 = .ok (.iload_n 3, 1) := by decide +kernel
theorem dX4_fix_73 : decode cX4_fix 73 = .ok (.iconst (-1), 1) := by decide +kernel
theorem dX4_fix_74 : decode cX4_fix 74 = .ok (.if_icmp .ne 8, 3) := by decide +kernel
theorem dX4_fix_77 : decode cX4_fix 77 = .ok (.bipush (-6), 2) := by decide +kernel
theorem dX4_fix_79 : decode cX4_fix 79 = .ok (.goto 4, 3) := by decide +kernel
theorem dX4_fix_82 : decode cX4_fix 82 = .ok (.iload_n 3, 1) := by decide +kernel
theorem dX4_fix_83 : decode cX4_fix 83 = .ok (.iastore, 1) := by decide +kernel
theorem dX4_fix_84 : decode cX4_fix 84 = .ok (.aload_n 0, 1) := by decide +kernel
theorem dX4_fix_85 : decode cX4_fix 85 = .ok (.iconst 0, 1) := by decide +kernel
theorem dX4_fix_86 : decode cX4_fix 86 = .ok (.putfield 44, 3) := by decide +kernel
theorem dX4_fix_89 : decode cX4_fix 89 = .ok (.iload 5, 2) := by decide +kernel
theorem dX4_fix_91 : decode cX4_fix 91 = .ok (.ireturn, 1) := by decide +kernel
theorem dX4_drop_0 : decode cX4_drop 0 = .ok (.aload_n 0, 1) := by decide +kernel
theorem dX4_drop_1 : decode cX4_drop 1 = .ok (.getfield 19, 3) := by decide +kernel
theorem dX4_drop_4 : decode cX4_drop 4 = .ok (.getfield 55, 3) := by decide +kernel
theorem dX4_drop_7 : decode cX4_drop 7 = .ok (.ifCond .ne 5, 3) := by decide +kernel
theorem dX4_drop_10 : decode cX4_drop 10 = .ok (.iconst (-1), 1) := by decide +kernel
theorem dX4_drop_11 : decode cX4_drop 11 = .ok (.ireturn, 1) := by decide +kernel
theorem dX4_drop_12 : decode cX4_drop 12 = .ok (.aload_n 0, 1) := by decide +kernel
theorem dX4_drop_13 : decode cX4_drop 13 = .ok (.getfield 19, 3) := by decide +kernel
theorem dX4_drop_16 : decode cX4_drop 16 = .ok (.dup, 1) := by decide +kernel
theorem dX4_drop_17 : decode cX4_drop 17 = .ok (.getfield 55, 3) := by decide +kernel
theorem dX4_drop_20 : decode cX4_drop 20 = .ok (.iconst 1, 1) := by decide +kernel
theorem dX4_drop_21 : decode cX4_drop 21 = .ok (.isub, 1) := by decide +kernel
theorem dX4_drop_22 : decode cX4_drop 22 = .ok (.putfield 55, 3) := by decide +kernel
theorem dX4_drop_25 : decode cX4_drop 25 = .ok (.aload_n 0, 1) := by decide +kernel
theorem dX4_drop_26 : decode cX4_drop 26 = .ok (.iconst 0, 1) := by decide +kernel
theorem dX4_drop_27 : decode cX4_drop 27 = .ok (.putfield 44, 3) := by decide +kernel
theorem dX4_drop_30 : decode cX4_drop 30 = .ok (.aload_n 0, 1) := by decide +kernel
theorem dX4_drop_31 : decode cX4_drop 31 = .ok (.getfield 19, 3) := by decide +kernel
theorem dX4_drop_34 : decode cX4_drop 34 = .ok (.getfield 55, 3) := by decide +kernel
theorem dX4_drop_37 : decode cX4_drop 37 = .ok (.ireturn, 1) := by decide +kernel
theorem dX4_best_0 : decode cX4_best 0 = .ok (.aload_n 0, 1) := by decide +kernel
theorem dX4_best_1 : decode cX4_best 1 = .ok (.invokevirtual 127, 3) := by decide +kernel
theorem dX4_best_4 : decode cX4_best 4 = .ok (.aload_n 0, 1) := by decide +kernel
theorem dX4_best_5 : decode cX4_best 5 = .ok (.getfield 40, 3) := by decide +kernel
theorem dX4_best_8 : decode cX4_best 8 = .ok (.ireturn, 1) := by decide +kernel
theorem dX4_given_0 : decode cX4_given 0 = .ok (.aload_n 0, 1) := by decide +kernel
theorem dX4_given_1 : decode cX4_given 1 = .ok (.getfield 19, 3) := by decide +kernel
theorem dX4_given_4 : decode cX4_given 4 = .ok (.iload_n 1, 1) := by decide +kernel
theorem dX4_given_5 : decode cX4_given 5 = .ok (.invokevirtual 109, 3) := by decide +kernel
theorem dX4_given_8 : decode cX4_given 8 = .ok (.ifCond .ne 5, 3) := by decide +kernel
theorem dX4_given_11 : decode cX4_given 11 = .ok (.iconst (-1), 1) := by decide +kernel
theorem dX4_given_12 : decode cX4_given 12 = .ok (.ireturn, 1) := by decide +kernel
theorem dX4_given_13 : decode cX4_given 13 = .ok (.iload_n 2, 1) := by decide +kernel
theorem dX4_given_14 : decode cX4_given 14 = .ok (.iconst (-1), 1) := by decide +kernel
theorem dX4_given_15 : decode cX4_given 15 = .ok (.if_icmp .eq 18, 3) := by decide +kernel
theorem dX4_given_18 : decode cX4_given 18 = .ok (.aload_n 0, 1) := by decide +kernel
theorem dX4_given_19 : decode cX4_given 19 = .ok (.getfield 19, 3) := by decide +kernel
theorem dX4_given_22 : decode cX4_given 22 = .ok (.iload_n 1, 1) := by decide +kernel
theorem dX4_given_23 : decode cX4_given 23 = .ok (.iload_n 2, 1) := by decide +kernel
theorem dX4_given_24 : decode cX4_given 24 = .ok (.invokevirtual 123, 3) := by decide +kernel
theorem dX4_given_27 : decode cX4_given 27 = .ok (.ifCond .ne 6, 3) := by decide +kernel
theorem dX4_given_30 : decode cX4_given 30 = .ok (.bipush (-2), 2) := by decide +kernel
theorem dX4_given_32 : decode cX4_given 32 = .ok (.ireturn, 1) := by decide +kernel
theorem dX4_given_33 : decode cX4_given 33 = .ok (.aload_n 0, 1) := by decide +kernel
theorem dX4_given_34 : decode cX4_given 34 = .ok (.invokevirtual 127, 3) := by decide +kernel
theorem dX4_given_37 : decode cX4_given 37 = .ok (.iload_n 2, 1) := by decide +kernel
theorem dX4_given_38 : decode cX4_given 38 = .ok (.iconst (-1), 1) := by decide +kernel
theorem dX4_given_39 : decode cX4_given 39 = .ok (.if_icmp .ne 14, 3) := by decide +kernel
theorem dX4_given_42 : decode cX4_given 42 = .ok (.aload_n 0, 1) := by decide +kernel
theorem dX4_given_43 : decode cX4_given 43 = .ok (.getfield 37, 3) := by decide +kernel
theorem dX4_given_46 : decode cX4_given 46 = .ok (.iload_n 1, 1) := by decide +kernel
theorem dX4_given_47 : decode cX4_given 47 = .ok (.invokevirtual 130, 3) := by decide +kernel
theorem dX4_given_50 : decode cX4_given 50 = .ok (.goto 12, 3) := by decide +kernel
theorem dX4_given_53 : decode cX4_given 53 = .ok (.aload_n 0, 1) := by decide +kernel
theorem dX4_given_54 : decode cX4_given 54 = .ok (.getfield 37, 3) := by decide +kernel
theorem dX4_given_57 : decode cX4_given 57 = .ok (.iload_n 1, 1) := by decide +kernel
theorem dX4_given_58 : decode cX4_given 58 = .ok (.iload_n 2, 1) := by decide +kernel
theorem dX4_given_59 : decode cX4_given 59 = .ok (.invokevirtual 133, 3) := by decide +kernel
theorem dX4_given_62 : decode cX4_given 62 = .ok (.ireturn, 1) := by decide +kernel
theorem dX4_crossings_0 : decode cX4_crossings 0 = .ok (.aload_n 0, 1) := by decide +kernel
theorem dX4_crossings_1 : decode cX4_crossings 1 = .ok (.invokevirtual 127, 3) := by decide +kernel
theorem dX4_crossings_4 : decode cX4_crossings 4 = .ok (.aload_n 0, 1) := by decide +kernel
theorem dX4_crossings_5 : decode cX4_crossings 5 = .ok (.getfield 40, 3) := by decide +kernel
theorem dX4_crossings_8 : decode cX4_crossings 8 = .ok (.bipush (-6), 2) := by decide +kernel
theorem dX4_crossings_10 : decode cX4_crossings 10 = .ok (.if_icmp .ne 8, 3) := by decide +kernel
theorem dX4_crossings_13 : decode cX4_crossings 13 = .ok (.bipush (-6), 2) := by decide +kernel
theorem dX4_crossings_15 : decode cX4_crossings 15 = .ok (.goto 11, 3) := by decide +kernel
theorem dX4_crossings_18 : decode cX4_crossings 18 = .ok (.aload_n 0, 1) := by decide +kernel
theorem dX4_crossings_19 : decode cX4_crossings 19 = .ok (.aload_n 0, 1) := by decide +kernel
theorem dX4_crossings_20 : decode cX4_crossings 20 = .ok (.getfield 37, 3) := by decide +kernel
theorem dX4_crossings_23 : decode cX4_crossings 23 = .ok (.invokevirtual 137, 3) := by decide +kernel
theorem dX4_crossings_26 : decode cX4_crossings 26 = .ok (.ireturn, 1) := by decide +kernel
theorem dX4_blame_0 : decode cX4_blame 0 = .ok (.aload_n 0, 1) := by decide +kernel
theorem dX4_blame_1 : decode cX4_blame 1 = .ok (.invokevirtual 127, 3) := by decide +kernel
theorem dX4_blame_4 : decode cX4_blame 4 = .ok (.aload_n 0, 1) := by decide +kernel
theorem dX4_blame_5 : decode cX4_blame 5 = .ok (.getfield 40, 3) := by decide +kernel
theorem dX4_blame_8 : decode cX4_blame 8 = .ok (.bipush (-6), 2) := by decide +kernel
theorem dX4_blame_10 : decode cX4_blame 10 = .ok (.if_icmp .eq 5, 3) := by decide +kernel
theorem dX4_blame_13 : decode cX4_blame 13 = .ok (.iconst 0, 1) := by decide +kernel
theorem dX4_blame_14 : decode cX4_blame 14 = .ok (.ireturn, 1) := by decide +kernel
theorem dX4_blame_15 : decode cX4_blame 15 = .ok (.iconst 1, 1) := by decide +kernel
theorem dX4_blame_16 : decode cX4_blame 16 = .ok (.aload_n 0, 1) := by decide +kernel
theorem dX4_blame_17 : decode cX4_blame 17 = .ok (.getfield 19, 3) := by decide +kernel
theorem dX4_blame_20 : decode cX4_blame 20 = .ok (.getfield 55, 3) := by decide +kernel
theorem dX4_blame_23 : decode cX4_blame 23 = .ok (.ishl, 1) := by decide +kernel
theorem dX4_blame_24 : decode cX4_blame 24 = .ok (.iconst 1, 1) := by decide +kernel
theorem dX4_blame_25 : decode cX4_blame 25 = .ok (.isub, 1) := by decide +kernel
theorem dX4_blame_26 : decode cX4_blame 26 = .ok (.istore_n 1, 1) := by decide +kernel
theorem dX4_blame_27 : decode cX4_blame 27 = .ok (.iconst 0, 1) := by decide +kernel
theorem dX4_blame_28 : decode cX4_blame 28 = .ok (.istore_n 2, 1) := by decide +kernel
theorem dX4_blame_29 : decode cX4_blame 29 = .ok (.iload_n 2, 1) := by decide +kernel
theorem dX4_blame_30 : decode cX4_blame 30 = .ok (.getstatic 141, 3) := by decide +kernel
theorem dX4_blame_33 : decode cX4_blame 33 = .ok (.arraylength, 1) := by decide +kernel
theorem dX4_blame_34 : decode cX4_blame 34 = .ok (.if_icmp .ge 48, 3) := by decide +kernel
theorem dX4_blame_37 : decode cX4_blame 37 = .ok (.getstatic 141, 3) := by decide +kernel
theorem dX4_blame_40 : decode cX4_blame 40 = .ok (.iload_n 2, 1) := by decide +kernel
theorem dX4_blame_41 : decode cX4_blame 41 = .ok (.iaload, 1) := by decide +kernel
theorem dX4_blame_42 : decode cX4_blame 42 = .ok (.iload_n 1, 1) := by decide +kernel
theorem dX4_blame_43 : decode cX4_blame 43 = .ok (.iconst (-1), 1) := by decide +kernel
theorem dX4_blame_44 : decode cX4_blame 44 = .ok (.ixor, 1) := by decide +kernel
theorem dX4_blame_45 : decode cX4_blame 45 = .ok (.iand, 1) := by decide +kernel
theorem dX4_blame_46 : decode cX4_blame 46 = .ok (.ifCond .ne 30, 3) := by decide +kernel
theorem dX4_blame_49 : decode cX4_blame 49 = .ok (.getstatic 141, 3) := by decide +kernel
theorem dX4_blame_52 : decode cX4_blame 52 = .ok (.iload_n 2, 1) := by decide +kernel
theorem dX4_blame_53 : decode cX4_blame 53 = .ok (.iaload, 1) := by decide +kernel
theorem dX4_blame_54 : decode cX4_blame 54 = .ok (.iload_n 1, 1) := by decide +kernel
theorem dX4_blame_55 : decode cX4_blame 55 = .ok (.if_icmp .eq 21, 3) := by decide +kernel
theorem dX4_blame_58 : decode cX4_blame 58 = .ok (.aload_n 0, 1) := by decide +kernel
theorem dX4_blame_59 : decode cX4_blame 59 = .ok (.getstatic 141, 3) := by decide +kernel
theorem dX4_blame_62 : decode cX4_blame 62 = .ok (.iload_n 2, 1) := by decide +kernel
theorem dX4_blame_63 : decode cX4_blame 63 = .ok (.iaload, 1) := by decide +kernel
theorem dX4_blame_64 : decode cX4_blame 64 = .ok (.invokevirtual 144, 3) := by decide +kernel
theorem dX4_blame_67 : decode cX4_blame 67 = .ok (.ifCond .ne 9, 3) := by decide +kernel
theorem dX4_blame_70 : decode cX4_blame 70 = .ok (.getstatic 141, 3) := by decide +kernel
theorem dX4_blame_73 : decode cX4_blame 73 = .ok (.iload_n 2, 1) := by decide +kernel
theorem dX4_blame_74 : decode cX4_blame 74 = .ok (.iaload, 1) := by decide +kernel
theorem dX4_blame_75 : decode cX4_blame 75 = .ok (.ireturn, 1) := by decide +kernel
theorem dX4_blame_76 : decode cX4_blame 76 = .ok (.iinc 2 1, 3) := by decide +kernel
theorem dX4_blame_79 : decode cX4_blame 79 = .ok (.goto (-50), 3) := by decide +kernel
theorem dX4_blame_82 : decode cX4_blame 82 = .ok (.iload_n 1, 1) := by decide +kernel
theorem dX4_blame_83 : decode cX4_blame 83 = .ok (.ireturn, 1) := by decide +kernel
theorem dX4_many_0 : decode cX4_many 0 = .ok (.aload_n 0, 1) := by decide +kernel
theorem dX4_many_1 : decode cX4_many 1 = .ok (.getfield 26, 3) := by decide +kernel
theorem dX4_many_4 : decode cX4_many 4 = .ok (.aload_n 0, 1) := by decide +kernel
theorem dX4_many_5 : decode cX4_many 5 = .ok (.getfield 10, 3) := by decide +kernel
theorem dX4_many_8 : decode cX4_many 8 = .ok (.aload_n 0, 1) := by decide +kernel
theorem dX4_many_9 : decode cX4_many 9 = .ok (.getfield 19, 3) := by decide +kernel
theorem dX4_many_12 : decode cX4_many 12 = .ok (.bipush 15, 2) := by decide +kernel
theorem dX4_many_14 : decode cX4_many 14 = .ok (.invokevirtual 147, 3) := by decide +kernel
theorem dX4_many_17 : decode cX4_many 17 = .ok (.aload_n 0, 1) := by decide +kernel
theorem dX4_many_18 : decode cX4_many 18 = .ok (.getfield 26, 3) := by decide +kernel
theorem dX4_many_21 : decode cX4_many 21 = .ok (.ldc 151, 2) := by decide +kernel
theorem dX4_many_23 : decode cX4_many 23 = .ok (.invokevirtual 152, 3) := by decide +kernel
theorem dX4_many_26 : decode cX4_many 26 = .ok (.ireturn, 1) := by decide +kernel
theorem dX4_trial_0 : decode cX4_trial 0 = .ok (.aload_n 0, 1) := by decide +kernel
theorem dX4_trial_1 : decode cX4_trial 1 = .ok (.iload_n 1, 1) := by decide +kernel
theorem dX4_trial_2 : decode cX4_trial 2 = .ok (.iload_n 2, 1) := by decide +kernel
theorem dX4_trial_3 : decode cX4_trial 3 = .ok (.iload_n 3, 1) := by decide +kernel
theorem dX4_trial_4 : decode cX4_trial 4 = .ok (.iload 4, 2) := by decide +kernel
theorem dX4_trial_6 : decode cX4_trial 6 = .ok (.invokevirtual 102, 3) := by decide +kernel
theorem dX4_trial_9 : decode cX4_trial 9 = .ok (.istore 5, 2) := by decide +kernel
theorem dX4_trial_11 : decode cX4_trial 11 = .ok (.iload 5, 2) := by decide +kernel
theorem dX4_trial_13 : decode cX4_trial 13 = .ok (.ifCond .eq 6, 3) := by decide +kernel
theorem dX4_trial_16 : decode cX4_trial 16 = .ok (.iload 5, 2) := by decide +kernel
theorem dX4_trial_18 : decode cX4_trial 18 = .ok (.ireturn, 1) := by decide +kernel
theorem dX4_trial_19 : decode cX4_trial 19 = .ok (.aload_n 0, 1) := by decide +kernel
theorem dX4_trial_20 : decode cX4_trial 20 = .ok (.getfield 19, 3) := by decide +kernel
theorem dX4_trial_23 : decode cX4_trial 23 = .ok (.iload_n 1, 1) := by decide +kernel
theorem dX4_trial_24 : decode cX4_trial 24 = .ok (.iload_n 2, 1) := by decide +kernel
theorem dX4_trial_25 : decode cX4_trial 25 = .ok (.iload_n 3, 1) := by decide +kernel
theorem dX4_trial_26 : decode cX4_trial 26 = .ok (.iload 4, 2) := by decide +kernel
theorem dX4_trial_28 : decode cX4_trial 28 = .ok (.invokevirtual 106, 3) := by decide +kernel
theorem dX4_trial_31 : decode cX4_trial 31 = .ok (.pop, 1) := by decide +kernel
theorem dX4_trial_32 : decode cX4_trial 32 = .ok (.aload_n 0, 1) := by decide +kernel
theorem dX4_trial_33 : decode cX4_trial 33 = .ok (.getfield 26, 3) := by decide +kernel
theorem dX4_trial_36 : decode cX4_trial 36 = .ok (.aload_n 0, 1) := by decide +kernel
theorem dX4_trial_37 : decode cX4_trial 37 = .ok (.getfield 10, 3) := by decide +kernel
theorem dX4_trial_40 : decode cX4_trial 40 = .ok (.aload_n 0, 1) := by decide +kernel
theorem dX4_trial_41 : decode cX4_trial 41 = .ok (.getfield 19, 3) := by decide +kernel
theorem dX4_trial_44 : decode cX4_trial 44 = .ok (.bipush 15, 2) := by decide +kernel
theorem dX4_trial_46 : decode cX4_trial 46 = .ok (.invokevirtual 147, 3) := by decide +kernel
theorem dX4_trial_49 : decode cX4_trial 49 = .ok (.aload_n 0, 1) := by decide +kernel
theorem dX4_trial_50 : decode cX4_trial 50 = .ok (.getfield 26, 3) := by decide +kernel
theorem dX4_trial_53 : decode cX4_trial 53 = .ok (.invokevirtual 155, 3) := by decide +kernel
theorem dX4_trial_56 : decode cX4_trial 56 = .ok (.istore 6, 2) := by decide +kernel
theorem dX4_trial_58 : decode cX4_trial 58 = .ok (.aload_n 0, 1) := by decide +kernel
theorem dX4_trial_59 : decode cX4_trial 59 = .ok (.getfield 19, 3) := by decide +kernel
theorem dX4_trial_62 : decode cX4_trial 62 = .ok (.dup, 1) := by decide +kernel
theorem dX4_trial_63 : decode cX4_trial 63 = .ok (.getfield 55, 3) := by decide +kernel
theorem dX4_trial_66 : decode cX4_trial 66 = .ok (.iconst 1, 1) := by decide +kernel
theorem dX4_trial_67 : decode cX4_trial 67 = .ok (.isub, 1) := by decide +kernel
theorem dX4_trial_68 : decode cX4_trial 68 = .ok (.putfield 55, 3) := by decide +kernel
theorem dX4_trial_71 : decode cX4_trial 71 = .ok (.iload 6, 2) := by decide +kernel
theorem dX4_trial_73 : decode cX4_trial 73 = .ok (.ireturn, 1) := by decide +kernel
theorem dX4_hold_0 : decode cX4_hold 0 = .ok (.aload_n 0, 1) := by decide +kernel
theorem dX4_hold_1 : decode cX4_hold 1 = .ok (.invokevirtual 127, 3) := by decide +kernel
theorem dX4_hold_4 : decode cX4_hold 4 = .ok (.aload_n 0, 1) := by decide +kernel
theorem dX4_hold_5 : decode cX4_hold 5 = .ok (.getfield 40, 3) := by decide +kernel
theorem dX4_hold_8 : decode cX4_hold 8 = .ok (.bipush (-6), 2) := by decide +kernel
theorem dX4_hold_10 : decode cX4_hold 10 = .ok (.if_icmp .ne 6, 3) := by decide +kernel
theorem dX4_hold_13 : decode cX4_hold 13 = .ok (.bipush (-3), 2) := by decide +kernel
theorem dX4_hold_15 : decode cX4_hold 15 = .ok (.ireturn, 1) := by decide +kernel
theorem dX4_hold_16 : decode cX4_hold 16 = .ok (.aload_n 0, 1) := by decide +kernel
theorem dX4_hold_17 : decode cX4_hold 17 = .ok (.getfield 33, 3) := by decide +kernel
theorem dX4_hold_20 : decode cX4_hold 20 = .ok (.aload_n 0, 1) := by decide +kernel
theorem dX4_hold_21 : decode cX4_hold 21 = .ok (.getfield 37, 3) := by decide +kernel
theorem dX4_hold_24 : decode cX4_hold 24 = .ok (.invokevirtual 159, 3) := by decide +kernel
theorem dX4_hold_27 : decode cX4_hold 27 = .ok (.iconst 1, 1) := by decide +kernel
theorem dX4_hold_28 : decode cX4_hold 28 = .ok (.ireturn, 1) := by decide +kernel
theorem dX4_change_0 : decode cX4_change 0 = .ok (.aload_n 0, 1) := by decide +kernel
theorem dX4_change_1 : decode cX4_change 1 = .ok (.getfield 33, 3) := by decide +kernel
theorem dX4_change_4 : decode cX4_change 4 = .ok (.getfield 163, 3) := by decide +kernel
theorem dX4_change_7 : decode cX4_change 7 = .ok (.ifCond .ne 6, 3) := by decide +kernel
theorem dX4_change_10 : decode cX4_change 10 = .ok (.bipush (-3), 2) := by decide +kernel
theorem dX4_change_12 : decode cX4_change 12 = .ok (.ireturn, 1) := by decide +kernel
theorem dX4_change_13 : decode cX4_change 13 = .ok (.aload_n 0, 1) := by decide +kernel
theorem dX4_change_14 : decode cX4_change 14 = .ok (.getfield 26, 3) := by decide +kernel
theorem dX4_change_17 : decode cX4_change 17 = .ok (.aload_n 0, 1) := by decide +kernel
theorem dX4_change_18 : decode cX4_change 18 = .ok (.getfield 10, 3) := by decide +kernel
theorem dX4_change_21 : decode cX4_change 21 = .ok (.aload_n 0, 1) := by decide +kernel
theorem dX4_change_22 : decode cX4_change 22 = .ok (.getfield 19, 3) := by decide +kernel
theorem dX4_change_25 : decode cX4_change 25 = .ok (.bipush 15, 2) := by decide +kernel
theorem dX4_change_27 : decode cX4_change 27 = .ok (.invokevirtual 147, 3) := by decide +kernel
theorem dX4_change_30 : decode cX4_change 30 = .ok (.aload_n 0, 1) := by decide +kernel
theorem dX4_change_31 : decode cX4_change 31 = .ok (.getfield 26, 3) := by decide +kernel
theorem dX4_change_34 : decode cX4_change 34 = .ok (.aload_n 0, 1) := by decide +kernel
theorem dX4_change_35 : decode cX4_change 35 = .ok (.getfield 33, 3) := by decide +kernel
theorem dX4_change_38 : decode cX4_change 38 = .ok (.invokevirtual 166, 3) := by decide +kernel
theorem dX4_change_41 : decode cX4_change 41 = .ok (.aload_n 0, 1) := by decide +kernel
theorem dX4_change_42 : decode cX4_change 42 = .ok (.getfield 26, 3) := by decide +kernel
theorem dX4_change_45 : decode cX4_change 45 = .ok (.invokevirtual 155, 3) := by decide +kernel
theorem dX4_change_48 : decode cX4_change 48 = .ok (.istore_n 1, 1) := by decide +kernel
theorem dX4_change_49 : decode cX4_change 49 = .ok (.iload_n 1, 1) := by decide +kernel
theorem dX4_change_50 : decode cX4_change 50 = .ok (.bipush (-6), 2) := by decide +kernel
theorem dX4_change_52 : decode cX4_change 52 = .ok (.if_icmp .ne 6, 3) := by decide +kernel
theorem dX4_change_55 : decode cX4_change 55 = .ok (.bipush (-3), 2) := by decide +kernel
theorem dX4_change_57 : decode cX4_change 57 = .ok (.ireturn, 1) := by decide +kernel
theorem dX4_change_58 : decode cX4_change 58 = .ok (.aload_n 0, 1) := by decide +kernel
theorem dX4_change_59 : decode cX4_change 59 = .ok (.getfield 33, 3) := by decide +kernel
theorem dX4_change_62 : decode cX4_change 62 = .ok (.aload_n 0, 1) := by decide +kernel
theorem dX4_change_63 : decode cX4_change 63 = .ok (.getfield 26, 3) := by decide +kernel
theorem dX4_change_66 : decode cX4_change 66 = .ok (.getfield 169, 3) := by decide +kernel
theorem dX4_change_69 : decode cX4_change 69 = .ok (.invokevirtual 159, 3) := by decide +kernel
theorem dX4_change_72 : decode cX4_change 72 = .ok (.iload_n 1, 1) := by decide +kernel
theorem dX4_change_73 : decode cX4_change 73 = .ok (.sipush 1000, 3) := by decide +kernel
theorem dX4_change_76 : decode cX4_change 76 = .ok (.idiv, 1) := by decide +kernel
theorem dX4_change_77 : decode cX4_change 77 = .ok (.ireturn, 1) := by decide +kernel
theorem dX4_held_0 : decode cX4_held 0 = .ok (.iload_n 1, 1) := by decide +kernel
theorem dX4_held_1 : decode cX4_held 1 = .ok (.ifCond .lt 8, 3) := by decide +kernel
theorem dX4_held_4 : decode cX4_held 4 = .ok (.iload_n 1, 1) := by decide +kernel
theorem dX4_held_5 : decode cX4_held 5 = .ok (.iconst 4, 1) := by decide +kernel
theorem dX4_held_6 : decode cX4_held 6 = .ok (.if_icmp .lt 5, 3) := by decide +kernel
theorem dX4_held_9 : decode cX4_held 9 = .ok (.iconst (-1), 1) := by decide +kernel
theorem dX4_held_10 : decode cX4_held 10 = .ok (.ireturn, 1) := by decide +kernel
theorem dX4_held_11 : decode cX4_held 11 = .ok (.iload_n 2, 1) := by decide +kernel
theorem dX4_held_12 : decode cX4_held 12 = .ok (.iconst (-1), 1) := by decide +kernel
theorem dX4_held_13 : decode cX4_held 13 = .ok (.if_icmp .eq 13, 3) := by decide +kernel
theorem dX4_held_16 : decode cX4_held 16 = .ok (.iload_n 2, 1) := by decide +kernel
theorem dX4_held_17 : decode cX4_held 17 = .ok (.invokestatic 85, 3) := by decide +kernel
theorem dX4_held_20 : decode cX4_held 20 = .ok (.ifCond .ne 6, 3) := by decide +kernel
theorem dX4_held_23 : decode cX4_held 23 = .ok (.bipush (-2), 2) := by decide +kernel
theorem dX4_held_25 : decode cX4_held 25 = .ok (.ireturn, 1) := by decide +kernel
theorem dX4_held_26 : decode cX4_held 26 = .ok (.iload_n 2, 1) := by decide +kernel
theorem dX4_held_27 : decode cX4_held 27 = .ok (.iconst (-1), 1) := by decide +kernel
theorem dX4_held_28 : decode cX4_held 28 = .ok (.if_icmp .ne 14, 3) := by decide +kernel
theorem dX4_held_31 : decode cX4_held 31 = .ok (.aload_n 0, 1) := by decide +kernel
theorem dX4_held_32 : decode cX4_held 32 = .ok (.getfield 33, 3) := by decide +kernel
theorem dX4_held_35 : decode cX4_held 35 = .ok (.iload_n 1, 1) := by decide +kernel
theorem dX4_held_36 : decode cX4_held 36 = .ok (.invokevirtual 130, 3) := by decide +kernel
theorem dX4_held_39 : decode cX4_held 39 = .ok (.goto 12, 3) := by decide +kernel
theorem dX4_held_42 : decode cX4_held 42 = .ok (.aload_n 0, 1) := by decide +kernel
theorem dX4_held_43 : decode cX4_held 43 = .ok (.getfield 33, 3) := by decide +kernel
theorem dX4_held_46 : decode cX4_held 46 = .ok (.iload_n 1, 1) := by decide +kernel
theorem dX4_held_47 : decode cX4_held 47 = .ok (.iload_n 2, 1) := by decide +kernel
theorem dX4_held_48 : decode cX4_held 48 = .ok (.invokevirtual 133, 3) := by decide +kernel
theorem dX4_held_51 : decode cX4_held 51 = .ok (.ireturn, 1) := by decide +kernel
theorem dX4_setting_0 : decode cX4_setting 0 = .ok (.iconst 0, 1) := by decide +kernel
theorem dX4_setting_1 : decode cX4_setting 1 = .ok (.istore_n 2, 1) := by decide +kernel
theorem dX4_setting_2 : decode cX4_setting 2 = .ok (.iconst 0, 1) := by decide +kernel
theorem dX4_setting_3 : decode cX4_setting 3 = .ok (.istore_n 3, 1) := by decide +kernel
theorem dX4_setting_4 : decode cX4_setting 4 = .ok (.iload_n 3, 1) := by decide +kernel
theorem dX4_setting_5 : decode cX4_setting 5 = .ok (.aload_n 0, 1) := by decide +kernel
theorem dX4_setting_6 : decode cX4_setting 6 = .ok (.getfield 10, 3) := by decide +kernel
theorem dX4_setting_9 : decode cX4_setting 9 = .ok (.getfield 48, 3) := by decide +kernel
theorem dX4_setting_12 : decode cX4_setting 12 = .ok (.if_icmp .ge 60, 3) := by decide +kernel
theorem dX4_setting_15 : decode cX4_setting 15 = .ok (.aload_n 0, 1) := by decide +kernel
theorem dX4_setting_16 : decode cX4_setting 16 = .ok (.getfield 33, 3) := by decide +kernel
theorem dX4_setting_19 : decode cX4_setting 19 = .ok (.iload_n 3, 1) := by decide +kernel
theorem dX4_setting_20 : decode cX4_setting 20 = .ok (.invokevirtual 172, 3) := by decide +kernel
theorem dX4_setting_23 : decode cX4_setting 23 = .ok (.istore 4, 2) := by decide +kernel
theorem dX4_setting_25 : decode cX4_setting 25 = .ok (.iload 4, 2) := by decide +kernel
theorem dX4_setting_27 : decode cX4_setting 27 = .ok (.bipush (-6), 2) := by decide +kernel
theorem dX4_setting_29 : decode cX4_setting 29 = .ok (.if_icmp .eq 37, 3) := by decide +kernel
theorem dX4_setting_32 : decode cX4_setting 32 = .ok (.iload_n 2, 1) := by decide +kernel
theorem dX4_setting_33 : decode cX4_setting 33 = .ok (.iload_n 1, 1) := by decide +kernel
theorem dX4_setting_34 : decode cX4_setting 34 = .ok (.if_icmp .ne 29, 3) := by decide +kernel
theorem dX4_setting_37 : decode cX4_setting 37 = .ok (.bipush 100, 2) := by decide +kernel
theorem dX4_setting_39 : decode cX4_setting 39 = .ok (.iload_n 3, 1) := by decide +kernel
theorem dX4_setting_40 : decode cX4_setting 40 = .ok (.imul, 1) := by decide +kernel
theorem dX4_setting_41 : decode cX4_setting 41 = .ok (.bipush 10, 2) := by decide +kernel
theorem dX4_setting_43 : decode cX4_setting 43 = .ok (.aload_n 0, 1) := by decide +kernel
theorem dX4_setting_44 : decode cX4_setting 44 = .ok (.getfield 33, 3) := by decide +kernel
theorem dX4_setting_47 : decode cX4_setting 47 = .ok (.getfield 175, 3) := by decide +kernel
theorem dX4_setting_50 : decode cX4_setting 50 = .ok (.iload 4, 2) := by decide +kernel
theorem dX4_setting_52 : decode cX4_setting 52 = .ok (.iconst 4, 1) := by decide +kernel
theorem dX4_setting_53 : decode cX4_setting 53 = .ok (.idiv, 1) := by decide +kernel
theorem dX4_setting_54 : decode cX4_setting 54 = .ok (.iaload, 1) := by decide +kernel
theorem dX4_setting_55 : decode cX4_setting 55 = .ok (.imul, 1) := by decide +kernel
theorem dX4_setting_56 : decode cX4_setting 56 = .ok (.iadd, 1) := by decide +kernel
theorem dX4_setting_57 : decode cX4_setting 57 = .ok (.iload 4, 2) := by decide +kernel
theorem dX4_setting_59 : decode cX4_setting 59 = .ok (.iconst 4, 1) := by decide +kernel
theorem dX4_setting_60 : decode cX4_setting 60 = .ok (.irem, 1) := by decide +kernel
theorem dX4_setting_61 : decode cX4_setting 61 = .ok (.iadd, 1) := by decide +kernel
theorem dX4_setting_62 : decode cX4_setting 62 = .ok (.ireturn, 1) := by decide +kernel
theorem dX4_setting_63 : decode cX4_setting 63 = .ok (.iinc 2 1, 3) := by decide +kernel
theorem dX4_setting_66 : decode cX4_setting 66 = .ok (.iinc 3 1, 3) := by decide +kernel
theorem dX4_setting_69 : decode cX4_setting 69 = .ok (.goto (-65), 3) := by decide +kernel
theorem dX4_setting_72 : decode cX4_setting 72 = .ok (.iload_n 1, 1) := by decide +kernel
theorem dX4_setting_73 : decode cX4_setting 73 = .ok (.iconst (-1), 1) := by decide +kernel
theorem dX4_setting_74 : decode cX4_setting 74 = .ok (.if_icmp .ne 7, 3) := by decide +kernel
theorem dX4_setting_77 : decode cX4_setting 77 = .ok (.iload_n 2, 1) := by decide +kernel
theorem dX4_setting_78 : decode cX4_setting 78 = .ok (.goto 5, 3) := by decide +kernel
theorem dX4_setting_81 : decode cX4_setting 81 = .ok (.bipush (-6), 2) := by decide +kernel
theorem dX4_setting_83 : decode cX4_setting 83 = .ok (.ireturn, 1) := by decide +kernel
theorem dX4_stands_0 : decode cX4_stands 0 = .ok (.aload_n 0, 1) := by decide +kernel
theorem dX4_stands_1 : decode cX4_stands 1 = .ok (.getfield 33, 3) := by decide +kernel
theorem dX4_stands_4 : decode cX4_stands 4 = .ok (.getfield 163, 3) := by decide +kernel
theorem dX4_stands_7 : decode cX4_stands 7 = .ok (.ifCond .eq 18, 3) := by decide +kernel
theorem dX4_stands_10 : decode cX4_stands 10 = .ok (.aload_n 0, 1) := by decide +kernel
theorem dX4_stands_11 : decode cX4_stands 11 = .ok (.aload_n 0, 1) := by decide +kernel
theorem dX4_stands_12 : decode cX4_stands 12 = .ok (.getfield 33, 3) := by decide +kernel
theorem dX4_stands_15 : decode cX4_stands 15 = .ok (.invokevirtual 178, 3) := by decide +kernel
theorem dX4_stands_18 : decode cX4_stands 18 = .ok (.ifCond .eq 7, 3) := by decide +kernel
theorem dX4_stands_21 : decode cX4_stands 21 = .ok (.iconst 1, 1) := by decide +kernel
theorem dX4_stands_22 : decode cX4_stands 22 = .ok (.goto 4, 3) := by decide +kernel
theorem dX4_stands_25 : decode cX4_stands 25 = .ok (.iconst 0, 1) := by decide +kernel
theorem dX4_stands_26 : decode cX4_stands 26 = .ok (.ireturn, 1) := by decide +kernel
theorem dX4_told_0 : decode cX4_told 0 = .ok (.iload_n 1, 1) := by decide +kernel
theorem dX4_told_1 : decode cX4_told 1 = .ok (.tableswitch 75 0 4 #[35, 43, 51, 59, 67], 35) := by decide +kernel
theorem dX4_told_36 : decode cX4_told 36 = .ok (.aload_n 0, 1) := by decide +kernel
theorem dX4_told_37 : decode cX4_told 37 = .ok (.getfield 10, 3) := by decide +kernel
theorem dX4_told_40 : decode cX4_told 40 = .ok (.getfield 48, 3) := by decide +kernel
theorem dX4_told_43 : decode cX4_told 43 = .ok (.ireturn, 1) := by decide +kernel
theorem dX4_told_44 : decode cX4_told 44 = .ok (.aload_n 0, 1) := by decide +kernel
theorem dX4_told_45 : decode cX4_told 45 = .ok (.getfield 10, 3) := by decide +kernel
theorem dX4_told_48 : decode cX4_told 48 = .ok (.getfield 72, 3) := by decide +kernel
theorem dX4_told_51 : decode cX4_told 51 = .ok (.ireturn, 1) := by decide +kernel
theorem dX4_told_52 : decode cX4_told 52 = .ok (.aload_n 0, 1) := by decide +kernel
theorem dX4_told_53 : decode cX4_told 53 = .ok (.getfield 10, 3) := by decide +kernel
theorem dX4_told_56 : decode cX4_told 56 = .ok (.getfield 88, 3) := by decide +kernel
theorem dX4_told_59 : decode cX4_told 59 = .ok (.ireturn, 1) := by decide +kernel
theorem dX4_told_60 : decode cX4_told 60 = .ok (.aload_n 0, 1) := by decide +kernel
theorem dX4_told_61 : decode cX4_told 61 = .ok (.getfield 19, 3) := by decide +kernel
theorem dX4_told_64 : decode cX4_told 64 = .ok (.getfield 55, 3) := by decide +kernel
theorem dX4_told_67 : decode cX4_told 67 = .ok (.ireturn, 1) := by decide +kernel
theorem dX4_told_68 : decode cX4_told 68 = .ok (.aload_n 0, 1) := by decide +kernel
theorem dX4_told_69 : decode cX4_told 69 = .ok (.getfield 33, 3) := by decide +kernel
theorem dX4_told_72 : decode cX4_told 72 = .ok (.getfield 182, 3) := by decide +kernel
theorem dX4_told_75 : decode cX4_told 75 = .ok (.ireturn, 1) := by decide +kernel
theorem dX4_told_76 : decode cX4_told 76 = .ok (.bipush (-2), 2) := by decide +kernel
theorem dX4_told_78 : decode cX4_told 78 = .ok (.ireturn, 1) := by decide +kernel
theorem dX4_isKind_0 : decode cX4_isKind 0 = .ok (.iload_n 0, 1) := by decide +kernel
theorem dX4_isKind_1 : decode cX4_isKind 1 = .ok (.ifCond .lt 12, 3) := by decide +kernel
theorem dX4_isKind_4 : decode cX4_isKind 4 = .ok (.iload_n 0, 1) := by decide +kernel
theorem dX4_isKind_5 : decode cX4_isKind 5 = .ok (.iconst 4, 1) := by decide +kernel
theorem dX4_isKind_6 : decode cX4_isKind 6 = .ok (.if_icmp .ge 7, 3) := by decide +kernel
theorem dX4_isKind_9 : decode cX4_isKind 9 = .ok (.iconst 1, 1) := by decide +kernel
theorem dX4_isKind_10 : decode cX4_isKind 10 = .ok (.goto 4, 3) := by decide +kernel
theorem dX4_isKind_13 : decode cX4_isKind 13 = .ok (.iconst 0, 1) := by decide +kernel
theorem dX4_isKind_14 : decode cX4_isKind 14 = .ok (.ireturn, 1) := by decide +kernel
theorem dX4_isRole_0 : decode cX4_isRole 0 = .ok (.iload_n 0, 1) := by decide +kernel
theorem dX4_isRole_1 : decode cX4_isRole 1 = .ok (.ifCond .lt 12, 3) := by decide +kernel
theorem dX4_isRole_4 : decode cX4_isRole 4 = .ok (.iload_n 0, 1) := by decide +kernel
theorem dX4_isRole_5 : decode cX4_isRole 5 = .ok (.iconst 4, 1) := by decide +kernel
theorem dX4_isRole_6 : decode cX4_isRole 6 = .ok (.if_icmp .ge 7, 3) := by decide +kernel
theorem dX4_isRole_9 : decode cX4_isRole 9 = .ok (.iconst 1, 1) := by decide +kernel
theorem dX4_isRole_10 : decode cX4_isRole 10 = .ok (.goto 4, 3) := by decide +kernel
theorem dX4_isRole_13 : decode cX4_isRole 13 = .ok (.iconst 0, 1) := by decide +kernel
theorem dX4_isRole_14 : decode cX4_isRole 14 = .ok (.ireturn, 1) := by decide +kernel
theorem dX4_refusalOfWish_0 : decode cX4_refusalOfWish 0 = .ok (.aload_n 0, 1) := by decide +kernel
theorem dX4_refusalOfWish_1 : decode cX4_refusalOfWish 1 = .ok (.getfield 10, 3) := by decide +kernel
theorem dX4_refusalOfWish_4 : decode cX4_refusalOfWish 4 = .ok (.iload 4, 2) := by decide +kernel
theorem dX4_refusalOfWish_6 : decode cX4_refusalOfWish 6 = .ok (.invokevirtual 61, 3) := by decide +kernel
theorem dX4_refusalOfWish_9 : decode cX4_refusalOfWish 9 = .ok (.ifCond .ne 5, 3) := by decide +kernel
theorem dX4_refusalOfWish_12 : decode cX4_refusalOfWish 12 = .ok (.iconst (-1), 1) := by decide +kernel
theorem dX4_refusalOfWish_13 : decode cX4_refusalOfWish 13 = .ok (.ireturn, 1) := by decide +kernel
theorem dX4_refusalOfWish_14 : decode cX4_refusalOfWish 14 = .ok (.iload_n 1, 1) := by decide +kernel
theorem dX4_refusalOfWish_15 : decode cX4_refusalOfWish 15 = .ok (.invokestatic 69, 3) := by decide +kernel
theorem dX4_refusalOfWish_18 : decode cX4_refusalOfWish 18 = .ok (.ifCond .eq 23, 3) := by decide +kernel
theorem dX4_refusalOfWish_21 : decode cX4_refusalOfWish 21 = .ok (.iload_n 2, 1) := by decide +kernel
theorem dX4_refusalOfWish_22 : decode cX4_refusalOfWish 22 = .ok (.iconst 1, 1) := by decide +kernel
theorem dX4_refusalOfWish_23 : decode cX4_refusalOfWish 23 = .ok (.if_icmp .lt 18, 3) := by decide +kernel
theorem dX4_refusalOfWish_26 : decode cX4_refusalOfWish 26 = .ok (.iload_n 2, 1) := by decide +kernel
theorem dX4_refusalOfWish_27 : decode cX4_refusalOfWish 27 = .ok (.bipush 15, 2) := by decide +kernel
theorem dX4_refusalOfWish_29 : decode cX4_refusalOfWish 29 = .ok (.if_icmp .gt 12, 3) := by decide +kernel
theorem dX4_refusalOfWish_32 : decode cX4_refusalOfWish 32 = .ok (.iload_n 3, 1) := by decide +kernel
theorem dX4_refusalOfWish_33 : decode cX4_refusalOfWish 33 = .ok (.ifCond .lt 8, 3) := by decide +kernel
theorem dX4_refusalOfWish_36 : decode cX4_refusalOfWish 36 = .ok (.iload_n 3, 1) := by decide +kernel
theorem dX4_refusalOfWish_37 : decode cX4_refusalOfWish 37 = .ok (.iconst 4, 1) := by decide +kernel
theorem dX4_refusalOfWish_38 : decode cX4_refusalOfWish 38 = .ok (.if_icmp .le 6, 3) := by decide +kernel
theorem dX4_refusalOfWish_41 : decode cX4_refusalOfWish 41 = .ok (.bipush (-2), 2) := by decide +kernel
theorem dX4_refusalOfWish_43 : decode cX4_refusalOfWish 43 = .ok (.ireturn, 1) := by decide +kernel
theorem dX4_refusalOfWish_44 : decode cX4_refusalOfWish 44 = .ok (.aload_n 0, 1) := by decide +kernel
theorem dX4_refusalOfWish_45 : decode cX4_refusalOfWish 45 = .ok (.getfield 19, 3) := by decide +kernel
theorem dX4_refusalOfWish_48 : decode cX4_refusalOfWish 48 = .ok (.getfield 55, 3) := by decide +kernel
theorem dX4_refusalOfWish_51 : decode cX4_refusalOfWish 51 = .ok (.iconst 4, 1) := by decide +kernel
theorem dX4_refusalOfWish_52 : decode cX4_refusalOfWish 52 = .ok (.if_icmp .lt 8, 3) := by decide +kernel
theorem dX4_refusalOfWish_55 : decode cX4_refusalOfWish 55 = .ok (.bipush (-4), 2) := by decide +kernel
theorem dX4_refusalOfWish_57 : decode cX4_refusalOfWish 57 = .ok (.goto 4, 3) := by decide +kernel
theorem dX4_refusalOfWish_60 : decode cX4_refusalOfWish 60 = .ok (.iconst 0, 1) := by decide +kernel
theorem dX4_refusalOfWish_61 : decode cX4_refusalOfWish 61 = .ok (.ireturn, 1) := by decide +kernel
theorem dX4_learnCheapest_0 : decode cX4_learnCheapest 0 = .ok (.aload_n 0, 1) := by decide +kernel
theorem dX4_learnCheapest_1 : decode cX4_learnCheapest 1 = .ok (.getfield 44, 3) := by decide +kernel
theorem dX4_learnCheapest_4 : decode cX4_learnCheapest 4 = .ok (.ifCond .eq 4, 3) := by decide +kernel
theorem dX4_learnCheapest_7 : decode cX4_learnCheapest 7 = .ok (.return_, 1) := by decide +kernel
theorem dX4_learnCheapest_8 : decode cX4_learnCheapest 8 = .ok (.aload_n 0, 1) := by decide +kernel
theorem dX4_learnCheapest_9 : decode cX4_learnCheapest 9 = .ok (.getfield 26, 3) := by decide +kernel
theorem dX4_learnCheapest_12 : decode cX4_learnCheapest 12 = .ok (.aload_n 0, 1) := by decide +kernel
theorem dX4_learnCheapest_13 : decode cX4_learnCheapest 13 = .ok (.getfield 10, 3) := by decide +kernel
theorem dX4_learnCheapest_16 : decode cX4_learnCheapest 16 = .ok (.aload_n 0, 1) := by decide +kernel
theorem dX4_learnCheapest_17 : decode cX4_learnCheapest 17 = .ok (.getfield 19, 3) := by decide +kernel
theorem dX4_learnCheapest_20 : decode cX4_learnCheapest 20 = .ok (.bipush 15, 2) := by decide +kernel
theorem dX4_learnCheapest_22 : decode cX4_learnCheapest 22 = .ok (.invokevirtual 147, 3) := by decide +kernel
theorem dX4_learnCheapest_25 : decode cX4_learnCheapest 25 = .ok (.aload_n 0, 1) := by decide +kernel
theorem dX4_learnCheapest_26 : decode cX4_learnCheapest 26 = .ok (.aload_n 0, 1) := by decide +kernel
theorem dX4_learnCheapest_27 : decode cX4_learnCheapest 27 = .ok (.getfield 26, 3) := by decide +kernel
theorem dX4_learnCheapest_30 : decode cX4_learnCheapest 30 = .ok (.invokevirtual 155, 3) := by decide +kernel
theorem dX4_learnCheapest_33 : decode cX4_learnCheapest 33 = .ok (.putfield 40, 3) := by decide +kernel
theorem dX4_learnCheapest_36 : decode cX4_learnCheapest 36 = .ok (.aload_n 0, 1) := by decide +kernel
theorem dX4_learnCheapest_37 : decode cX4_learnCheapest 37 = .ok (.getfield 40, 3) := by decide +kernel
theorem dX4_learnCheapest_40 : decode cX4_learnCheapest 40 = .ok (.bipush (-6), 2) := by decide +kernel
theorem dX4_learnCheapest_42 : decode cX4_learnCheapest 42 = .ok (.if_icmp .ne 13, 3) := by decide +kernel
theorem dX4_learnCheapest_45 : decode cX4_learnCheapest 45 = .ok (.aload_n 0, 1) := by decide +kernel
theorem dX4_learnCheapest_46 : decode cX4_learnCheapest 46 = .ok (.getfield 37, 3) := by decide +kernel
theorem dX4_learnCheapest_49 : decode cX4_learnCheapest 49 = .ok (.invokevirtual 58, 3) := by decide +kernel
theorem dX4_learnCheapest_52 : decode cX4_learnCheapest 52 = .ok (.goto 17, 3) := by decide +kernel
theorem dX4_learnCheapest_55 : decode cX4_learnCheapest 55 = .ok (.aload_n 0, 1) := by decide +kernel
theorem dX4_learnCheapest_56 : decode cX4_learnCheapest 56 = .ok (.getfield 37, 3) := by decide +kernel
theorem dX4_learnCheapest_59 : decode cX4_learnCheapest 59 = .ok (.aload_n 0, 1) := by decide +kernel
theorem dX4_learnCheapest_60 : decode cX4_learnCheapest 60 = .ok (.getfield 26, 3) := by decide +kernel
theorem dX4_learnCheapest_63 : decode cX4_learnCheapest 63 = .ok (.getfield 169, 3) := by decide +kernel
theorem dX4_learnCheapest_66 : decode cX4_learnCheapest 66 = .ok (.invokevirtual 159, 3) := by decide +kernel
theorem dX4_learnCheapest_69 : decode cX4_learnCheapest 69 = .ok (.aload_n 0, 1) := by decide +kernel
theorem dX4_learnCheapest_70 : decode cX4_learnCheapest 70 = .ok (.iconst 1, 1) := by decide +kernel
theorem dX4_learnCheapest_71 : decode cX4_learnCheapest 71 = .ok (.putfield 44, 3) := by decide +kernel
theorem dX4_learnCheapest_74 : decode cX4_learnCheapest 74 = .ok (.return_, 1) := by decide +kernel
theorem dX4_isPossible_0 : decode cX4_isPossible 0 = .ok (.aload_n 0, 1) := by decide +kernel
theorem dX4_isPossible_1 : decode cX4_isPossible 1 = .ok (.getfield 26, 3) := by decide +kernel
theorem dX4_isPossible_4 : decode cX4_isPossible 4 = .ok (.aload_n 0, 1) := by decide +kernel
theorem dX4_isPossible_5 : decode cX4_isPossible 5 = .ok (.getfield 10, 3) := by decide +kernel
theorem dX4_isPossible_8 : decode cX4_isPossible 8 = .ok (.aload_n 0, 1) := by decide +kernel
theorem dX4_isPossible_9 : decode cX4_isPossible 9 = .ok (.getfield 19, 3) := by decide +kernel
theorem dX4_isPossible_12 : decode cX4_isPossible 12 = .ok (.iload_n 1, 1) := by decide +kernel
theorem dX4_isPossible_13 : decode cX4_isPossible 13 = .ok (.invokevirtual 147, 3) := by decide +kernel
theorem dX4_isPossible_16 : decode cX4_isPossible 16 = .ok (.aload_n 0, 1) := by decide +kernel
theorem dX4_isPossible_17 : decode cX4_isPossible 17 = .ok (.getfield 26, 3) := by decide +kernel
theorem dX4_isPossible_20 : decode cX4_isPossible 20 = .ok (.iconst 1, 1) := by decide +kernel
theorem dX4_isPossible_21 : decode cX4_isPossible 21 = .ok (.invokevirtual 152, 3) := by decide +kernel
theorem dX4_isPossible_24 : decode cX4_isPossible 24 = .ok (.ifCond .le 7, 3) := by decide +kernel
theorem dX4_isPossible_27 : decode cX4_isPossible 27 = .ok (.iconst 1, 1) := by decide +kernel
theorem dX4_isPossible_28 : decode cX4_isPossible 28 = .ok (.goto 4, 3) := by decide +kernel
theorem dX4_isPossible_31 : decode cX4_isPossible 31 = .ok (.iconst 0, 1) := by decide +kernel
theorem dX4_isPossible_32 : decode cX4_isPossible 32 = .ok (.ireturn, 1) := by decide +kernel
theorem dX4_countCrossings_0 : decode cX4_countCrossings 0 = .ok (.iconst 0, 1) := by decide +kernel
theorem dX4_countCrossings_1 : decode cX4_countCrossings 1 = .ok (.istore_n 2, 1) := by decide +kernel
theorem dX4_countCrossings_2 : decode cX4_countCrossings 2 = .ok (.iconst 0, 1) := by decide +kernel
theorem dX4_countCrossings_3 : decode cX4_countCrossings 3 = .ok (.istore_n 3, 1) := by decide +kernel
theorem dX4_countCrossings_4 : decode cX4_countCrossings 4 = .ok (.iload_n 3, 1) := by decide +kernel
theorem dX4_countCrossings_5 : decode cX4_countCrossings 5 = .ok (.bipush 16, 2) := by decide +kernel
theorem dX4_countCrossings_7 : decode cX4_countCrossings 7 = .ok (.if_icmp .ge 92, 3) := by decide +kernel
theorem dX4_countCrossings_10 : decode cX4_countCrossings 10 = .ok (.iconst 0, 1) := by decide +kernel
theorem dX4_countCrossings_11 : decode cX4_countCrossings 11 = .ok (.istore 4, 2) := by decide +kernel
theorem dX4_countCrossings_13 : decode cX4_countCrossings 13 = .ok (.iload 4, 2) := by decide +kernel
theorem dX4_countCrossings_15 : decode cX4_countCrossings 15 = .ok (.iload_n 3, 1) := by decide +kernel
theorem dX4_countCrossings_16 : decode cX4_countCrossings 16 = .ok (.if_icmp .ge 77, 3) := by decide +kernel
theorem dX4_countCrossings_19 : decode cX4_countCrossings 19 = .ok (.aload_n 1, 1) := by decide +kernel
theorem dX4_countCrossings_20 : decode cX4_countCrossings 20 = .ok (.getfield 183, 3) := by decide +kernel
theorem dX4_countCrossings_23 : decode cX4_countCrossings 23 = .ok (.iload_n 3, 1) := by decide +kernel
theorem dX4_countCrossings_24 : decode cX4_countCrossings 24 = .ok (.iaload, 1) := by decide +kernel
theorem dX4_countCrossings_25 : decode cX4_countCrossings 25 = .ok (.bipush (-6), 2) := by decide +kernel
theorem dX4_countCrossings_27 : decode cX4_countCrossings 27 = .ok (.if_icmp .eq 60, 3) := by decide +kernel
theorem dX4_countCrossings_30 : decode cX4_countCrossings 30 = .ok (.aload_n 1, 1) := by decide +kernel
theorem dX4_countCrossings_31 : decode cX4_countCrossings 31 = .ok (.getfield 183, 3) := by decide +kernel
theorem dX4_countCrossings_34 : decode cX4_countCrossings 34 = .ok (.iload 4, 2) := by decide +kernel
theorem dX4_countCrossings_36 : decode cX4_countCrossings 36 = .ok (.iaload, 1) := by decide +kernel
theorem dX4_countCrossings_37 : decode cX4_countCrossings 37 = .ok (.bipush (-6), 2) := by decide +kernel
theorem dX4_countCrossings_39 : decode cX4_countCrossings 39 = .ok (.if_icmp .eq 48, 3) := by decide +kernel
theorem dX4_countCrossings_42 : decode cX4_countCrossings 42 = .ok (.aload_n 0, 1) := by decide +kernel
theorem dX4_countCrossings_43 : decode cX4_countCrossings 43 = .ok (.getfield 19, 3) := by decide +kernel
theorem dX4_countCrossings_46 : decode cX4_countCrossings 46 = .ok (.getfield 117, 3) := by decide +kernel
theorem dX4_countCrossings_49 : decode cX4_countCrossings 49 = .ok (.iload_n 3, 1) := by decide +kernel
theorem dX4_countCrossings_50 : decode cX4_countCrossings 50 = .ok (.iconst 4, 1) := by decide +kernel
theorem dX4_countCrossings_51 : decode cX4_countCrossings 51 = .ok (.idiv, 1) := by decide +kernel
theorem dX4_countCrossings_52 : decode cX4_countCrossings 52 = .ok (.iaload, 1) := by decide +kernel
theorem dX4_countCrossings_53 : decode cX4_countCrossings 53 = .ok (.aload_n 1, 1) := by decide +kernel
theorem dX4_countCrossings_54 : decode cX4_countCrossings 54 = .ok (.getfield 183, 3) := by decide +kernel
theorem dX4_countCrossings_57 : decode cX4_countCrossings 57 = .ok (.iload_n 3, 1) := by decide +kernel
theorem dX4_countCrossings_58 : decode cX4_countCrossings 58 = .ok (.iaload, 1) := by decide +kernel
theorem dX4_countCrossings_59 : decode cX4_countCrossings 59 = .ok (.aload_n 0, 1) := by decide +kernel
theorem dX4_countCrossings_60 : decode cX4_countCrossings 60 = .ok (.getfield 19, 3) := by decide +kernel
theorem dX4_countCrossings_63 : decode cX4_countCrossings 63 = .ok (.getfield 117, 3) := by decide +kernel
theorem dX4_countCrossings_66 : decode cX4_countCrossings 66 = .ok (.iload 4, 2) := by decide +kernel
theorem dX4_countCrossings_68 : decode cX4_countCrossings 68 = .ok (.iconst 4, 1) := by decide +kernel
theorem dX4_countCrossings_69 : decode cX4_countCrossings 69 = .ok (.idiv, 1) := by decide +kernel
theorem dX4_countCrossings_70 : decode cX4_countCrossings 70 = .ok (.iaload, 1) := by decide +kernel
theorem dX4_countCrossings_71 : decode cX4_countCrossings 71 = .ok (.aload_n 1, 1) := by decide +kernel
theorem dX4_countCrossings_72 : decode cX4_countCrossings 72 = .ok (.getfield 183, 3) := by decide +kernel
theorem dX4_countCrossings_75 : decode cX4_countCrossings 75 = .ok (.iload 4, 2) := by decide +kernel
theorem dX4_countCrossings_77 : decode cX4_countCrossings 77 = .ok (.iaload, 1) := by decide +kernel
theorem dX4_countCrossings_78 : decode cX4_countCrossings 78 = .ok (.invokestatic 186, 3) := by decide +kernel
theorem dX4_countCrossings_81 : decode cX4_countCrossings 81 = .ok (.ifCond .eq 6, 3) := by decide +kernel
theorem dX4_countCrossings_84 : decode cX4_countCrossings 84 = .ok (.iinc 2 1, 3) := by decide +kernel
theorem dX4_countCrossings_87 : decode cX4_countCrossings 87 = .ok (.iinc 4 1, 3) := by decide +kernel
theorem dX4_countCrossings_90 : decode cX4_countCrossings 90 = .ok (.goto (-77), 3) := by decide +kernel
theorem dX4_countCrossings_93 : decode cX4_countCrossings 93 = .ok (.iinc 3 1, 3) := by decide +kernel
theorem dX4_countCrossings_96 : decode cX4_countCrossings 96 = .ok (.goto (-92), 3) := by decide +kernel
theorem dX4_countCrossings_99 : decode cX4_countCrossings 99 = .ok (.iload_n 2, 1) := by decide +kernel
theorem dX4_countCrossings_100 : decode cX4_countCrossings 100 = .ok (.ireturn, 1) := by decide +kernel
theorem dX4_cross_0 : decode cX4_cross 0 = .ok (.iload_n 0, 1) := by decide +kernel
theorem dX4_cross_1 : decode cX4_cross 1 = .ok (.iload_n 1, 1) := by decide +kernel
theorem dX4_cross_2 : decode cX4_cross 2 = .ok (.if_icmp .eq 28, 3) := by decide +kernel
theorem dX4_cross_5 : decode cX4_cross 5 = .ok (.iload_n 0, 1) := by decide +kernel
theorem dX4_cross_6 : decode cX4_cross 6 = .ok (.iload_n 2, 1) := by decide +kernel
theorem dX4_cross_7 : decode cX4_cross 7 = .ok (.if_icmp .eq 23, 3) := by decide +kernel
theorem dX4_cross_10 : decode cX4_cross 10 = .ok (.iload_n 0, 1) := by decide +kernel
theorem dX4_cross_11 : decode cX4_cross 11 = .ok (.iload_n 3, 1) := by decide +kernel
theorem dX4_cross_12 : decode cX4_cross 12 = .ok (.if_icmp .eq 18, 3) := by decide +kernel
theorem dX4_cross_15 : decode cX4_cross 15 = .ok (.iload_n 1, 1) := by decide +kernel
theorem dX4_cross_16 : decode cX4_cross 16 = .ok (.iload_n 2, 1) := by decide +kernel
theorem dX4_cross_17 : decode cX4_cross 17 = .ok (.if_icmp .eq 13, 3) := by decide +kernel
theorem dX4_cross_20 : decode cX4_cross 20 = .ok (.iload_n 1, 1) := by decide +kernel
theorem dX4_cross_21 : decode cX4_cross 21 = .ok (.iload_n 3, 1) := by decide +kernel
theorem dX4_cross_22 : decode cX4_cross 22 = .ok (.if_icmp .eq 8, 3) := by decide +kernel
theorem dX4_cross_25 : decode cX4_cross 25 = .ok (.iload_n 2, 1) := by decide +kernel
theorem dX4_cross_26 : decode cX4_cross 26 = .ok (.iload_n 3, 1) := by decide +kernel
theorem dX4_cross_27 : decode cX4_cross 27 = .ok (.if_icmp .ne 5, 3) := by decide +kernel
theorem dX4_cross_30 : decode cX4_cross 30 = .ok (.iconst 0, 1) := by decide +kernel
theorem dX4_cross_31 : decode cX4_cross 31 = .ok (.ireturn, 1) := by decide +kernel
theorem dX4_cross_32 : decode cX4_cross 32 = .ok (.iload_n 0, 1) := by decide +kernel
theorem dX4_cross_33 : decode cX4_cross 33 = .ok (.iload_n 1, 1) := by decide +kernel
theorem dX4_cross_34 : decode cX4_cross 34 = .ok (.invokestatic 190, 3) := by decide +kernel
theorem dX4_cross_37 : decode cX4_cross 37 = .ok (.istore 4, 2) := by decide +kernel
theorem dX4_cross_39 : decode cX4_cross 39 = .ok (.iload_n 0, 1) := by decide +kernel
theorem dX4_cross_40 : decode cX4_cross 40 = .ok (.iload_n 1, 1) := by decide +kernel
theorem dX4_cross_41 : decode cX4_cross 41 = .ok (.invokestatic 195, 3) := by decide +kernel
theorem dX4_cross_44 : decode cX4_cross 44 = .ok (.istore 5, 2) := by decide +kernel
theorem dX4_cross_46 : decode cX4_cross 46 = .ok (.iload 4, 2) := by decide +kernel
theorem dX4_cross_48 : decode cX4_cross 48 = .ok (.iload_n 2, 1) := by decide +kernel
theorem dX4_cross_49 : decode cX4_cross 49 = .ok (.if_icmp .ge 13, 3) := by decide +kernel
theorem dX4_cross_52 : decode cX4_cross 52 = .ok (.iload_n 2, 1) := by decide +kernel
theorem dX4_cross_53 : decode cX4_cross 53 = .ok (.iload 5, 2) := by decide +kernel
theorem dX4_cross_55 : decode cX4_cross 55 = .ok (.if_icmp .ge 7, 3) := by decide +kernel
theorem dX4_cross_58 : decode cX4_cross 58 = .ok (.iconst 1, 1) := by decide +kernel
theorem dX4_cross_59 : decode cX4_cross 59 = .ok (.goto 4, 3) := by decide +kernel
theorem dX4_cross_62 : decode cX4_cross 62 = .ok (.iconst 0, 1) := by decide +kernel
theorem dX4_cross_63 : decode cX4_cross 63 = .ok (.iload 4, 2) := by decide +kernel
theorem dX4_cross_65 : decode cX4_cross 65 = .ok (.iload_n 3, 1) := by decide +kernel
theorem dX4_cross_66 : decode cX4_cross 66 = .ok (.if_icmp .ge 13, 3) := by decide +kernel
theorem dX4_cross_69 : decode cX4_cross 69 = .ok (.iload_n 3, 1) := by decide +kernel
theorem dX4_cross_70 : decode cX4_cross 70 = .ok (.iload 5, 2) := by decide +kernel
theorem dX4_cross_72 : decode cX4_cross 72 = .ok (.if_icmp .ge 7, 3) := by decide +kernel
theorem dX4_cross_75 : decode cX4_cross 75 = .ok (.iconst 1, 1) := by decide +kernel
theorem dX4_cross_76 : decode cX4_cross 76 = .ok (.goto 4, 3) := by decide +kernel
theorem dX4_cross_79 : decode cX4_cross 79 = .ok (.iconst 0, 1) := by decide +kernel
theorem dX4_cross_80 : decode cX4_cross 80 = .ok (.iadd, 1) := by decide +kernel
theorem dX4_cross_81 : decode cX4_cross 81 = .ok (.istore 6, 2) := by decide +kernel
theorem dX4_cross_83 : decode cX4_cross 83 = .ok (.iload 6, 2) := by decide +kernel
theorem dX4_cross_85 : decode cX4_cross 85 = .ok (.iconst 1, 1) := by decide +kernel
theorem dX4_cross_86 : decode cX4_cross 86 = .ok (.if_icmp .ne 7, 3) := by decide +kernel
theorem dX4_cross_89 : decode cX4_cross 89 = .ok (.iconst 1, 1) := by decide +kernel
theorem dX4_cross_90 : decode cX4_cross 90 = .ok (.goto 4, 3) := by decide +kernel
theorem dX4_cross_93 : decode cX4_cross 93 = .ok (.iconst 0, 1) := by decide +kernel
theorem dX4_cross_94 : decode cX4_cross 94 = .ok (.ireturn, 1) := by decide +kernel
theorem dX4_isGivingNow_0 : decode cX4_isGivingNow 0 = .ok (.aload_n 1, 1) := by decide +kernel
theorem dX4_isGivingNow_1 : decode cX4_isGivingNow 1 = .ok (.getfield 182, 3) := by decide +kernel
theorem dX4_isGivingNow_4 : decode cX4_isGivingNow 4 = .ok (.aload_n 0, 1) := by decide +kernel
theorem dX4_isGivingNow_5 : decode cX4_isGivingNow 5 = .ok (.getfield 19, 3) := by decide +kernel
theorem dX4_isGivingNow_8 : decode cX4_isGivingNow 8 = .ok (.getfield 55, 3) := by decide +kernel
theorem dX4_isGivingNow_11 : decode cX4_isGivingNow 11 = .ok (.if_icmp .eq 5, 3) := by decide +kernel
theorem dX4_isGivingNow_14 : decode cX4_isGivingNow 14 = .ok (.iconst 0, 1) := by decide +kernel
theorem dX4_isGivingNow_15 : decode cX4_isGivingNow 15 = .ok (.ireturn, 1) := by decide +kernel
theorem dX4_isGivingNow_16 : decode cX4_isGivingNow 16 = .ok (.iconst 0, 1) := by decide +kernel
theorem dX4_isGivingNow_17 : decode cX4_isGivingNow 17 = .ok (.istore_n 2, 1) := by decide +kernel
theorem dX4_isGivingNow_18 : decode cX4_isGivingNow 18 = .ok (.iload_n 2, 1) := by decide +kernel
theorem dX4_isGivingNow_19 : decode cX4_isGivingNow 19 = .ok (.aload_n 0, 1) := by decide +kernel
theorem dX4_isGivingNow_20 : decode cX4_isGivingNow 20 = .ok (.getfield 19, 3) := by decide +kernel
theorem dX4_isGivingNow_23 : decode cX4_isGivingNow 23 = .ok (.getfield 55, 3) := by decide +kernel
theorem dX4_isGivingNow_26 : decode cX4_isGivingNow 26 = .ok (.if_icmp .ge 34, 3) := by decide +kernel
theorem dX4_isGivingNow_29 : decode cX4_isGivingNow 29 = .ok (.iconst 0, 1) := by decide +kernel
theorem dX4_isGivingNow_30 : decode cX4_isGivingNow 30 = .ok (.istore_n 3, 1) := by decide +kernel
theorem dX4_isGivingNow_31 : decode cX4_isGivingNow 31 = .ok (.iload_n 3, 1) := by decide +kernel
theorem dX4_isGivingNow_32 : decode cX4_isGivingNow 32 = .ok (.iconst 4, 1) := by decide +kernel
theorem dX4_isGivingNow_33 : decode cX4_isGivingNow 33 = .ok (.if_icmp .ge 21, 3) := by decide +kernel
theorem dX4_isGivingNow_36 : decode cX4_isGivingNow 36 = .ok (.aload_n 0, 1) := by decide +kernel
theorem dX4_isGivingNow_37 : decode cX4_isGivingNow 37 = .ok (.aload_n 1, 1) := by decide +kernel
theorem dX4_isGivingNow_38 : decode cX4_isGivingNow 38 = .ok (.iload_n 2, 1) := by decide +kernel
theorem dX4_isGivingNow_39 : decode cX4_isGivingNow 39 = .ok (.iload_n 3, 1) := by decide +kernel
theorem dX4_isGivingNow_40 : decode cX4_isGivingNow 40 = .ok (.invokevirtual 198, 3) := by decide +kernel
theorem dX4_isGivingNow_43 : decode cX4_isGivingNow 43 = .ok (.ifCond .ne 5, 3) := by decide +kernel
theorem dX4_isGivingNow_46 : decode cX4_isGivingNow 46 = .ok (.iconst 0, 1) := by decide +kernel
theorem dX4_isGivingNow_47 : decode cX4_isGivingNow 47 = .ok (.ireturn, 1) := by decide +kernel
theorem dX4_isGivingNow_48 : decode cX4_isGivingNow 48 = .ok (.iinc 3 1, 3) := by decide +kernel
theorem dX4_isGivingNow_51 : decode cX4_isGivingNow 51 = .ok (.goto (-20), 3) := by decide +kernel
theorem dX4_isGivingNow_54 : decode cX4_isGivingNow 54 = .ok (.iinc 2 1, 3) := by decide +kernel
theorem dX4_isGivingNow_57 : decode cX4_isGivingNow 57 = .ok (.goto (-39), 3) := by decide +kernel
theorem dX4_isGivingNow_60 : decode cX4_isGivingNow 60 = .ok (.iconst 1, 1) := by decide +kernel
theorem dX4_isGivingNow_61 : decode cX4_isGivingNow 61 = .ok (.ireturn, 1) := by decide +kernel
theorem dX4_fits_0 : decode cX4_fits 0 = .ok (.aload_n 1, 1) := by decide +kernel
theorem dX4_fits_1 : decode cX4_fits 1 = .ok (.iload_n 2, 1) := by decide +kernel
theorem dX4_fits_2 : decode cX4_fits 2 = .ok (.iload_n 3, 1) := by decide +kernel
theorem dX4_fits_3 : decode cX4_fits 3 = .ok (.invokevirtual 133, 3) := by decide +kernel
theorem dX4_fits_6 : decode cX4_fits 6 = .ok (.istore 4, 2) := by decide +kernel
theorem dX4_fits_8 : decode cX4_fits 8 = .ok (.aload_n 0, 1) := by decide +kernel
theorem dX4_fits_9 : decode cX4_fits 9 = .ok (.getfield 19, 3) := by decide +kernel
theorem dX4_fits_12 : decode cX4_fits 12 = .ok (.iload_n 2, 1) := by decide +kernel
theorem dX4_fits_13 : decode cX4_fits 13 = .ok (.iload_n 3, 1) := by decide +kernel
theorem dX4_fits_14 : decode cX4_fits 14 = .ok (.invokevirtual 123, 3) := by decide +kernel
theorem dX4_fits_17 : decode cX4_fits 17 = .ok (.ifCond .ne 16, 3) := by decide +kernel
theorem dX4_fits_20 : decode cX4_fits 20 = .ok (.iload 4, 2) := by decide +kernel
theorem dX4_fits_22 : decode cX4_fits 22 = .ok (.bipush (-6), 2) := by decide +kernel
theorem dX4_fits_24 : decode cX4_fits 24 = .ok (.if_icmp .ne 7, 3) := by decide +kernel
theorem dX4_fits_27 : decode cX4_fits 27 = .ok (.iconst 1, 1) := by decide +kernel
theorem dX4_fits_28 : decode cX4_fits 28 = .ok (.goto 4, 3) := by decide +kernel
theorem dX4_fits_31 : decode cX4_fits 31 = .ok (.iconst 0, 1) := by decide +kernel
theorem dX4_fits_32 : decode cX4_fits 32 = .ok (.ireturn, 1) := by decide +kernel
theorem dX4_fits_33 : decode cX4_fits 33 = .ok (.iload 4, 2) := by decide +kernel
theorem dX4_fits_35 : decode cX4_fits 35 = .ok (.bipush (-6), 2) := by decide +kernel
theorem dX4_fits_37 : decode cX4_fits 37 = .ok (.if_icmp .eq 33, 3) := by decide +kernel
theorem dX4_fits_40 : decode cX4_fits 40 = .ok (.aload_n 0, 1) := by decide +kernel
theorem dX4_fits_41 : decode cX4_fits 41 = .ok (.getfield 19, 3) := by decide +kernel
theorem dX4_fits_44 : decode cX4_fits 44 = .ok (.aload_n 0, 1) := by decide +kernel
theorem dX4_fits_45 : decode cX4_fits 45 = .ok (.getfield 10, 3) := by decide +kernel
theorem dX4_fits_48 : decode cX4_fits 48 = .ok (.iload_n 2, 1) := by decide +kernel
theorem dX4_fits_49 : decode cX4_fits 49 = .ok (.aload_n 1, 1) := by decide +kernel
theorem dX4_fits_50 : decode cX4_fits 50 = .ok (.iload_n 2, 1) := by decide +kernel
theorem dX4_fits_51 : decode cX4_fits 51 = .ok (.invokevirtual 130, 3) := by decide +kernel
theorem dX4_fits_54 : decode cX4_fits 54 = .ok (.iload_n 3, 1) := by decide +kernel
theorem dX4_fits_55 : decode cX4_fits 55 = .ok (.invokevirtual 202, 3) := by decide +kernel
theorem dX4_fits_58 : decode cX4_fits 58 = .ok (.iload 4, 2) := by decide +kernel
theorem dX4_fits_60 : decode cX4_fits 60 = .ok (.ishr, 1) := by decide +kernel
theorem dX4_fits_61 : decode cX4_fits 61 = .ok (.iconst 1, 1) := by decide +kernel
theorem dX4_fits_62 : decode cX4_fits 62 = .ok (.iand, 1) := by decide +kernel
theorem dX4_fits_63 : decode cX4_fits 63 = .ok (.ifCond .eq 7, 3) := by decide +kernel
theorem dX4_fits_66 : decode cX4_fits 66 = .ok (.iconst 1, 1) := by decide +kernel
theorem dX4_fits_67 : decode cX4_fits 67 = .ok (.goto 4, 3) := by decide +kernel
theorem dX4_fits_70 : decode cX4_fits 70 = .ok (.iconst 0, 1) := by decide +kernel
theorem dX4_fits_71 : decode cX4_fits 71 = .ok (.ireturn, 1) := by decide +kernel
theorem dX5_init_0 : decode cX5_init 0 = .ok (.aload_n 0, 1) := by decide +kernel
theorem dX5_init_1 : decode cX5_init 1 = .ok (.invokespecial 1, 3) := by decide +kernel
theorem dX5_init_4 : decode cX5_init 4 = .ok (.aload_n 0, 1) := by decide +kernel
theorem dX5_init_5 : decode cX5_init 5 = .ok (.bipush 8, 2) := by decide +kernel
theorem dX5_init_7 : decode cX5_init 7 = .ok (.putfield 7, 3) := by decide +kernel
theorem dX5_init_10 : decode cX5_init 10 = .ok (.aload_n 0, 1) := by decide +kernel
theorem dX5_init_11 : decode cX5_init 11 = .ok (.bipush 16, 2) := by decide +kernel
theorem dX5_init_13 : decode cX5_init 13 = .ok (.newarray .int, 2) := by decide +kernel
theorem dX5_init_15 : decode cX5_init 15 = .ok (.putfield 13, 3) := by decide +kernel
theorem dX5_init_18 : decode cX5_init 18 = .ok (.aload_n 0, 1) := by decide +kernel
theorem dX5_init_19 : decode cX5_init 19 = .ok (.bipush 6, 2) := by decide +kernel
theorem dX5_init_21 : decode cX5_init 21 = .ok (.newarray .int, 2) := by decide +kernel
theorem dX5_init_23 : decode cX5_init 23 = .ok (.putfield 17, 3) := by decide +kernel
theorem dX5_init_26 : decode cX5_init 26 = .ok (.aload_n 0, 1) := by decide +kernel
theorem dX5_init_27 : decode cX5_init 27 = .ok (.bipush 30, 2) := by decide +kernel
theorem dX5_init_29 : decode cX5_init 29 = .ok (.newarray .int, 2) := by decide +kernel
theorem dX5_init_31 : decode cX5_init 31 = .ok (.putfield 20, 3) := by decide +kernel
theorem dX5_init_34 : decode cX5_init 34 = .ok (.aload_n 0, 1) := by decide +kernel
theorem dX5_init_35 : decode cX5_init 35 = .ok (.bipush 30, 2) := by decide +kernel
theorem dX5_init_37 : decode cX5_init 37 = .ok (.newarray .int, 2) := by decide +kernel
theorem dX5_init_39 : decode cX5_init 39 = .ok (.putfield 23, 3) := by decide +kernel
theorem dX5_init_42 : decode cX5_init 42 = .ok (.aload_n 0, 1) := by decide +kernel
theorem dX5_init_43 : decode cX5_init 43 = .ok (.bipush 30, 2) := by decide +kernel
theorem dX5_init_45 : decode cX5_init 45 = .ok (.newarray .int, 2) := by decide +kernel
theorem dX5_init_47 : decode cX5_init 47 = .ok (.putfield 26, 3) := by decide +kernel
theorem dX5_init_50 : decode cX5_init 50 = .ok (.aload_n 0, 1) := by decide +kernel
theorem dX5_init_51 : decode cX5_init 51 = .ok (.iconst 4, 1) := by decide +kernel
theorem dX5_init_52 : decode cX5_init 52 = .ok (.newarray .int, 2) := by decide +kernel
theorem dX5_init_54 : decode cX5_init 54 = .ok (.putfield 29, 3) := by decide +kernel
theorem dX5_init_57 : decode cX5_init 57 = .ok (.aload_n 0, 1) := by decide +kernel
theorem dX5_init_58 : decode cX5_init 58 = .ok (.iconst 4, 1) := by decide +kernel
theorem dX5_init_59 : decode cX5_init 59 = .ok (.newarray .int, 2) := by decide +kernel
theorem dX5_init_61 : decode cX5_init 61 = .ok (.putfield 32, 3) := by decide +kernel
theorem dX5_init_64 : decode cX5_init 64 = .ok (.aload_n 0, 1) := by decide +kernel
theorem dX5_init_65 : decode cX5_init 65 = .ok (.iconst 4, 1) := by decide +kernel
theorem dX5_init_66 : decode cX5_init 66 = .ok (.newarray .int, 2) := by decide +kernel
theorem dX5_init_68 : decode cX5_init 68 = .ok (.putfield 35, 3) := by decide +kernel
theorem dX5_init_71 : decode cX5_init 71 = .ok (.aload_n 0, 1) := by decide +kernel
theorem dX5_init_72 : decode cX5_init 72 = .ok (.iconst 4, 1) := by decide +kernel
theorem dX5_init_73 : decode cX5_init 73 = .ok (.newarray .int, 2) := by decide +kernel
theorem dX5_init_75 : decode cX5_init 75 = .ok (.putfield 38, 3) := by decide +kernel
theorem dX5_init_78 : decode cX5_init 78 = .ok (.aload_n 0, 1) := by decide +kernel
theorem dX5_init_79 : decode cX5_init 79 = .ok (.bipush 16, 2) := by decide +kernel
theorem dX5_init_81 : decode cX5_init 81 = .ok (.newarray .int, 2) := by decide +kernel
theorem dX5_init_83 : decode cX5_init 83 = .ok (.putfield 41, 3) := by decide +kernel
theorem dX5_init_86 : decode cX5_init 86 = .ok (.aload_n 0, 1) := by decide +kernel
theorem dX5_init_87 : decode cX5_init 87 = .ok (.iconst 4, 1) := by decide +kernel
theorem dX5_init_88 : decode cX5_init 88 = .ok (.newarray .int, 2) := by decide +kernel
theorem dX5_init_90 : decode cX5_init 90 = .ok (.putfield 44, 3) := by decide +kernel
theorem dX5_init_93 : decode cX5_init 93 = .ok (.aload_n 0, 1) := by decide +kernel
theorem dX5_init_94 : decode cX5_init 94 = .ok (.bipush 16, 2) := by decide +kernel
theorem dX5_init_96 : decode cX5_init 96 = .ok (.newarray .int, 2) := by decide +kernel
theorem dX5_init_98 : decode cX5_init 98 = .ok (.putfield 47, 3) := by decide +kernel
theorem dX5_init_101 : decode cX5_init 101 = .ok (.aload_n 0, 1) := by decide +kernel
theorem dX5_init_102 : decode cX5_init 102 = .ok (.bipush 20, 2) := by decide +kernel
theorem dX5_init_104 : decode cX5_init 104 = .ok (.newarray .int, 2) := by decide +kernel
theorem dX5_init_106 : decode cX5_init 106 = .ok (.putfield 50, 3) := by decide +kernel
theorem dX5_init_109 : decode cX5_init 109 = .ok (.aload_n 0, 1) := by decide +kernel
theorem dX5_init_110 : decode cX5_init 110 = .ok (.bipush 20, 2) := by decide +kernel
theorem dX5_init_112 : decode cX5_init 112 = .ok (.newarray .int, 2) := by decide +kernel
theorem dX5_init_114 : decode cX5_init 114 = .ok (.putfield 53, 3) := by decide +kernel
theorem dX5_init_117 : decode cX5_init 117 = .ok (.aload_n 0, 1) := by decide +kernel
theorem dX5_init_118 : decode cX5_init 118 = .ok (.bipush 20, 2) := by decide +kernel
theorem dX5_init_120 : decode cX5_init 120 = .ok (.newarray .int, 2) := by decide +kernel
theorem dX5_init_122 : decode cX5_init 122 = .ok (.putfield 56, 3) := by decide +kernel
theorem dX5_init_125 : decode cX5_init 125 = .ok (.aload_n 0, 1) := by decide +kernel
theorem dX5_init_126 : decode cX5_init 126 = .ok (.iconst 4, 1) := by decide +kernel
theorem dX5_init_127 : decode cX5_init 127 = .ok (.newarray .int, 2) := by decide +kernel
theorem dX5_init_129 : decode cX5_init 129 = .ok (.putfield 59, 3) := by decide +kernel
theorem dX5_init_132 : decode cX5_init 132 = .ok (.aload_n 0, 1) := by decide +kernel
theorem dX5_init_133 : decode cX5_init 133 = .ok (.bipush 16, 2) := by decide +kernel
theorem dX5_init_135 : decode cX5_init 135 = .ok (.newarray .int, 2) := by decide +kernel
theorem dX5_init_137 : decode cX5_init 137 = .ok (.putfield 62, 3) := by decide +kernel
theorem dX5_init_140 : decode cX5_init 140 = .ok (.aload_n 0, 1) := by decide +kernel
theorem dX5_init_141 : decode cX5_init 141 = .ok (.invokevirtual 65, 3) := by decide +kernel
theorem dX5_init_144 : decode cX5_init 144 = .ok (.return_, 1) := by decide +kernel
theorem dX5_in_0 : decode cX5_in 0 = .ok (.iload_n 0, 1) := by decide +kernel
theorem dX5_in_1 : decode cX5_in 1 = .ok (.iload_n 1, 1) := by decide +kernel
theorem dX5_in_2 : decode cX5_in 2 = .ok (.if_icmp .lt 12, 3) := by decide +kernel
theorem dX5_in_5 : decode cX5_in 5 = .ok (.iload_n 0, 1) := by decide +kernel
theorem dX5_in_6 : decode cX5_in 6 = .ok (.iload_n 2, 1) := by decide +kernel
theorem dX5_in_7 : decode cX5_in 7 = .ok (.if_icmp .gt 7, 3) := by decide +kernel
theorem dX5_in_10 : decode cX5_in 10 = .ok (.iconst 1, 1) := by decide +kernel
theorem dX5_in_11 : decode cX5_in 11 = .ok (.goto 4, 3) := by decide +kernel
theorem dX5_in_14 : decode cX5_in 14 = .ok (.iconst 0, 1) := by decide +kernel
theorem dX5_in_15 : decode cX5_in 15 = .ok (.ireturn, 1) := by decide +kernel
theorem dX5_begin_0 : decode cX5_begin 0 = .ok (.iconst 0, 1) := by decide +kernel
theorem dX5_begin_1 : decode cX5_begin 1 = .ok (.istore_n 1, 1) := by decide +kernel
theorem dX5_begin_2 : decode cX5_begin 2 = .ok (.iload_n 1, 1) := by decide +kernel
theorem dX5_begin_3 : decode cX5_begin 3 = .ok (.bipush 16, 2) := by decide +kernel
theorem dX5_begin_5 : decode cX5_begin 5 = .ok (.if_icmp .ge 16, 3) := by decide +kernel
theorem dX5_begin_8 : decode cX5_begin 8 = .ok (.aload_n 0, 1) := by decide +kernel
theorem dX5_begin_9 : decode cX5_begin 9 = .ok (.getfield 13, 3) := by decide +kernel
theorem dX5_begin_12 : decode cX5_begin 12 = .ok (.iload_n 1, 1) := by decide +kernel
theorem dX5_begin_13 : decode cX5_begin 13 = .ok (.iconst 1, 1) := by decide +kernel
theorem dX5_begin_14 : decode cX5_begin 14 = .ok (.iastore, 1) := by decide +kernel
theorem dX5_begin_15 : decode cX5_begin 15 = .ok (.iinc 1 1, 3) := by decide +kernel
theorem dX5_begin_18 : decode cX5_begin 18 = .ok (.goto (-16), 3) := by decide +kernel
theorem dX5_begin_21 : decode cX5_begin 21 = .ok (.aload_n 0, 1) := by decide +kernel
theorem dX5_begin_22 : decode cX5_begin 22 = .ok (.iconst 0, 1) := by decide +kernel
theorem dX5_begin_23 : decode cX5_begin 23 = .ok (.putfield 68, 3) := by decide +kernel
theorem dX5_begin_26 : decode cX5_begin 26 = .ok (.aload_n 0, 1) := by decide +kernel
theorem dX5_begin_27 : decode cX5_begin 27 = .ok (.iconst 0, 1) := by decide +kernel
theorem dX5_begin_28 : decode cX5_begin 28 = .ok (.putfield 71, 3) := by decide +kernel
theorem dX5_begin_31 : decode cX5_begin 31 = .ok (.aload_n 0, 1) := by decide +kernel
theorem dX5_begin_32 : decode cX5_begin 32 = .ok (.iconst 0, 1) := by decide +kernel
theorem dX5_begin_33 : decode cX5_begin 33 = .ok (.putfield 74, 3) := by decide +kernel
theorem dX5_begin_36 : decode cX5_begin 36 = .ok (.aload_n 0, 1) := by decide +kernel
theorem dX5_begin_37 : decode cX5_begin 37 = .ok (.invokevirtual 77, 3) := by decide +kernel
theorem dX5_begin_40 : decode cX5_begin 40 = .ok (.return_, 1) := by decide +kernel
theorem dX5_empty_0 : decode cX5_empty 0 = .ok (.aload_n 0, 1) := by decide +kernel
theorem dX5_empty_1 : decode cX5_empty 1 = .ok (.iconst 0, 1) := by decide +kernel
theorem dX5_empty_2 : decode cX5_empty 2 = .ok (.putfield 80, 3) := by decide +kernel
theorem dX5_empty_5 : decode cX5_empty 5 = .ok (.iconst 0, 1) := by decide +kernel
theorem dX5_empty_6 : decode cX5_empty 6 = .ok (.istore_n 1, 1) := by decide +kernel
theorem dX5_empty_7 : decode cX5_empty 7 = .ok (.iload_n 1, 1) := by decide +kernel
theorem dX5_empty_8 : decode cX5_empty 8 = .ok (.iconst 4, 1) := by decide +kernel
theorem dX5_empty_9 : decode cX5_empty 9 = .ok (.if_icmp .ge 17, 3) := by decide +kernel
theorem dX5_empty_12 : decode cX5_empty 12 = .ok (.aload_n 0, 1) := by decide +kernel
theorem dX5_empty_13 : decode cX5_empty 13 = .ok (.getfield 44, 3) := by decide +kernel
theorem dX5_empty_16 : decode cX5_empty 16 = .ok (.iload_n 1, 1) := by decide +kernel
theorem dX5_empty_17 : decode cX5_empty 17 = .ok (.bipush (-6), 2) := by decide +kernel
theorem dX5_empty_19 : decode cX5_empty 19 = .ok (.iastore, 1) := by decide +kernel
theorem dX5_empty_20 : decode cX5_empty 20 = .ok (.iinc 1 1, 3) := by decide +kernel
theorem dX5_empty_23 : decode cX5_empty 23 = .ok (.goto (-16), 3) := by decide +kernel
theorem dX5_empty_26 : decode cX5_empty 26 = .ok (.iconst 0, 1) := by decide +kernel
theorem dX5_empty_27 : decode cX5_empty 27 = .ok (.istore_n 1, 1) := by decide +kernel
theorem dX5_empty_28 : decode cX5_empty 28 = .ok (.iload_n 1, 1) := by decide +kernel
theorem dX5_empty_29 : decode cX5_empty 29 = .ok (.bipush 16, 2) := by decide +kernel
theorem dX5_empty_31 : decode cX5_empty 31 = .ok (.if_icmp .ge 17, 3) := by decide +kernel
theorem dX5_empty_34 : decode cX5_empty 34 = .ok (.aload_n 0, 1) := by decide +kernel
theorem dX5_empty_35 : decode cX5_empty 35 = .ok (.getfield 47, 3) := by decide +kernel
theorem dX5_empty_38 : decode cX5_empty 38 = .ok (.iload_n 1, 1) := by decide +kernel
theorem dX5_empty_39 : decode cX5_empty 39 = .ok (.bipush (-6), 2) := by decide +kernel
theorem dX5_empty_41 : decode cX5_empty 41 = .ok (.iastore, 1) := by decide +kernel
theorem dX5_empty_42 : decode cX5_empty 42 = .ok (.iinc 1 1, 3) := by decide +kernel
theorem dX5_empty_45 : decode cX5_empty 45 = .ok (.goto (-17), 3) := by decide +kernel
theorem dX5_empty_48 : decode cX5_empty 48 = .ok (.return_, 1) := by decide +kernel
theorem dX5_isFoot_0 : decode cX5_isFoot 0 = .ok (.iload_n 1, 1) := by decide +kernel
theorem dX5_isFoot_1 : decode cX5_isFoot 1 = .ok (.iconst 0, 1) := by decide +kernel
theorem dX5_isFoot_2 : decode cX5_isFoot 2 = .ok (.aload_n 0, 1) := by decide +kernel
theorem dX5_isFoot_3 : decode cX5_isFoot 3 = .ok (.getfield 7, 3) := by decide +kernel
theorem dX5_isFoot_6 : decode cX5_isFoot 6 = .ok (.iconst 1, 1) := by decide +kernel
theorem dX5_isFoot_7 : decode cX5_isFoot 7 = .ok (.isub, 1) := by decide +kernel
theorem dX5_isFoot_8 : decode cX5_isFoot 8 = .ok (.invokestatic 84, 3) := by decide +kernel
theorem dX5_isFoot_11 : decode cX5_isFoot 11 = .ok (.ireturn, 1) := by decide +kernel
theorem dX5_feet_0 : decode cX5_feet 0 = .ok (.iload_n 1, 1) := by decide +kernel
theorem dX5_feet_1 : decode cX5_feet 1 = .ok (.iconst 4, 1) := by decide +kernel
theorem dX5_feet_2 : decode cX5_feet 2 = .ok (.bipush 16, 2) := by decide +kernel
theorem dX5_feet_4 : decode cX5_feet 4 = .ok (.invokestatic 84, 3) := by decide +kernel
theorem dX5_feet_7 : decode cX5_feet 7 = .ok (.ifCond .ne 6, 3) := by decide +kernel
theorem dX5_feet_10 : decode cX5_feet 10 = .ok (.bipush (-2), 2) := by decide +kernel
theorem dX5_feet_12 : decode cX5_feet 12 = .ok (.ireturn, 1) := by decide +kernel
theorem dX5_feet_13 : decode cX5_feet 13 = .ok (.aload_n 0, 1) := by decide +kernel
theorem dX5_feet_14 : decode cX5_feet 14 = .ok (.getfield 7, 3) := by decide +kernel
theorem dX5_feet_17 : decode cX5_feet 17 = .ok (.istore_n 2, 1) := by decide +kernel
theorem dX5_feet_18 : decode cX5_feet 18 = .ok (.aload_n 0, 1) := by decide +kernel
theorem dX5_feet_19 : decode cX5_feet 19 = .ok (.iload_n 1, 1) := by decide +kernel
theorem dX5_feet_20 : decode cX5_feet 20 = .ok (.putfield 7, 3) := by decide +kernel
theorem dX5_feet_23 : decode cX5_feet 23 = .ok (.aload_n 0, 1) := by decide +kernel
theorem dX5_feet_24 : decode cX5_feet 24 = .ok (.invokevirtual 65, 3) := by decide +kernel
theorem dX5_feet_27 : decode cX5_feet 27 = .ok (.iload_n 2, 1) := by decide +kernel
theorem dX5_feet_28 : decode cX5_feet 28 = .ok (.ireturn, 1) := by decide +kernel
theorem dX5_volt_0 : decode cX5_volt 0 = .ok (.aload_n 0, 1) := by decide +kernel
theorem dX5_volt_1 : decode cX5_volt 1 = .ok (.iload_n 1, 1) := by decide +kernel
theorem dX5_volt_2 : decode cX5_volt 2 = .ok (.invokevirtual 88, 3) := by decide +kernel
theorem dX5_volt_5 : decode cX5_volt 5 = .ok (.ifCond .ne 5, 3) := by decide +kernel
theorem dX5_volt_8 : decode cX5_volt 8 = .ok (.iconst (-1), 1) := by decide +kernel
theorem dX5_volt_9 : decode cX5_volt 9 = .ok (.ireturn, 1) := by decide +kernel
theorem dX5_volt_10 : decode cX5_volt 10 = .ok (.iload_n 2, 1) := by decide +kernel
theorem dX5_volt_11 : decode cX5_volt 11 = .ok (.iconst 1, 1) := by decide +kernel
theorem dX5_volt_12 : decode cX5_volt 12 = .ok (.iconst 4, 1) := by decide +kernel
theorem dX5_volt_13 : decode cX5_volt 13 = .ok (.invokestatic 84, 3) := by decide +kernel
theorem dX5_volt_16 : decode cX5_volt 16 = .ok (.ifCond .ne 6, 3) := by decide +kernel
theorem dX5_volt_19 : decode cX5_volt 19 = .ok (.bipush (-2), 2) := by decide +kernel
theorem dX5_volt_21 : decode cX5_volt 21 = .ok (.ireturn, 1) := by decide +kernel
theorem dX5_volt_22 : decode cX5_volt 22 = .ok (.aload_n 0, 1) := by decide +kernel
theorem dX5_volt_23 : decode cX5_volt 23 = .ok (.getfield 13, 3) := by decide +kernel
theorem dX5_volt_26 : decode cX5_volt 26 = .ok (.iload_n 1, 1) := by decide +kernel
theorem dX5_volt_27 : decode cX5_volt 27 = .ok (.iaload, 1) := by decide +kernel
theorem dX5_volt_28 : decode cX5_volt 28 = .ok (.istore_n 3, 1) := by decide +kernel
theorem dX5_volt_29 : decode cX5_volt 29 = .ok (.aload_n 0, 1) := by decide +kernel
theorem dX5_volt_30 : decode cX5_volt 30 = .ok (.getfield 13, 3) := by decide +kernel
theorem dX5_volt_33 : decode cX5_volt 33 = .ok (.iload_n 1, 1) := by decide +kernel
theorem dX5_volt_34 : decode cX5_volt 34 = .ok (.iload_n 2, 1) := by decide +kernel
theorem dX5_volt_35 : decode cX5_volt 35 = .ok (.iastore, 1) := by decide +kernel
theorem dX5_volt_36 : decode cX5_volt 36 = .ok (.iload_n 3, 1) := by decide +kernel
theorem dX5_volt_37 : decode cX5_volt 37 = .ok (.ireturn, 1) := by decide +kernel
theorem dX5_unit_0 : decode cX5_unit 0 = .ok (.iload_n 1, 1) := by decide +kernel
theorem dX5_unit_1 : decode cX5_unit 1 = .ok (.iconst 0, 1) := by decide +kernel
theorem dX5_unit_2 : decode cX5_unit 2 = .ok (.iconst 3, 1) := by decide +kernel
theorem dX5_unit_3 : decode cX5_unit 3 = .ok (.invokestatic 84, 3) := by decide +kernel
theorem dX5_unit_6 : decode cX5_unit 6 = .ok (.ifCond .ne 6, 3) := by decide +kernel
theorem dX5_unit_9 : decode cX5_unit 9 = .ok (.bipush (-2), 2) := by decide +kernel
theorem dX5_unit_11 : decode cX5_unit 11 = .ok (.ireturn, 1) := by decide +kernel
theorem dX5_unit_12 : decode cX5_unit 12 = .ok (.aload_n 0, 1) := by decide +kernel
theorem dX5_unit_13 : decode cX5_unit 13 = .ok (.getfield 68, 3) := by decide +kernel
theorem dX5_unit_16 : decode cX5_unit 16 = .ok (.bipush 6, 2) := by decide +kernel
theorem dX5_unit_18 : decode cX5_unit 18 = .ok (.if_icmp .ne 6, 3) := by decide +kernel
theorem dX5_unit_21 : decode cX5_unit 21 = .ok (.bipush (-4), 2) := by decide +kernel
theorem dX5_unit_23 : decode cX5_unit 23 = .ok (.ireturn, 1) := by decide +kernel
theorem dX5_unit_24 : decode cX5_unit 24 = .ok (.aload_n 0, 1) := by decide +kernel
theorem dX5_unit_25 : decode cX5_unit 25 = .ok (.getfield 17, 3) := by decide +kernel
theorem dX5_unit_28 : decode cX5_unit 28 = .ok (.aload_n 0, 1) := by decide +kernel
theorem dX5_unit_29 : decode cX5_unit 29 = .ok (.getfield 68, 3) := by decide +kernel
theorem dX5_unit_32 : decode cX5_unit 32 = .ok (.iload_n 1, 1) := by decide +kernel
theorem dX5_unit_33 : decode cX5_unit 33 = .ok (.iastore, 1) := by decide +kernel
theorem dX5_unit_34 : decode cX5_unit 34 = .ok (.aload_n 0, 1) := by decide +kernel
theorem dX5_unit_35 : decode cX5_unit 35 = .ok (.dup, 1) := by decide +kernel
theorem dX5_unit_36 : decode cX5_unit 36 = .ok (.getfield 68, 3) := by decide +kernel
theorem dX5_unit_39 : decode cX5_unit 39 = .ok (.iconst 1, 1) := by decide +kernel
theorem dX5_unit_40 : decode cX5_unit 40 = .ok (.iadd, 1) := by decide +kernel
theorem dX5_unit_41 : decode cX5_unit 41 = .ok (.putfield 68, 3) := by decide +kernel
theorem dX5_unit_44 : decode cX5_unit 44 = .ok (.aload_n 0, 1) := by decide +kernel
theorem dX5_unit_45 : decode cX5_unit 45 = .ok (.getfield 68, 3) := by decide +kernel
theorem dX5_unit_48 : decode cX5_unit 48 = .ok (.iconst 1, 1) := by decide +kernel
theorem dX5_unit_49 : decode cX5_unit 49 = .ok (.isub, 1) := by decide +kernel
theorem dX5_unit_50 : decode cX5_unit 50 = .ok (.ireturn, 1) := by decide +kernel
theorem dX5_kind_0 : decode cX5_kind 0 = .ok (.iload_n 1, 1) := by decide +kernel
theorem dX5_kind_1 : decode cX5_kind 1 = .ok (.iconst 0, 1) := by decide +kernel
theorem dX5_kind_2 : decode cX5_kind 2 = .ok (.aload_n 0, 1) := by decide +kernel
theorem dX5_kind_3 : decode cX5_kind 3 = .ok (.getfield 68, 3) := by decide +kernel
theorem dX5_kind_6 : decode cX5_kind 6 = .ok (.iconst 1, 1) := by decide +kernel
theorem dX5_kind_7 : decode cX5_kind 7 = .ok (.isub, 1) := by decide +kernel
theorem dX5_kind_8 : decode cX5_kind 8 = .ok (.invokestatic 84, 3) := by decide +kernel
theorem dX5_kind_11 : decode cX5_kind 11 = .ok (.ifCond .eq 12, 3) := by decide +kernel
theorem dX5_kind_14 : decode cX5_kind 14 = .ok (.aload_n 0, 1) := by decide +kernel
theorem dX5_kind_15 : decode cX5_kind 15 = .ok (.getfield 17, 3) := by decide +kernel
theorem dX5_kind_18 : decode cX5_kind 18 = .ok (.iload_n 1, 1) := by decide +kernel
theorem dX5_kind_19 : decode cX5_kind 19 = .ok (.iaload, 1) := by decide +kernel
theorem dX5_kind_20 : decode cX5_kind 20 = .ok (.goto 4, 3) := by decide +kernel
theorem dX5_kind_23 : decode cX5_kind 23 = .ok (.iconst (-1), 1) := by decide +kernel
theorem dX5_kind_24 : decode cX5_kind 24 = .ok (.ireturn, 1) := by decide +kernel
theorem dX5_can_0 : decode cX5_can 0 = .ok (.iconst 0, 1) := by decide +kernel
theorem dX5_can_1 : decode cX5_can 1 = .ok (.istore 4, 2) := by decide +kernel
theorem dX5_can_3 : decode cX5_can 3 = .ok (.iconst 0, 1) := by decide +kernel
theorem dX5_can_4 : decode cX5_can 4 = .ok (.istore 5, 2) := by decide +kernel
theorem dX5_can_6 : decode cX5_can 6 = .ok (.iload 5, 2) := by decide +kernel
theorem dX5_can_8 : decode cX5_can 8 = .ok (.aload_n 0, 1) := by decide +kernel
theorem dX5_can_9 : decode cX5_can 9 = .ok (.getfield 71, 3) := by decide +kernel
theorem dX5_can_12 : decode cX5_can 12 = .ok (.if_icmp .ge 54, 3) := by decide +kernel
theorem dX5_can_15 : decode cX5_can 15 = .ok (.iload 4, 2) := by decide +kernel
theorem dX5_can_17 : decode cX5_can 17 = .ok (.ifCond .ne 36, 3) := by decide +kernel
theorem dX5_can_20 : decode cX5_can 20 = .ok (.aload_n 0, 1) := by decide +kernel
theorem dX5_can_21 : decode cX5_can 21 = .ok (.getfield 20, 3) := by decide +kernel
