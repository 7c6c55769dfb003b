theorem dX0_init_0 : decode cX0_init 0 = .ok (.aload_n 0, 1) := by decide +kernel
theorem dX0_init_1 : decode cX0_init 1 = .ok (.invokespecial 3, 3) := by decide +kernel
theorem dX0_init_4 : decode cX0_init 4 = .ok (.aload_n 0, 1) := by decide +kernel
theorem dX0_init_5 : decode cX0_init 5 = .ok (.sipush 300, 3) := by decide +kernel
theorem dX0_init_8 : decode cX0_init 8 = .ok (.newarray .boolean, 2) := by decide +kernel
theorem dX0_init_10 : decode cX0_init 10 = .ok (.putfield 9, 3) := by decide +kernel
theorem dX0_init_13 : decode cX0_init 13 = .ok (.aload_n 0, 1) := by decide +kernel
theorem dX0_init_14 : decode cX0_init 14 = .ok (.sipush 10800, 3) := by decide +kernel
theorem dX0_init_17 : decode cX0_init 17 = .ok (.newarray .int, 2) := by decide +kernel
theorem dX0_init_19 : decode cX0_init 19 = .ok (.putfield 15, 3) := by decide +kernel
theorem dX0_init_22 : decode cX0_init 22 = .ok (.return_, 1) := by decide +kernel
theorem dX0_wayFrom_0 : decode cX0_wayFrom 0 = .ok (.aload_n 0, 1) := by decide +kernel
theorem dX0_wayFrom_1 : decode cX0_wayFrom 1 = .ok (.getfield 15, 3) := by decide +kernel
theorem dX0_wayFrom_4 : decode cX0_wayFrom 4 = .ok (.iload_n 1, 1) := by decide +kernel
theorem dX0_wayFrom_5 : decode cX0_wayFrom 5 = .ok (.bipush 36, 2) := by decide +kernel
theorem dX0_wayFrom_7 : decode cX0_wayFrom 7 = .ok (.imul, 1) := by decide +kernel
theorem dX0_wayFrom_8 : decode cX0_wayFrom 8 = .ok (.iload_n 2, 1) := by decide +kernel
theorem dX0_wayFrom_9 : decode cX0_wayFrom 9 = .ok (.iadd, 1) := by decide +kernel
theorem dX0_wayFrom_10 : decode cX0_wayFrom 10 = .ok (.iaload, 1) := by decide +kernel
theorem dX0_wayFrom_11 : decode cX0_wayFrom 11 = .ok (.ireturn, 1) := by decide +kernel
theorem dX0_build_0 : decode cX0_build 0 = .ok (.aload_n 2, 1) := by decide +kernel
theorem dX0_build_1 : decode cX0_build 1 = .ok (.invokevirtual 19, 3) := by decide +kernel
theorem dX0_build_4 : decode cX0_build 4 = .ok (.aload_n 0, 1) := by decide +kernel
theorem dX0_build_5 : decode cX0_build 5 = .ok (.iconst 0, 1) := by decide +kernel
theorem dX0_build_6 : decode cX0_build 6 = .ok (.putfield 24, 3) := by decide +kernel
theorem dX0_build_9 : decode cX0_build 9 = .ok (.aload_n 0, 1) := by decide +kernel
theorem dX0_build_10 : decode cX0_build 10 = .ok (.iconst (-1), 1) := by decide +kernel
theorem dX0_build_11 : decode cX0_build 11 = .ok (.putfield 28, 3) := by decide +kernel
theorem dX0_build_14 : decode cX0_build 14 = .ok (.aload_n 0, 1) := by decide +kernel
theorem dX0_build_15 : decode cX0_build 15 = .ok (.iconst 1, 1) := by decide +kernel
theorem dX0_build_16 : decode cX0_build 16 = .ok (.putfield 32, 3) := by decide +kernel
theorem dX0_build_19 : decode cX0_build 19 = .ok (.aload_n 0, 1) := by decide +kernel
theorem dX0_build_20 : decode cX0_build 20 = .ok (.getfield 9, 3) := by decide +kernel
theorem dX0_build_23 : decode cX0_build 23 = .ok (.iconst 0, 1) := by decide +kernel
theorem dX0_build_24 : decode cX0_build 24 = .ok (.aload_n 1, 1) := by decide +kernel
theorem dX0_build_25 : decode cX0_build 25 = .ok (.getfield 35, 3) := by decide +kernel
theorem dX0_build_28 : decode cX0_build 28 = .ok (.bastore, 1) := by decide +kernel
theorem dX0_build_29 : decode cX0_build 29 = .ok (.aload_n 0, 1) := by decide +kernel
theorem dX0_build_30 : decode cX0_build 30 = .ok (.iconst 0, 1) := by decide +kernel
theorem dX0_build_31 : decode cX0_build 31 = .ok (.aload_n 1, 1) := by decide +kernel
theorem dX0_build_32 : decode cX0_build 32 = .ok (.getfield 40, 3) := by decide +kernel
theorem dX0_build_35 : decode cX0_build 35 = .ok (.aload_n 1, 1) := by decide +kernel
theorem dX0_build_36 : decode cX0_build 36 = .ok (.aload_n 2, 1) := by decide +kernel
theorem dX0_build_37 : decode cX0_build 37 = .ok (.invokevirtual 44, 3) := by decide +kernel
theorem dX0_build_40 : decode cX0_build 40 = .ok (.iconst 1, 1) := by decide +kernel
theorem dX0_build_41 : decode cX0_build 41 = .ok (.istore_n 3, 1) := by decide +kernel
theorem dX0_build_42 : decode cX0_build 42 = .ok (.iload_n 3, 1) := by decide +kernel
theorem dX0_build_43 : decode cX0_build 43 = .ok (.aload_n 0, 1) := by decide +kernel
theorem dX0_build_44 : decode cX0_build 44 = .ok (.getfield 32, 3) := by decide +kernel
theorem dX0_build_47 : decode cX0_build 47 = .ok (.if_icmp .ge 62, 3) := by decide +kernel
theorem dX0_build_50 : decode cX0_build 50 = .ok (.iload_n 3, 1) := by decide +kernel
theorem dX0_build_51 : decode cX0_build 51 = .ok (.sipush 300, 3) := by decide +kernel
theorem dX0_build_54 : decode cX0_build 54 = .ok (.if_icmp .ge 55, 3) := by decide +kernel
theorem dX0_build_57 : decode cX0_build 57 = .ok (.aload_n 2, 1) := by decide +kernel
theorem dX0_build_58 : decode cX0_build 58 = .ok (.getfield 48, 3) := by decide +kernel
theorem dX0_build_61 : decode cX0_build 61 = .ok (.iload_n 3, 1) := by decide +kernel
theorem dX0_build_62 : decode cX0_build 62 = .ok (.iconst 1, 1) := by decide +kernel
theorem dX0_build_63 : decode cX0_build 63 = .ok (.isub, 1) := by decide +kernel
theorem dX0_build_64 : decode cX0_build 64 = .ok (.laload, 1) := by decide +kernel
theorem dX0_build_65 : decode cX0_build 65 = .ok (.lstore 4, 2) := by decide +kernel
theorem dX0_build_67 : decode cX0_build 67 = .ok (.aload_n 0, 1) := by decide +kernel
theorem dX0_build_68 : decode cX0_build 68 = .ok (.getfield 9, 3) := by decide +kernel
theorem dX0_build_71 : decode cX0_build 71 = .ok (.iload_n 3, 1) := by decide +kernel
theorem dX0_build_72 : decode cX0_build 72 = .ok (.lload 4, 2) := by decide +kernel
theorem dX0_build_74 : decode cX0_build 74 = .ok (.aload_n 1, 1) := by decide +kernel
theorem dX0_build_75 : decode cX0_build 75 = .ok (.getfield 52, 3) := by decide +kernel
theorem dX0_build_78 : decode cX0_build 78 = .ok (.land, 1) := by decide +kernel
theorem dX0_build_79 : decode cX0_build 79 = .ok (.lconst 0, 1) := by decide +kernel
theorem dX0_build_80 : decode cX0_build 80 = .ok (.lcmp, 1) := by decide +kernel
theorem dX0_build_81 : decode cX0_build 81 = .ok (.ifCond .eq 7, 3) := by decide +kernel
theorem dX0_build_84 : decode cX0_build 84 = .ok (.iconst 1, 1) := by decide +kernel
theorem dX0_build_85 : decode cX0_build 85 = .ok (.goto 4, 3) := by decide +kernel
theorem dX0_build_88 : decode cX0_build 88 = .ok (.iconst 0, 1) := by decide +kernel
theorem dX0_build_89 : decode cX0_build 89 = .ok (.bastore, 1) := by decide +kernel
theorem dX0_build_90 : decode cX0_build 90 = .ok (.aload_n 0, 1) := by decide +kernel
theorem dX0_build_91 : decode cX0_build 91 = .ok (.iload_n 3, 1) := by decide +kernel
theorem dX0_build_92 : decode cX0_build 92 = .ok (.aload_n 1, 1) := by decide +kernel
theorem dX0_build_93 : decode cX0_build 93 = .ok (.lload 4, 2) := by decide +kernel
theorem dX0_build_95 : decode cX0_build 95 = .ok (.invokevirtual 55, 3) := by decide +kernel
theorem dX0_build_98 : decode cX0_build 98 = .ok (.aload_n 1, 1) := by decide +kernel
theorem dX0_build_99 : decode cX0_build 99 = .ok (.aload_n 2, 1) := by decide +kernel
theorem dX0_build_100 : decode cX0_build 100 = .ok (.invokevirtual 44, 3) := by decide +kernel
theorem dX0_build_103 : decode cX0_build 103 = .ok (.iinc 3 1, 3) := by decide +kernel
theorem dX0_build_106 : decode cX0_build 106 = .ok (.goto (-64), 3) := by decide +kernel
theorem dX0_build_109 : decode cX0_build 109 = .ok (.aload_n 0, 1) := by decide +kernel
theorem dX0_build_110 : decode cX0_build 110 = .ok (.iconst 1, 1) := by decide +kernel
theorem dX0_build_111 : decode cX0_build 111 = .ok (.putfield 59, 3) := by decide +kernel
theorem dX0_build_114 : decode cX0_build 114 = .ok (.return_, 1) := by decide +kernel
theorem dX0_layWays_0 : decode cX0_layWays 0 = .ok (.iconst 0, 1) := by decide +kernel
theorem dX0_layWays_1 : decode cX0_layWays 1 = .ok (.istore 6, 2) := by decide +kernel
theorem dX0_layWays_3 : decode cX0_layWays 3 = .ok (.iload 6, 2) := by decide +kernel
theorem dX0_layWays_5 : decode cX0_layWays 5 = .ok (.bipush 36, 2) := by decide +kernel
theorem dX0_layWays_7 : decode cX0_layWays 7 = .ok (.if_icmp .ge 77, 3) := by decide +kernel
theorem dX0_layWays_10 : decode cX0_layWays 10 = .ok (.aload 5, 2) := by decide +kernel
theorem dX0_layWays_12 : decode cX0_layWays 12 = .ok (.lload_n 2, 1) := by decide +kernel
theorem dX0_layWays_13 : decode cX0_layWays 13 = .ok (.aload 4, 2) := by decide +kernel
theorem dX0_layWays_15 : decode cX0_layWays 15 = .ok (.getfield 62, 3) := by decide +kernel
theorem dX0_layWays_18 : decode cX0_layWays 18 = .ok (.iload 6, 2) := by decide +kernel
theorem dX0_layWays_20 : decode cX0_layWays 20 = .ok (.laload, 1) := by decide +kernel
theorem dX0_layWays_21 : decode cX0_layWays 21 = .ok (.land, 1) := by decide +kernel
theorem dX0_layWays_22 : decode cX0_layWays 22 = .ok (.sipush 299, 3) := by decide +kernel
theorem dX0_layWays_25 : decode cX0_layWays 25 = .ok (.invokevirtual 65, 3) := by decide +kernel
theorem dX0_layWays_28 : decode cX0_layWays 28 = .ok (.istore 7, 2) := by decide +kernel
theorem dX0_layWays_30 : decode cX0_layWays 30 = .ok (.aload_n 0, 1) := by decide +kernel
theorem dX0_layWays_31 : decode cX0_layWays 31 = .ok (.getfield 15, 3) := by decide +kernel
theorem dX0_layWays_34 : decode cX0_layWays 34 = .ok (.iload_n 1, 1) := by decide +kernel
theorem dX0_layWays_35 : decode cX0_layWays 35 = .ok (.bipush 36, 2) := by decide +kernel
theorem dX0_layWays_37 : decode cX0_layWays 37 = .ok (.imul, 1) := by decide +kernel
theorem dX0_layWays_38 : decode cX0_layWays 38 = .ok (.iload 6, 2) := by decide +kernel
theorem dX0_layWays_40 : decode cX0_layWays 40 = .ok (.iadd, 1) := by decide +kernel
theorem dX0_layWays_41 : decode cX0_layWays 41 = .ok (.iload 7, 2) := by decide +kernel
theorem dX0_layWays_43 : decode cX0_layWays 43 = .ok (.iconst (-1), 1) := by decide +kernel
theorem dX0_layWays_44 : decode cX0_layWays 44 = .ok (.if_icmp .ne 7, 3) := by decide +kernel
theorem dX0_layWays_47 : decode cX0_layWays 47 = .ok (.iconst (-1), 1) := by decide +kernel
theorem dX0_layWays_48 : decode cX0_layWays 48 = .ok (.goto 7, 3) := by decide +kernel
theorem dX0_layWays_51 : decode cX0_layWays 51 = .ok (.iload 7, 2) := by decide +kernel
theorem dX0_layWays_53 : decode cX0_layWays 53 = .ok (.iconst 1, 1) := by decide +kernel
theorem dX0_layWays_54 : decode cX0_layWays 54 = .ok (.iadd, 1) := by decide +kernel
theorem dX0_layWays_55 : decode cX0_layWays 55 = .ok (.iastore, 1) := by decide +kernel
theorem dX0_layWays_56 : decode cX0_layWays 56 = .ok (.aload_n 0, 1) := by decide +kernel
theorem dX0_layWays_57 : decode cX0_layWays 57 = .ok (.aload_n 0, 1) := by decide +kernel
theorem dX0_layWays_58 : decode cX0_layWays 58 = .ok (.getfield 24, 3) := by decide +kernel
theorem dX0_layWays_61 : decode cX0_layWays 61 = .ok (.ifCond .ne 9, 3) := by decide +kernel
theorem dX0_layWays_64 : decode cX0_layWays 64 = .ok (.iload 7, 2) := by decide +kernel
theorem dX0_layWays_66 : decode cX0_layWays 66 = .ok (.iconst (-1), 1) := by decide +kernel
theorem dX0_layWays_67 : decode cX0_layWays 67 = .ok (.if_icmp .ne 7, 3) := by decide +kernel
theorem dX0_layWays_70 : decode cX0_layWays 70 = .ok (.iconst 1, 1) := by decide +kernel
theorem dX0_layWays_71 : decode cX0_layWays 71 = .ok (.goto 4, 3) := by decide +kernel
theorem dX0_layWays_74 : decode cX0_layWays 74 = .ok (.iconst 0, 1) := by decide +kernel
theorem dX0_layWays_75 : decode cX0_layWays 75 = .ok (.putfield 24, 3) := by decide +kernel
theorem dX0_layWays_78 : decode cX0_layWays 78 = .ok (.iinc 6 1, 3) := by decide +kernel
theorem dX0_layWays_81 : decode cX0_layWays 81 = .ok (.goto (-78), 3) := by decide +kernel
theorem dX0_layWays_84 : decode cX0_layWays 84 = .ok (.aload_n 0, 1) := by decide +kernel
theorem dX0_layWays_85 : decode cX0_layWays 85 = .ok (.aload 5, 2) := by decide +kernel
theorem dX0_layWays_87 : decode cX0_layWays 87 = .ok (.getfield 69, 3) := by decide +kernel
theorem dX0_layWays_90 : decode cX0_layWays 90 = .ok (.iconst 1, 1) := by decide +kernel
theorem dX0_layWays_91 : decode cX0_layWays 91 = .ok (.iadd, 1) := by decide +kernel
theorem dX0_layWays_92 : decode cX0_layWays 92 = .ok (.putfield 32, 3) := by decide +kernel
theorem dX0_layWays_95 : decode cX0_layWays 95 = .ok (.return_, 1) := by decide +kernel
theorem dX1_init_0 : decode cX1_init 0 = .ok (.aload_n 0, 1) := by decide +kernel
theorem dX1_init_1 : decode cX1_init 1 = .ok (.invokespecial 3, 3) := by decide +kernel
theorem dX1_init_4 : decode cX1_init 4 = .ok (.aload_n 0, 1) := by decide +kernel
theorem dX1_init_5 : decode cX1_init 5 = .ok (.sipush 600, 3) := by decide +kernel
theorem dX1_init_8 : decode cX1_init 8 = .ok (.newarray .int, 2) := by decide +kernel
theorem dX1_init_10 : decode cX1_init 10 = .ok (.putfield 11, 3) := by decide +kernel
theorem dX1_init_13 : decode cX1_init 13 = .ok (.aload_n 0, 1) := by decide +kernel
theorem dX1_init_14 : decode cX1_init 14 = .ok (.sipush 600, 3) := by decide +kernel
theorem dX1_init_17 : decode cX1_init 17 = .ok (.newarray .int, 2) := by decide +kernel
theorem dX1_init_19 : decode cX1_init 19 = .ok (.putfield 15, 3) := by decide +kernel
theorem dX1_init_22 : decode cX1_init 22 = .ok (.aload_n 0, 1) := by decide +kernel
theorem dX1_init_23 : decode cX1_init 23 = .ok (.sipush 600, 3) := by decide +kernel
theorem dX1_init_26 : decode cX1_init 26 = .ok (.newarray .int, 2) := by decide +kernel
theorem dX1_init_28 : decode cX1_init 28 = .ok (.putfield 18, 3) := by decide +kernel
theorem dX1_init_31 : decode cX1_init 31 = .ok (.aload_n 0, 1) := by decide +kernel
theorem dX1_init_32 : decode cX1_init 32 = .ok (.sipush 600, 3) := by decide +kernel
theorem dX1_init_35 : decode cX1_init 35 = .ok (.newarray .int, 2) := by decide +kernel
theorem dX1_init_37 : decode cX1_init 37 = .ok (.putfield 21, 3) := by decide +kernel
theorem dX1_init_40 : decode cX1_init 40 = .ok (.aload_n 0, 1) := by decide +kernel
theorem dX1_init_41 : decode cX1_init 41 = .ok (.sipush 600, 3) := by decide +kernel
theorem dX1_init_44 : decode cX1_init 44 = .ok (.newarray .int, 2) := by decide +kernel
theorem dX1_init_46 : decode cX1_init 46 = .ok (.putfield 24, 3) := by decide +kernel
theorem dX1_init_49 : decode cX1_init 49 = .ok (.aload_n 0, 1) := by decide +kernel
theorem dX1_init_50 : decode cX1_init 50 = .ok (.sipush 600, 3) := by decide +kernel
theorem dX1_init_53 : decode cX1_init 53 = .ok (.newarray .int, 2) := by decide +kernel
theorem dX1_init_55 : decode cX1_init 55 = .ok (.putfield 27, 3) := by decide +kernel
theorem dX1_init_58 : decode cX1_init 58 = .ok (.aload_n 0, 1) := by decide +kernel
theorem dX1_init_59 : decode cX1_init 59 = .ok (.sipush 600, 3) := by decide +kernel
theorem dX1_init_62 : decode cX1_init 62 = .ok (.newarray .int, 2) := by decide +kernel
theorem dX1_init_64 : decode cX1_init 64 = .ok (.putfield 30, 3) := by decide +kernel
theorem dX1_init_67 : decode cX1_init 67 = .ok (.return_, 1) := by decide +kernel
theorem dX1_compare_0 : decode cX1_compare 0 = .ok (.aload_n 0, 1) := by decide +kernel
theorem dX1_compare_1 : decode cX1_compare 1 = .ok (.iconst 0, 1) := by decide +kernel
theorem dX1_compare_2 : decode cX1_compare 2 = .ok (.putfield 33, 3) := by decide +kernel
theorem dX1_compare_5 : decode cX1_compare 5 = .ok (.aload_n 1, 1) := by decide +kernel
theorem dX1_compare_6 : decode cX1_compare 6 = .ok (.getfield 37, 3) := by decide +kernel
theorem dX1_compare_9 : decode cX1_compare 9 = .ok (.ifCond .ne 10, 3) := by decide +kernel
theorem dX1_compare_12 : decode cX1_compare 12 = .ok (.aload_n 2, 1) := by decide +kernel
theorem dX1_compare_13 : decode cX1_compare 13 = .ok (.getfield 37, 3) := by decide +kernel
theorem dX1_compare_16 : decode cX1_compare 16 = .ok (.ifCond .eq 6, 3) := by decide +kernel
theorem dX1_compare_19 : decode cX1_compare 19 = .ok (.bipush (-2), 2) := by decide +kernel
theorem dX1_compare_21 : decode cX1_compare 21 = .ok (.ireturn, 1) := by decide +kernel
theorem dX1_compare_22 : decode cX1_compare 22 = .ok (.aload_n 0, 1) := by decide +kernel
theorem dX1_compare_23 : decode cX1_compare 23 = .ok (.invokevirtual 43, 3) := by decide +kernel
theorem dX1_compare_26 : decode cX1_compare 26 = .ok (.aload_n 1, 1) := by decide +kernel
theorem dX1_compare_27 : decode cX1_compare 27 = .ok (.getfield 46, 3) := by decide +kernel
theorem dX1_compare_30 : decode cX1_compare 30 = .ok (.iconst 0, 1) := by decide +kernel
theorem dX1_compare_31 : decode cX1_compare 31 = .ok (.baload, 1) := by decide +kernel
theorem dX1_compare_32 : decode cX1_compare 32 = .ok (.aload_n 2, 1) := by decide +kernel
theorem dX1_compare_33 : decode cX1_compare 33 = .ok (.getfield 46, 3) := by decide +kernel
theorem dX1_compare_36 : decode cX1_compare 36 = .ok (.iconst 0, 1) := by decide +kernel
theorem dX1_compare_37 : decode cX1_compare 37 = .ok (.baload, 1) := by decide +kernel
theorem dX1_compare_38 : decode cX1_compare 38 = .ok (.if_icmp .eq 5, 3) := by decide +kernel
theorem dX1_compare_41 : decode cX1_compare 41 = .ok (.iconst 0, 1) := by decide +kernel
theorem dX1_compare_42 : decode cX1_compare 42 = .ok (.ireturn, 1) := by decide +kernel
theorem dX1_compare_43 : decode cX1_compare 43 = .ok (.iconst 0, 1) := by decide +kernel
theorem dX1_compare_44 : decode cX1_compare 44 = .ok (.istore_n 3, 1) := by decide +kernel
theorem dX1_compare_45 : decode cX1_compare 45 = .ok (.iload_n 3, 1) := by decide +kernel
theorem dX1_compare_46 : decode cX1_compare 46 = .ok (.aload_n 0, 1) := by decide +kernel
theorem dX1_compare_47 : decode cX1_compare 47 = .ok (.getfield 50, 3) := by decide +kernel
theorem dX1_compare_50 : decode cX1_compare 50 = .ok (.if_icmp .ge 41, 3) := by decide +kernel
theorem dX1_compare_53 : decode cX1_compare 53 = .ok (.iload_n 3, 1) := by decide +kernel
theorem dX1_compare_54 : decode cX1_compare 54 = .ok (.sipush 600, 3) := by decide +kernel
theorem dX1_compare_57 : decode cX1_compare 57 = .ok (.if_icmp .ge 34, 3) := by decide +kernel
theorem dX1_compare_60 : decode cX1_compare 60 = .ok (.aload_n 0, 1) := by decide +kernel
theorem dX1_compare_61 : decode cX1_compare 61 = .ok (.iload_n 3, 1) := by decide +kernel
theorem dX1_compare_62 : decode cX1_compare 62 = .ok (.aload_n 1, 1) := by decide +kernel
theorem dX1_compare_63 : decode cX1_compare 63 = .ok (.aload_n 2, 1) := by decide +kernel
theorem dX1_compare_64 : decode cX1_compare 64 = .ok (.invokevirtual 53, 3) := by decide +kernel
theorem dX1_compare_67 : decode cX1_compare 67 = .ok (.ifCond .eq 18, 3) := by decide +kernel
theorem dX1_compare_70 : decode cX1_compare 70 = .ok (.aload_n 0, 1) := by decide +kernel
theorem dX1_compare_71 : decode cX1_compare 71 = .ok (.aload_n 0, 1) := by decide +kernel
theorem dX1_compare_72 : decode cX1_compare 72 = .ok (.getfield 50, 3) := by decide +kernel
theorem dX1_compare_75 : decode cX1_compare 75 = .ok (.iconst 1, 1) := by decide +kernel
theorem dX1_compare_76 : decode cX1_compare 76 = .ok (.isub, 1) := by decide +kernel
theorem dX1_compare_77 : decode cX1_compare 77 = .ok (.invokevirtual 57, 3) := by decide +kernel
theorem dX1_compare_80 : decode cX1_compare 80 = .ok (.aload_n 0, 1) := by decide +kernel
theorem dX1_compare_81 : decode cX1_compare 81 = .ok (.getfield 33, 3) := by decide +kernel
theorem dX1_compare_84 : decode cX1_compare 84 = .ok (.ireturn, 1) := by decide +kernel
theorem dX1_compare_85 : decode cX1_compare 85 = .ok (.iinc 3 1, 3) := by decide +kernel
theorem dX1_compare_88 : decode cX1_compare 88 = .ok (.goto (-43), 3) := by decide +kernel
theorem dX1_compare_91 : decode cX1_compare 91 = .ok (.iconst (-1), 1) := by decide +kernel
theorem dX1_compare_92 : decode cX1_compare 92 = .ok (.ireturn, 1) := by decide +kernel
theorem dX1_begin_0 : decode cX1_begin 0 = .ok (.iconst 0, 1) := by decide +kernel
theorem dX1_begin_1 : decode cX1_begin 1 = .ok (.istore_n 1, 1) := by decide +kernel
theorem dX1_begin_2 : decode cX1_begin 2 = .ok (.iload_n 1, 1) := by decide +kernel
theorem dX1_begin_3 : decode cX1_begin 3 = .ok (.sipush 600, 3) := by decide +kernel
theorem dX1_begin_6 : decode cX1_begin 6 = .ok (.if_icmp .ge 16, 3) := by decide +kernel
theorem dX1_begin_9 : decode cX1_begin 9 = .ok (.aload_n 0, 1) := by decide +kernel
theorem dX1_begin_10 : decode cX1_begin 10 = .ok (.getfield 15, 3) := by decide +kernel
theorem dX1_begin_13 : decode cX1_begin 13 = .ok (.iload_n 1, 1) := by decide +kernel
theorem dX1_begin_14 : decode cX1_begin 14 = .ok (.iload_n 1, 1) := by decide +kernel
theorem dX1_begin_15 : decode cX1_begin 15 = .ok (.iastore, 1) := by decide +kernel
theorem dX1_begin_16 : decode cX1_begin 16 = .ok (.iinc 1 1, 3) := by decide +kernel
theorem dX1_begin_19 : decode cX1_begin 19 = .ok (.goto (-17), 3) := by decide +kernel
theorem dX1_begin_22 : decode cX1_begin 22 = .ok (.aload_n 0, 1) := by decide +kernel
theorem dX1_begin_23 : decode cX1_begin 23 = .ok (.iconst 0, 1) := by decide +kernel
theorem dX1_begin_24 : decode cX1_begin 24 = .ok (.putfield 50, 3) := by decide +kernel
theorem dX1_begin_27 : decode cX1_begin 27 = .ok (.aload_n 0, 1) := by decide +kernel
theorem dX1_begin_28 : decode cX1_begin 28 = .ok (.iconst 0, 1) := by decide +kernel
theorem dX1_begin_29 : decode cX1_begin 29 = .ok (.iconst 0, 1) := by decide +kernel
theorem dX1_begin_30 : decode cX1_begin 30 = .ok (.invokevirtual 61, 3) := by decide +kernel
theorem dX1_begin_33 : decode cX1_begin 33 = .ok (.aload_n 0, 1) := by decide +kernel
theorem dX1_begin_34 : decode cX1_begin 34 = .ok (.getfield 30, 3) := by decide +kernel
theorem dX1_begin_37 : decode cX1_begin 37 = .ok (.iconst 0, 1) := by decide +kernel
theorem dX1_begin_38 : decode cX1_begin 38 = .ok (.iconst 0, 1) := by decide +kernel
theorem dX1_begin_39 : decode cX1_begin 39 = .ok (.iastore, 1) := by decide +kernel
theorem dX1_begin_40 : decode cX1_begin 40 = .ok (.return_, 1) := by decide +kernel
theorem dX1_tellsApart_0 : decode cX1_tellsApart 0 = .ok (.iconst 0, 1) := by decide +kernel
theorem dX1_tellsApart_1 : decode cX1_tellsApart 1 = .ok (.istore 4, 2) := by decide +kernel
theorem dX1_tellsApart_3 : decode cX1_tellsApart 3 = .ok (.iload 4, 2) := by decide +kernel
theorem dX1_tellsApart_5 : decode cX1_tellsApart 5 = .ok (.bipush 36, 2) := by decide +kernel
theorem dX1_tellsApart_7 : decode cX1_tellsApart 7 = .ok (.if_icmp .ge 133, 3) := by decide +kernel
theorem dX1_tellsApart_10 : decode cX1_tellsApart 10 = .ok (.aload_n 2, 1) := by decide +kernel
theorem dX1_tellsApart_11 : decode cX1_tellsApart 11 = .ok (.aload_n 0, 1) := by decide +kernel
theorem dX1_tellsApart_12 : decode cX1_tellsApart 12 = .ok (.getfield 18, 3) := by decide +kernel
theorem dX1_tellsApart_15 : decode cX1_tellsApart 15 = .ok (.iload_n 1, 1) := by decide +kernel
theorem dX1_tellsApart_16 : decode cX1_tellsApart 16 = .ok (.iaload, 1) := by decide +kernel
theorem dX1_tellsApart_17 : decode cX1_tellsApart 17 = .ok (.iload 4, 2) := by decide +kernel
theorem dX1_tellsApart_19 : decode cX1_tellsApart 19 = .ok (.invokevirtual 65, 3) := by decide +kernel
theorem dX1_tellsApart_22 : decode cX1_tellsApart 22 = .ok (.istore 5, 2) := by decide +kernel
theorem dX1_tellsApart_24 : decode cX1_tellsApart 24 = .ok (.aload_n 3, 1) := by decide +kernel
theorem dX1_tellsApart_25 : decode cX1_tellsApart 25 = .ok (.aload_n 0, 1) := by decide +kernel
theorem dX1_tellsApart_26 : decode cX1_tellsApart 26 = .ok (.getfield 21, 3) := by decide +kernel
theorem dX1_tellsApart_29 : decode cX1_tellsApart 29 = .ok (.iload_n 1, 1) := by decide +kernel
theorem dX1_tellsApart_30 : decode cX1_tellsApart 30 = .ok (.iaload, 1) := by decide +kernel
theorem dX1_tellsApart_31 : decode cX1_tellsApart 31 = .ok (.iload 4, 2) := by decide +kernel
theorem dX1_tellsApart_33 : decode cX1_tellsApart 33 = .ok (.invokevirtual 65, 3) := by decide +kernel
theorem dX1_tellsApart_36 : decode cX1_tellsApart 36 = .ok (.istore 6, 2) := by decide +kernel
theorem dX1_tellsApart_38 : decode cX1_tellsApart 38 = .ok (.aload_n 0, 1) := by decide +kernel
theorem dX1_tellsApart_39 : decode cX1_tellsApart 39 = .ok (.getfield 15, 3) := by decide +kernel
theorem dX1_tellsApart_42 : decode cX1_tellsApart 42 = .ok (.iload 5, 2) := by decide +kernel
theorem dX1_tellsApart_44 : decode cX1_tellsApart 44 = .ok (.iaload, 1) := by decide +kernel
theorem dX1_tellsApart_45 : decode cX1_tellsApart 45 = .ok (.aload_n 0, 1) := by decide +kernel
theorem dX1_tellsApart_46 : decode cX1_tellsApart 46 = .ok (.getfield 15, 3) := by decide +kernel
theorem dX1_tellsApart_49 : decode cX1_tellsApart 49 = .ok (.sipush 300, 3) := by decide +kernel
theorem dX1_tellsApart_52 : decode cX1_tellsApart 52 = .ok (.iload 6, 2) := by decide +kernel
theorem dX1_tellsApart_54 : decode cX1_tellsApart 54 = .ok (.iadd, 1) := by decide +kernel
theorem dX1_tellsApart_55 : decode cX1_tellsApart 55 = .ok (.iaload, 1) := by decide +kernel
theorem dX1_tellsApart_56 : decode cX1_tellsApart 56 = .ok (.if_icmp .eq 78, 3) := by decide +kernel
theorem dX1_tellsApart_59 : decode cX1_tellsApart 59 = .ok (.aload_n 0, 1) := by decide +kernel
theorem dX1_tellsApart_60 : decode cX1_tellsApart 60 = .ok (.getfield 50, 3) := by decide +kernel
theorem dX1_tellsApart_63 : decode cX1_tellsApart 63 = .ok (.sipush 600, 3) := by decide +kernel
theorem dX1_tellsApart_66 : decode cX1_tellsApart 66 = .ok (.if_icmp .ge 68, 3) := by decide +kernel
theorem dX1_tellsApart_69 : decode cX1_tellsApart 69 = .ok (.aload_n 0, 1) := by decide +kernel
theorem dX1_tellsApart_70 : decode cX1_tellsApart 70 = .ok (.getfield 24, 3) := by decide +kernel
theorem dX1_tellsApart_73 : decode cX1_tellsApart 73 = .ok (.aload_n 0, 1) := by decide +kernel
theorem dX1_tellsApart_74 : decode cX1_tellsApart 74 = .ok (.getfield 50, 3) := by decide +kernel
theorem dX1_tellsApart_77 : decode cX1_tellsApart 77 = .ok (.iload_n 1, 1) := by decide +kernel
theorem dX1_tellsApart_78 : decode cX1_tellsApart 78 = .ok (.iastore, 1) := by decide +kernel
theorem dX1_tellsApart_79 : decode cX1_tellsApart 79 = .ok (.aload_n 0, 1) := by decide +kernel
theorem dX1_tellsApart_80 : decode cX1_tellsApart 80 = .ok (.getfield 27, 3) := by decide +kernel
theorem dX1_tellsApart_83 : decode cX1_tellsApart 83 = .ok (.aload_n 0, 1) := by decide +kernel
theorem dX1_tellsApart_84 : decode cX1_tellsApart 84 = .ok (.getfield 50, 3) := by decide +kernel
theorem dX1_tellsApart_87 : decode cX1_tellsApart 87 = .ok (.iload 4, 2) := by decide +kernel
theorem dX1_tellsApart_89 : decode cX1_tellsApart 89 = .ok (.iastore, 1) := by decide +kernel
theorem dX1_tellsApart_90 : decode cX1_tellsApart 90 = .ok (.aload_n 0, 1) := by decide +kernel
theorem dX1_tellsApart_91 : decode cX1_tellsApart 91 = .ok (.getfield 30, 3) := by decide +kernel
theorem dX1_tellsApart_94 : decode cX1_tellsApart 94 = .ok (.aload_n 0, 1) := by decide +kernel
theorem dX1_tellsApart_95 : decode cX1_tellsApart 95 = .ok (.getfield 50, 3) := by decide +kernel
theorem dX1_tellsApart_98 : decode cX1_tellsApart 98 = .ok (.aload_n 0, 1) := by decide +kernel
theorem dX1_tellsApart_99 : decode cX1_tellsApart 99 = .ok (.getfield 30, 3) := by decide +kernel
theorem dX1_tellsApart_102 : decode cX1_tellsApart 102 = .ok (.iload_n 1, 1) := by decide +kernel
theorem dX1_tellsApart_103 : decode cX1_tellsApart 103 = .ok (.iaload, 1) := by decide +kernel
theorem dX1_tellsApart_104 : decode cX1_tellsApart 104 = .ok (.iconst 1, 1) := by decide +kernel
theorem dX1_tellsApart_105 : decode cX1_tellsApart 105 = .ok (.iadd, 1) := by decide +kernel
theorem dX1_tellsApart_106 : decode cX1_tellsApart 106 = .ok (.iastore, 1) := by decide +kernel
theorem dX1_tellsApart_107 : decode cX1_tellsApart 107 = .ok (.aload_n 0, 1) := by decide +kernel
theorem dX1_tellsApart_108 : decode cX1_tellsApart 108 = .ok (.iload 5, 2) := by decide +kernel
theorem dX1_tellsApart_110 : decode cX1_tellsApart 110 = .ok (.iload 6, 2) := by decide +kernel
theorem dX1_tellsApart_112 : decode cX1_tellsApart 112 = .ok (.invokevirtual 61, 3) := by decide +kernel
theorem dX1_tellsApart_115 : decode cX1_tellsApart 115 = .ok (.aload_n 2, 1) := by decide +kernel
theorem dX1_tellsApart_116 : decode cX1_tellsApart 116 = .ok (.getfield 46, 3) := by decide +kernel
theorem dX1_tellsApart_119 : decode cX1_tellsApart 119 = .ok (.iload 5, 2) := by decide +kernel
theorem dX1_tellsApart_121 : decode cX1_tellsApart 121 = .ok (.baload, 1) := by decide +kernel
theorem dX1_tellsApart_122 : decode cX1_tellsApart 122 = .ok (.aload_n 3, 1) := by decide +kernel
theorem dX1_tellsApart_123 : decode cX1_tellsApart 123 = .ok (.getfield 46, 3) := by decide +kernel
theorem dX1_tellsApart_126 : decode cX1_tellsApart 126 = .ok (.iload 6, 2) := by decide +kernel
theorem dX1_tellsApart_128 : decode cX1_tellsApart 128 = .ok (.baload, 1) := by decide +kernel
theorem dX1_tellsApart_129 : decode cX1_tellsApart 129 = .ok (.if_icmp .eq 5, 3) := by decide +kernel
theorem dX1_tellsApart_132 : decode cX1_tellsApart 132 = .ok (.iconst 1, 1) := by decide +kernel
theorem dX1_tellsApart_133 : decode cX1_tellsApart 133 = .ok (.ireturn, 1) := by decide +kernel
theorem dX1_tellsApart_134 : decode cX1_tellsApart 134 = .ok (.iinc 4 1, 3) := by decide +kernel
theorem dX1_tellsApart_137 : decode cX1_tellsApart 137 = .ok (.goto (-134), 3) := by decide +kernel
theorem dX1_tellsApart_140 : decode cX1_tellsApart 140 = .ok (.iconst 0, 1) := by decide +kernel
theorem dX1_tellsApart_141 : decode cX1_tellsApart 141 = .ok (.ireturn, 1) := by decide +kernel
theorem dX1_join_0 : decode cX1_join 0 = .ok (.aload_n 0, 1) := by decide +kernel
theorem dX1_join_1 : decode cX1_join 1 = .ok (.getfield 18, 3) := by decide +kernel
theorem dX1_join_4 : decode cX1_join 4 = .ok (.aload_n 0, 1) := by decide +kernel
theorem dX1_join_5 : decode cX1_join 5 = .ok (.getfield 50, 3) := by decide +kernel
theorem dX1_join_8 : decode cX1_join 8 = .ok (.iload_n 1, 1) := by decide +kernel
theorem dX1_join_9 : decode cX1_join 9 = .ok (.iastore, 1) := by decide +kernel
theorem dX1_join_10 : decode cX1_join 10 = .ok (.aload_n 0, 1) := by decide +kernel
theorem dX1_join_11 : decode cX1_join 11 = .ok (.getfield 21, 3) := by decide +kernel
theorem dX1_join_14 : decode cX1_join 14 = .ok (.aload_n 0, 1) := by decide +kernel
theorem dX1_join_15 : decode cX1_join 15 = .ok (.getfield 50, 3) := by decide +kernel
theorem dX1_join_18 : decode cX1_join 18 = .ok (.iload_n 2, 1) := by decide +kernel
theorem dX1_join_19 : decode cX1_join 19 = .ok (.iastore, 1) := by decide +kernel
theorem dX1_join_20 : decode cX1_join 20 = .ok (.aload_n 0, 1) := by decide +kernel
theorem dX1_join_21 : decode cX1_join 21 = .ok (.dup, 1) := by decide +kernel
theorem dX1_join_22 : decode cX1_join 22 = .ok (.getfield 50, 3) := by decide +kernel
theorem dX1_join_25 : decode cX1_join 25 = .ok (.iconst 1, 1) := by decide +kernel
theorem dX1_join_26 : decode cX1_join 26 = .ok (.iadd, 1) := by decide +kernel
theorem dX1_join_27 : decode cX1_join 27 = .ok (.putfield 50, 3) := by decide +kernel
theorem dX1_join_30 : decode cX1_join 30 = .ok (.aload_n 0, 1) := by decide +kernel
theorem dX1_join_31 : decode cX1_join 31 = .ok (.getfield 15, 3) := by decide +kernel
theorem dX1_join_34 : decode cX1_join 34 = .ok (.sipush 300, 3) := by decide +kernel
theorem dX1_join_37 : decode cX1_join 37 = .ok (.iload_n 2, 1) := by decide +kernel
theorem dX1_join_38 : decode cX1_join 38 = .ok (.iadd, 1) := by decide +kernel
theorem dX1_join_39 : decode cX1_join 39 = .ok (.iaload, 1) := by decide +kernel
theorem dX1_join_40 : decode cX1_join 40 = .ok (.istore_n 3, 1) := by decide +kernel
theorem dX1_join_41 : decode cX1_join 41 = .ok (.aload_n 0, 1) := by decide +kernel
theorem dX1_join_42 : decode cX1_join 42 = .ok (.getfield 15, 3) := by decide +kernel
theorem dX1_join_45 : decode cX1_join 45 = .ok (.iload_n 1, 1) := by decide +kernel
theorem dX1_join_46 : decode cX1_join 46 = .ok (.iaload, 1) := by decide +kernel
theorem dX1_join_47 : decode cX1_join 47 = .ok (.istore 4, 2) := by decide +kernel
theorem dX1_join_49 : decode cX1_join 49 = .ok (.iconst 0, 1) := by decide +kernel
theorem dX1_join_50 : decode cX1_join 50 = .ok (.istore 5, 2) := by decide +kernel
theorem dX1_join_52 : decode cX1_join 52 = .ok (.iload 5, 2) := by decide +kernel
theorem dX1_join_54 : decode cX1_join 54 = .ok (.sipush 600, 3) := by decide +kernel
theorem dX1_join_57 : decode cX1_join 57 = .ok (.if_icmp .ge 29, 3) := by decide +kernel
theorem dX1_join_60 : decode cX1_join 60 = .ok (.aload_n 0, 1) := by decide +kernel
theorem dX1_join_61 : decode cX1_join 61 = .ok (.getfield 15, 3) := by decide +kernel
theorem dX1_join_64 : decode cX1_join 64 = .ok (.iload 5, 2) := by decide +kernel
theorem dX1_join_66 : decode cX1_join 66 = .ok (.iaload, 1) := by decide +kernel
theorem dX1_join_67 : decode cX1_join 67 = .ok (.iload_n 3, 1) := by decide +kernel
theorem dX1_join_68 : decode cX1_join 68 = .ok (.if_icmp .ne 12, 3) := by decide +kernel
theorem dX1_join_71 : decode cX1_join 71 = .ok (.aload_n 0, 1) := by decide +kernel
theorem dX1_join_72 : decode cX1_join 72 = .ok (.getfield 15, 3) := by decide +kernel
theorem dX1_join_75 : decode cX1_join 75 = .ok (.iload 5, 2) := by decide +kernel
theorem dX1_join_77 : decode cX1_join 77 = .ok (.iload 4, 2) := by decide +kernel
theorem dX1_join_79 : decode cX1_join 79 = .ok (.iastore, 1) := by decide +kernel
theorem dX1_join_80 : decode cX1_join 80 = .ok (.iinc 5 1, 3) := by decide +kernel
theorem dX1_join_83 : decode cX1_join 83 = .ok (.goto (-31), 3) := by decide +kernel
theorem dX1_join_86 : decode cX1_join 86 = .ok (.return_, 1) := by decide +kernel
theorem dX1_spell_0 : decode cX1_spell 0 = .ok (.aload_n 0, 1) := by decide +kernel
theorem dX1_spell_1 : decode cX1_spell 1 = .ok (.aload_n 0, 1) := by decide +kernel
theorem dX1_spell_2 : decode cX1_spell 2 = .ok (.getfield 30, 3) := by decide +kernel
theorem dX1_spell_5 : decode cX1_spell 5 = .ok (.iload_n 1, 1) := by decide +kernel
theorem dX1_spell_6 : decode cX1_spell 6 = .ok (.iaload, 1) := by decide +kernel
theorem dX1_spell_7 : decode cX1_spell 7 = .ok (.putfield 33, 3) := by decide +kernel
theorem dX1_spell_10 : decode cX1_spell 10 = .ok (.iload_n 1, 1) := by decide +kernel
theorem dX1_spell_11 : decode cX1_spell 11 = .ok (.istore_n 2, 1) := by decide +kernel
theorem dX1_spell_12 : decode cX1_spell 12 = .ok (.aload_n 0, 1) := by decide +kernel
theorem dX1_spell_13 : decode cX1_spell 13 = .ok (.getfield 33, 3) := by decide +kernel
theorem dX1_spell_16 : decode cX1_spell 16 = .ok (.iconst 1, 1) := by decide +kernel
theorem dX1_spell_17 : decode cX1_spell 17 = .ok (.isub, 1) := by decide +kernel
theorem dX1_spell_18 : decode cX1_spell 18 = .ok (.istore_n 3, 1) := by decide +kernel
theorem dX1_spell_19 : decode cX1_spell 19 = .ok (.iload_n 3, 1) := by decide +kernel
theorem dX1_spell_20 : decode cX1_spell 20 = .ok (.ifCond .lt 28, 3) := by decide +kernel
theorem dX1_spell_23 : decode cX1_spell 23 = .ok (.aload_n 0, 1) := by decide +kernel
theorem dX1_spell_24 : decode cX1_spell 24 = .ok (.getfield 11, 3) := by decide +kernel
theorem dX1_spell_27 : decode cX1_spell 27 = .ok (.iload_n 3, 1) := by decide +kernel
theorem dX1_spell_28 : decode cX1_spell 28 = .ok (.aload_n 0, 1) := by decide +kernel
theorem dX1_spell_29 : decode cX1_spell 29 = .ok (.getfield 27, 3) := by decide +kernel
theorem dX1_spell_32 : decode cX1_spell 32 = .ok (.iload_n 2, 1) := by decide +kernel
theorem dX1_spell_33 : decode cX1_spell 33 = .ok (.iaload, 1) := by decide +kernel
theorem dX1_spell_34 : decode cX1_spell 34 = .ok (.iastore, 1) := by decide +kernel
theorem dX1_spell_35 : decode cX1_spell 35 = .ok (.aload_n 0, 1) := by decide +kernel
theorem dX1_spell_36 : decode cX1_spell 36 = .ok (.getfield 24, 3) := by decide +kernel
theorem dX1_spell_39 : decode cX1_spell 39 = .ok (.iload_n 2, 1) := by decide +kernel
theorem dX1_spell_40 : decode cX1_spell 40 = .ok (.iaload, 1) := by decide +kernel
theorem dX1_spell_41 : decode cX1_spell 41 = .ok (.istore_n 2, 1) := by decide +kernel
theorem dX1_spell_42 : decode cX1_spell 42 = .ok (.iinc 3 (-1), 3) := by decide +kernel
theorem dX1_spell_45 : decode cX1_spell 45 = .ok (.goto (-26), 3) := by decide +kernel
theorem dX1_spell_48 : decode cX1_spell 48 = .ok (.return_, 1) := by decide +kernel
theorem dX2_init_0 : decode cX2_init 0 = .ok (.aload_n 0, 1) := by decide +kernel
theorem dX2_init_1 : decode cX2_init 1 = .ok (.invokespecial 3, 3) := by decide +kernel
theorem dX2_init_4 : decode cX2_init 4 = .ok (.aload_n 0, 1) := by decide +kernel
theorem dX2_init_5 : decode cX2_init 5 = .ok (.sipush 300, 3) := by decide +kernel
theorem dX2_init_8 : decode cX2_init 8 = .ok (.newarray .int, 2) := by decide +kernel
theorem dX2_init_10 : decode cX2_init 10 = .ok (.putfield 9, 3) := by decide +kernel
theorem dX2_init_13 : decode cX2_init 13 = .ok (.aload_n 0, 1) := by decide +kernel
theorem dX2_init_14 : decode cX2_init 14 = .ok (.sipush 300, 3) := by decide +kernel
theorem dX2_init_17 : decode cX2_init 17 = .ok (.newarray .int, 2) := by decide +kernel
theorem dX2_init_19 : decode cX2_init 19 = .ok (.putfield 15, 3) := by decide +kernel
theorem dX2_init_22 : decode cX2_init 22 = .ok (.return_, 1) := by decide +kernel
theorem dX2_countGroups_0 : decode cX2_countGroups 0 = .ok (.aload_n 0, 1) := by decide +kernel
theorem dX2_countGroups_1 : decode cX2_countGroups 1 = .ok (.aload_n 1, 1) := by decide +kernel
theorem dX2_countGroups_2 : decode cX2_countGroups 2 = .ok (.aload_n 2, 1) := by decide +kernel
theorem dX2_countGroups_3 : decode cX2_countGroups 3 = .ok (.invokevirtual 18, 3) := by decide +kernel
theorem dX2_countGroups_6 : decode cX2_countGroups 6 = .ok (.istore_n 3, 1) := by decide +kernel
theorem dX2_countGroups_7 : decode cX2_countGroups 7 = .ok (.iconst 0, 1) := by decide +kernel
theorem dX2_countGroups_8 : decode cX2_countGroups 8 = .ok (.istore 4, 2) := by decide +kernel
theorem dX2_countGroups_10 : decode cX2_countGroups 10 = .ok (.iload 4, 2) := by decide +kernel
theorem dX2_countGroups_12 : decode cX2_countGroups 12 = .ok (.aload_n 1, 1) := by decide +kernel
theorem dX2_countGroups_13 : decode cX2_countGroups 13 = .ok (.getfield 22, 3) := by decide +kernel
theorem dX2_countGroups_16 : decode cX2_countGroups 16 = .ok (.if_icmp .ge 46, 3) := by decide +kernel
theorem dX2_countGroups_19 : decode cX2_countGroups 19 = .ok (.iload_n 3, 1) := by decide +kernel
theorem dX2_countGroups_20 : decode cX2_countGroups 20 = .ok (.istore 5, 2) := by decide +kernel
theorem dX2_countGroups_22 : decode cX2_countGroups 22 = .ok (.iconst 0, 1) := by decide +kernel
theorem dX2_countGroups_23 : decode cX2_countGroups 23 = .ok (.istore 6, 2) := by decide +kernel
theorem dX2_countGroups_25 : decode cX2_countGroups 25 = .ok (.iload 6, 2) := by decide +kernel
theorem dX2_countGroups_27 : decode cX2_countGroups 27 = .ok (.bipush 36, 2) := by decide +kernel
theorem dX2_countGroups_29 : decode cX2_countGroups 29 = .ok (.if_icmp .ge 18, 3) := by decide +kernel
theorem dX2_countGroups_32 : decode cX2_countGroups 32 = .ok (.aload_n 0, 1) := by decide +kernel
theorem dX2_countGroups_33 : decode cX2_countGroups 33 = .ok (.aload_n 1, 1) := by decide +kernel
theorem dX2_countGroups_34 : decode cX2_countGroups 34 = .ok (.iload 6, 2) := by decide +kernel
theorem dX2_countGroups_36 : decode cX2_countGroups 36 = .ok (.aload_n 2, 1) := by decide +kernel
theorem dX2_countGroups_37 : decode cX2_countGroups 37 = .ok (.invokevirtual 28, 3) := by decide +kernel
theorem dX2_countGroups_40 : decode cX2_countGroups 40 = .ok (.istore_n 3, 1) := by decide +kernel
theorem dX2_countGroups_41 : decode cX2_countGroups 41 = .ok (.iinc 6 1, 3) := by decide +kernel
theorem dX2_countGroups_44 : decode cX2_countGroups 44 = .ok (.goto (-19), 3) := by decide +kernel
theorem dX2_countGroups_47 : decode cX2_countGroups 47 = .ok (.iload_n 3, 1) := by decide +kernel
theorem dX2_countGroups_48 : decode cX2_countGroups 48 = .ok (.iload 5, 2) := by decide +kernel
theorem dX2_countGroups_50 : decode cX2_countGroups 50 = .ok (.if_icmp .ne 6, 3) := by decide +kernel
theorem dX2_countGroups_53 : decode cX2_countGroups 53 = .ok (.goto 9, 3) := by decide +kernel
theorem dX2_countGroups_56 : decode cX2_countGroups 56 = .ok (.iinc 4 1, 3) := by decide +kernel
theorem dX2_countGroups_59 : decode cX2_countGroups 59 = .ok (.goto (-49), 3) := by decide +kernel
theorem dX2_countGroups_62 : decode cX2_countGroups 62 = .ok (.iload_n 3, 1) := by decide +kernel
theorem dX2_countGroups_63 : decode cX2_countGroups 63 = .ok (.ireturn, 1) := by decide +kernel
theorem dX2_groupByGood_0 : decode cX2_groupByGood 0 = .ok (.aload_n 2, 1) := by decide +kernel
theorem dX2_groupByGood_1 : decode cX2_groupByGood 1 = .ok (.invokevirtual 32, 3) := by decide +kernel
theorem dX2_groupByGood_4 : decode cX2_groupByGood 4 = .ok (.iconst 0, 1) := by decide +kernel
theorem dX2_groupByGood_5 : decode cX2_groupByGood 5 = .ok (.istore_n 3, 1) := by decide +kernel
theorem dX2_groupByGood_6 : decode cX2_groupByGood 6 = .ok (.iload_n 3, 1) := by decide +kernel
theorem dX2_groupByGood_7 : decode cX2_groupByGood 7 = .ok (.aload_n 1, 1) := by decide +kernel
theorem dX2_groupByGood_8 : decode cX2_groupByGood 8 = .ok (.getfield 22, 3) := by decide +kernel
theorem dX2_groupByGood_11 : decode cX2_groupByGood 11 = .ok (.if_icmp .ge 36, 3) := by decide +kernel
theorem dX2_groupByGood_14 : decode cX2_groupByGood 14 = .ok (.aload_n 0, 1) := by decide +kernel
theorem dX2_groupByGood_15 : decode cX2_groupByGood 15 = .ok (.getfield 9, 3) := by decide +kernel
theorem dX2_groupByGood_18 : decode cX2_groupByGood 18 = .ok (.iload_n 3, 1) := by decide +kernel
theorem dX2_groupByGood_19 : decode cX2_groupByGood 19 = .ok (.aload_n 2, 1) := by decide +kernel
theorem dX2_groupByGood_20 : decode cX2_groupByGood 20 = .ok (.aload_n 1, 1) := by decide +kernel
theorem dX2_groupByGood_21 : decode cX2_groupByGood 21 = .ok (.getfield 37, 3) := by decide +kernel
theorem dX2_groupByGood_24 : decode cX2_groupByGood 24 = .ok (.iload_n 3, 1) := by decide +kernel
theorem dX2_groupByGood_25 : decode cX2_groupByGood 25 = .ok (.baload, 1) := by decide +kernel
theorem dX2_groupByGood_26 : decode cX2_groupByGood 26 = .ok (.ifCond .eq 7, 3) := by decide +kernel
theorem dX2_groupByGood_29 : decode cX2_groupByGood 29 = .ok (.lconst 1, 1) := by decide +kernel
theorem dX2_groupByGood_30 : decode cX2_groupByGood 30 = .ok (.goto 4, 3) := by decide +kernel
theorem dX2_groupByGood_33 : decode cX2_groupByGood 33 = .ok (.lconst 0, 1) := by decide +kernel
theorem dX2_groupByGood_34 : decode cX2_groupByGood 34 = .ok (.sipush 300, 3) := by decide +kernel
theorem dX2_groupByGood_37 : decode cX2_groupByGood 37 = .ok (.invokevirtual 41, 3) := by decide +kernel
theorem dX2_groupByGood_40 : decode cX2_groupByGood 40 = .ok (.iastore, 1) := by decide +kernel
theorem dX2_groupByGood_41 : decode cX2_groupByGood 41 = .ok (.iinc 3 1, 3) := by decide +kernel
theorem dX2_groupByGood_44 : decode cX2_groupByGood 44 = .ok (.goto (-38), 3) := by decide +kernel
theorem dX2_groupByGood_47 : decode cX2_groupByGood 47 = .ok (.aload_n 2, 1) := by decide +kernel
theorem dX2_groupByGood_48 : decode cX2_groupByGood 48 = .ok (.getfield 45, 3) := by decide +kernel
theorem dX2_groupByGood_51 : decode cX2_groupByGood 51 = .ok (.ireturn, 1) := by decide +kernel
theorem dX2_groupByWay_0 : decode cX2_groupByWay 0 = .ok (.aload_n 3, 1) := by decide +kernel
theorem dX2_groupByWay_1 : decode cX2_groupByWay 1 = .ok (.invokevirtual 32, 3) := by decide +kernel
theorem dX2_groupByWay_4 : decode cX2_groupByWay 4 = .ok (.iconst 0, 1) := by decide +kernel
theorem dX2_groupByWay_5 : decode cX2_groupByWay 5 = .ok (.istore 4, 2) := by decide +kernel
theorem dX2_groupByWay_7 : decode cX2_groupByWay 7 = .ok (.iload 4, 2) := by decide +kernel
theorem dX2_groupByWay_9 : decode cX2_groupByWay 9 = .ok (.aload_n 1, 1) := by decide +kernel
theorem dX2_groupByWay_10 : decode cX2_groupByWay 10 = .ok (.getfield 22, 3) := by decide +kernel
theorem dX2_groupByWay_13 : decode cX2_groupByWay 13 = .ok (.if_icmp .ge 53, 3) := by decide +kernel
theorem dX2_groupByWay_16 : decode cX2_groupByWay 16 = .ok (.aload_n 0, 1) := by decide +kernel
theorem dX2_groupByWay_17 : decode cX2_groupByWay 17 = .ok (.getfield 9, 3) := by decide +kernel
theorem dX2_groupByWay_20 : decode cX2_groupByWay 20 = .ok (.aload_n 1, 1) := by decide +kernel
theorem dX2_groupByWay_21 : decode cX2_groupByWay 21 = .ok (.iload 4, 2) := by decide +kernel
theorem dX2_groupByWay_23 : decode cX2_groupByWay 23 = .ok (.iload_n 2, 1) := by decide +kernel
theorem dX2_groupByWay_24 : decode cX2_groupByWay 24 = .ok (.invokevirtual 46, 3) := by decide +kernel
theorem dX2_groupByWay_27 : decode cX2_groupByWay 27 = .ok (.iaload, 1) := by decide +kernel
theorem dX2_groupByWay_28 : decode cX2_groupByWay 28 = .ok (.i2l, 1) := by decide +kernel
theorem dX2_groupByWay_29 : decode cX2_groupByWay 29 = .ok (.lstore 5, 2) := by decide +kernel
theorem dX2_groupByWay_31 : decode cX2_groupByWay 31 = .ok (.aload_n 0, 1) := by decide +kernel
theorem dX2_groupByWay_32 : decode cX2_groupByWay 32 = .ok (.getfield 15, 3) := by decide +kernel
theorem dX2_groupByWay_35 : decode cX2_groupByWay 35 = .ok (.iload 4, 2) := by decide +kernel
theorem dX2_groupByWay_37 : decode cX2_groupByWay 37 = .ok (.aload_n 3, 1) := by decide +kernel
theorem dX2_groupByWay_38 : decode cX2_groupByWay 38 = .ok (.aload_n 0, 1) := by decide +kernel
theorem dX2_groupByWay_39 : decode cX2_groupByWay 39 = .ok (.getfield 9, 3) := by decide +kernel
theorem dX2_groupByWay_42 : decode cX2_groupByWay 42 = .ok (.iload 4, 2) := by decide +kernel
theorem dX2_groupByWay_44 : decode cX2_groupByWay 44 = .ok (.iaload, 1) := by decide +kernel
theorem dX2_groupByWay_45 : decode cX2_groupByWay 45 = .ok (.i2l, 1) := by decide +kernel
theorem dX2_groupByWay_46 : decode cX2_groupByWay 46 = .ok (.ldc2_w 50, 3) := by decide +kernel
theorem dX2_groupByWay_49 : decode cX2_groupByWay 49 = .ok (.lmul, 1) := by decide +kernel
theorem dX2_groupByWay_50 : decode cX2_groupByWay 50 = .ok (.lload 5, 2) := by decide +kernel
theorem dX2_groupByWay_52 : decode cX2_groupByWay 52 = .ok (.ladd, 1) := by decide +kernel
theorem dX2_groupByWay_53 : decode cX2_groupByWay 53 = .ok (.sipush 300, 3) := by decide +kernel
theorem dX2_groupByWay_56 : decode cX2_groupByWay 56 = .ok (.invokevirtual 41, 3) := by decide +kernel
theorem dX2_groupByWay_59 : decode cX2_groupByWay 59 = .ok (.iastore, 1) := by decide +kernel
theorem dX2_groupByWay_60 : decode cX2_groupByWay 60 = .ok (.iinc 4 1, 3) := by decide +kernel
theorem dX2_groupByWay_63 : decode cX2_groupByWay 63 = .ok (.goto (-56), 3) := by decide +kernel
theorem dX2_groupByWay_66 : decode cX2_groupByWay 66 = .ok (.aload_n 0, 1) := by decide +kernel
theorem dX2_groupByWay_67 : decode cX2_groupByWay 67 = .ok (.getfield 15, 3) := by decide +kernel
theorem dX2_groupByWay_70 : decode cX2_groupByWay 70 = .ok (.iconst 0, 1) := by decide +kernel
theorem dX2_groupByWay_71 : decode cX2_groupByWay 71 = .ok (.aload_n 0, 1) := by decide +kernel
theorem dX2_groupByWay_72 : decode cX2_groupByWay 72 = .ok (.getfield 9, 3) := by decide +kernel
theorem dX2_groupByWay_75 : decode cX2_groupByWay 75 = .ok (.iconst 0, 1) := by decide +kernel
theorem dX2_groupByWay_76 : decode cX2_groupByWay 76 = .ok (.aload_n 1, 1) := by decide +kernel
theorem dX2_groupByWay_77 : decode cX2_groupByWay 77 = .ok (.getfield 22, 3) := by decide +kernel
theorem dX2_groupByWay_80 : decode cX2_groupByWay 80 = .ok (.invokestatic 52, 3) := by decide +kernel
theorem dX2_groupByWay_83 : decode cX2_groupByWay 83 = .ok (.aload_n 3, 1) := by decide +kernel
theorem dX2_groupByWay_84 : decode cX2_groupByWay 84 = .ok (.getfield 45, 3) := by decide +kernel
theorem dX2_groupByWay_87 : decode cX2_groupByWay 87 = .ok (.ireturn, 1) := by decide +kernel
theorem dX3_init_0 : decode cX3_init 0 = .ok (.aload_n 0, 1) := by decide +kernel
theorem dX3_init_1 : decode cX3_init 1 = .ok (.invokespecial 3, 3) := by decide +kernel
theorem dX3_init_4 : decode cX3_init 4 = .ok (.aload_n 0, 1) := by decide +kernel
theorem dX3_init_5 : decode cX3_init 5 = .ok (.new 9, 3) := by decide +kernel
theorem dX3_init_8 : decode cX3_init 8 = .ok (.dup, 1) := by decide +kernel
theorem dX3_init_9 : decode cX3_init 9 = .ok (.invokespecial 11, 3) := by decide +kernel
theorem dX3_init_12 : decode cX3_init 12 = .ok (.putfield 12, 3) := by decide +kernel
theorem dX3_init_15 : decode cX3_init 15 = .ok (.aload_n 0, 1) := by decide +kernel
theorem dX3_init_16 : decode cX3_init 16 = .ok (.new 9, 3) := by decide +kernel
theorem dX3_init_19 : decode cX3_init 19 = .ok (.dup, 1) := by decide +kernel
theorem dX3_init_20 : decode cX3_init 20 = .ok (.invokespecial 11, 3) := by decide +kernel
theorem dX3_init_23 : decode cX3_init 23 = .ok (.putfield 18, 3) := by decide +kernel
theorem dX3_init_26 : decode cX3_init 26 = .ok (.aload_n 0, 1) := by decide +kernel
theorem dX3_init_27 : decode cX3_init 27 = .ok (.bipush 9, 2) := by decide +kernel
theorem dX3_init_29 : decode cX3_init 29 = .ok (.anewarray 9, 3) := by decide +kernel
theorem dX3_init_32 : decode cX3_init 32 = .ok (.putfield 21, 3) := by decide +kernel
theorem dX3_init_35 : decode cX3_init 35 = .ok (.aload_n 0, 1) := by decide +kernel
theorem dX3_init_36 : decode cX3_init 36 = .ok (.bipush 9, 2) := by decide +kernel
theorem dX3_init_38 : decode cX3_init 38 = .ok (.anewarray 9, 3) := by decide +kernel
theorem dX3_init_41 : decode cX3_init 41 = .ok (.putfield 25, 3) := by decide +kernel
theorem dX3_init_44 : decode cX3_init 44 = .ok (.iconst 0, 1) := by decide +kernel
theorem dX3_init_45 : decode cX3_init 45 = .ok (.istore_n 1, 1) := by decide +kernel
theorem dX3_init_46 : decode cX3_init 46 = .ok (.iload_n 1, 1) := by decide +kernel
theorem dX3_init_47 : decode cX3_init 47 = .ok (.bipush 8, 2) := by decide +kernel
theorem dX3_init_49 : decode cX3_init 49 = .ok (.if_icmp .gt 35, 3) := by decide +kernel
theorem dX3_init_52 : decode cX3_init 52 = .ok (.aload_n 0, 1) := by decide +kernel
theorem dX3_init_53 : decode cX3_init 53 = .ok (.getfield 21, 3) := by decide +kernel
theorem dX3_init_56 : decode cX3_init 56 = .ok (.iload_n 1, 1) := by decide +kernel
theorem dX3_init_57 : decode cX3_init 57 = .ok (.new 9, 3) := by decide +kernel
theorem dX3_init_60 : decode cX3_init 60 = .ok (.dup, 1) := by decide +kernel
theorem dX3_init_61 : decode cX3_init 61 = .ok (.invokespecial 11, 3) := by decide +kernel
theorem dX3_init_64 : decode cX3_init 64 = .ok (.aastore, 1) := by decide +kernel
theorem dX3_init_65 : decode cX3_init 65 = .ok (.aload_n 0, 1) := by decide +kernel
theorem dX3_init_66 : decode cX3_init 66 = .ok (.getfield 25, 3) := by decide +kernel
theorem dX3_init_69 : decode cX3_init 69 = .ok (.iload_n 1, 1) := by decide +kernel
theorem dX3_init_70 : decode cX3_init 70 = .ok (.new 9, 3) := by decide +kernel
theorem dX3_init_73 : decode cX3_init 73 = .ok (.dup, 1) := by decide +kernel
theorem dX3_init_74 : decode cX3_init 74 = .ok (.invokespecial 11, 3) := by decide +kernel
theorem dX3_init_77 : decode cX3_init 77 = .ok (.aastore, 1) := by decide +kernel
theorem dX3_init_78 : decode cX3_init 78 = .ok (.iinc 1 1, 3) := by decide +kernel
theorem dX3_init_81 : decode cX3_init 81 = .ok (.goto (-35), 3) := by decide +kernel
theorem dX3_init_84 : decode cX3_init 84 = .ok (.return_, 1) := by decide +kernel
theorem dX3_begin_0 : decode cX3_begin 0 = .ok (.aload_n 0, 1) := by decide +kernel
theorem dX3_begin_1 : decode cX3_begin 1 = .ok (.aload_n 1, 1) := by decide +kernel
theorem dX3_begin_2 : decode cX3_begin 2 = .ok (.putfield 28, 3) := by decide +kernel
theorem dX3_begin_5 : decode cX3_begin 5 = .ok (.aload_n 0, 1) := by decide +kernel
theorem dX3_begin_6 : decode cX3_begin 6 = .ok (.getfield 28, 3) := by decide +kernel
theorem dX3_begin_9 : decode cX3_begin 9 = .ok (.invokevirtual 32, 3) := by decide +kernel
theorem dX3_begin_12 : decode cX3_begin 12 = .ok (.aload_n 0, 1) := by decide +kernel
theorem dX3_begin_13 : decode cX3_begin 13 = .ok (.iconst 0, 1) := by decide +kernel
theorem dX3_begin_14 : decode cX3_begin 14 = .ok (.putfield 37, 3) := by decide +kernel
theorem dX3_begin_17 : decode cX3_begin 17 = .ok (.aload_n 0, 1) := by decide +kernel
theorem dX3_begin_18 : decode cX3_begin 18 = .ok (.invokevirtual 41, 3) := by decide +kernel
theorem dX3_begin_21 : decode cX3_begin 21 = .ok (.return_, 1) := by decide +kernel
theorem dX3_beginChoices_0 : decode cX3_beginChoices 0 = .ok (.aload_n 0, 1) := by decide +kernel
theorem dX3_beginChoices_1 : decode cX3_beginChoices 1 = .ok (.getfield 25, 3) := by decide +kernel
theorem dX3_beginChoices_4 : decode cX3_beginChoices 4 = .ok (.aload_n 0, 1) := by decide +kernel
theorem dX3_beginChoices_5 : decode cX3_beginChoices 5 = .ok (.getfield 37, 3) := by decide +kernel
theorem dX3_beginChoices_8 : decode cX3_beginChoices 8 = .ok (.aaload, 1) := by decide +kernel
theorem dX3_beginChoices_9 : decode cX3_beginChoices 9 = .ok (.aload_n 0, 1) := by decide +kernel
theorem dX3_beginChoices_10 : decode cX3_beginChoices 10 = .ok (.getfield 28, 3) := by decide +kernel
theorem dX3_beginChoices_13 : decode cX3_beginChoices 13 = .ok (.getfield 44, 3) := by decide +kernel
theorem dX3_beginChoices_16 : decode cX3_beginChoices 16 = .ok (.iconst 0, 1) := by decide +kernel
theorem dX3_beginChoices_17 : decode cX3_beginChoices 17 = .ok (.lconst 0, 1) := by decide +kernel
theorem dX3_beginChoices_18 : decode cX3_beginChoices 18 = .ok (.lconst 0, 1) := by decide +kernel
theorem dX3_beginChoices_19 : decode cX3_beginChoices 19 = .ok (.invokevirtual 47, 3) := by decide +kernel
theorem dX3_beginChoices_22 : decode cX3_beginChoices 22 = .ok (.aload_n 0, 1) := by decide +kernel
theorem dX3_beginChoices_23 : decode cX3_beginChoices 23 = .ok (.invokevirtual 51, 3) := by decide +kernel
theorem dX3_beginChoices_26 : decode cX3_beginChoices 26 = .ok (.return_, 1) := by decide +kernel
theorem dX3_beginRow_0 : decode cX3_beginRow 0 = .ok (.aload_n 0, 1) := by decide +kernel
theorem dX3_beginRow_1 : decode cX3_beginRow 1 = .ok (.getfield 21, 3) := by decide +kernel
theorem dX3_beginRow_4 : decode cX3_beginRow 4 = .ok (.aload_n 0, 1) := by decide +kernel
theorem dX3_beginRow_5 : decode cX3_beginRow 5 = .ok (.getfield 37, 3) := by decide +kernel
theorem dX3_beginRow_8 : decode cX3_beginRow 8 = .ok (.aaload, 1) := by decide +kernel
theorem dX3_beginRow_9 : decode cX3_beginRow 9 = .ok (.aload_n 0, 1) := by decide +kernel
theorem dX3_beginRow_10 : decode cX3_beginRow 10 = .ok (.getfield 28, 3) := by decide +kernel
theorem dX3_beginRow_13 : decode cX3_beginRow 13 = .ok (.getfield 44, 3) := by decide +kernel
theorem dX3_beginRow_16 : decode cX3_beginRow 16 = .ok (.iconst 1, 1) := by decide +kernel
theorem dX3_beginRow_17 : decode cX3_beginRow 17 = .ok (.lconst 0, 1) := by decide +kernel
theorem dX3_beginRow_18 : decode cX3_beginRow 18 = .ok (.lconst 0, 1) := by decide +kernel
theorem dX3_beginRow_19 : decode cX3_beginRow 19 = .ok (.invokevirtual 47, 3) := by decide +kernel
theorem dX3_beginRow_22 : decode cX3_beginRow 22 = .ok (.aload_n 0, 1) := by decide +kernel
theorem dX3_beginRow_23 : decode cX3_beginRow 23 = .ok (.iconst 0, 1) := by decide +kernel
theorem dX3_beginRow_24 : decode cX3_beginRow 24 = .ok (.putfield 54, 3) := by decide +kernel
theorem dX3_beginRow_27 : decode cX3_beginRow 27 = .ok (.return_, 1) := by decide +kernel
theorem dX3_endPart_0 : decode cX3_endPart 0 = .ok (.aload_n 0, 1) := by decide +kernel
theorem dX3_endPart_1 : decode cX3_endPart 1 = .ok (.getfield 54, 3) := by decide +kernel
theorem dX3_endPart_4 : decode cX3_endPart 4 = .ok (.ifCond .eq 23, 3) := by decide +kernel
theorem dX3_endPart_7 : decode cX3_endPart 7 = .ok (.aload_n 0, 1) := by decide +kernel
theorem dX3_endPart_8 : decode cX3_endPart 8 = .ok (.getfield 21, 3) := by decide +kernel
theorem dX3_endPart_11 : decode cX3_endPart 11 = .ok (.aload_n 0, 1) := by decide +kernel
theorem dX3_endPart_12 : decode cX3_endPart 12 = .ok (.getfield 37, 3) := by decide +kernel
theorem dX3_endPart_15 : decode cX3_endPart 15 = .ok (.aaload, 1) := by decide +kernel
theorem dX3_endPart_16 : decode cX3_endPart 16 = .ok (.aload_n 0, 1) := by decide +kernel
theorem dX3_endPart_17 : decode cX3_endPart 17 = .ok (.getfield 12, 3) := by decide +kernel
theorem dX3_endPart_20 : decode cX3_endPart 20 = .ok (.aload_n 0, 1) := by decide +kernel
theorem dX3_endPart_21 : decode cX3_endPart 21 = .ok (.getfield 28, 3) := by decide +kernel
theorem dX3_endPart_24 : decode cX3_endPart 24 = .ok (.invokevirtual 58, 3) := by decide +kernel
theorem dX3_endPart_27 : decode cX3_endPart 27 = .ok (.return_, 1) := by decide +kernel
theorem dX3_endRow_0 : decode cX3_endRow 0 = .ok (.aload_n 0, 1) := by decide +kernel
theorem dX3_endRow_1 : decode cX3_endRow 1 = .ok (.invokevirtual 62, 3) := by decide +kernel
theorem dX3_endRow_4 : decode cX3_endRow 4 = .ok (.aload_n 0, 1) := by decide +kernel
theorem dX3_endRow_5 : decode cX3_endRow 5 = .ok (.getfield 25, 3) := by decide +kernel
theorem dX3_endRow_8 : decode cX3_endRow 8 = .ok (.aload_n 0, 1) := by decide +kernel
theorem dX3_endRow_9 : decode cX3_endRow 9 = .ok (.getfield 37, 3) := by decide +kernel
theorem dX3_endRow_12 : decode cX3_endRow 12 = .ok (.aaload, 1) := by decide +kernel
theorem dX3_endRow_13 : decode cX3_endRow 13 = .ok (.aload_n 0, 1) := by decide +kernel
theorem dX3_endRow_14 : decode cX3_endRow 14 = .ok (.getfield 21, 3) := by decide +kernel
theorem dX3_endRow_17 : decode cX3_endRow 17 = .ok (.aload_n 0, 1) := by decide +kernel
theorem dX3_endRow_18 : decode cX3_endRow 18 = .ok (.getfield 37, 3) := by decide +kernel
theorem dX3_endRow_21 : decode cX3_endRow 21 = .ok (.aaload, 1) := by decide +kernel
theorem dX3_endRow_22 : decode cX3_endRow 22 = .ok (.invokevirtual 65, 3) := by decide +kernel
theorem dX3_endRow_25 : decode cX3_endRow 25 = .ok (.aload_n 0, 1) := by decide +kernel
theorem dX3_endRow_26 : decode cX3_endRow 26 = .ok (.invokevirtual 51, 3) := by decide +kernel
theorem dX3_endRow_29 : decode cX3_endRow 29 = .ok (.return_, 1) := by decide +kernel
theorem dX3_addAtom_0 : decode cX3_addAtom 0 = .ok (.aload_n 0, 1) := by decide +kernel
theorem dX3_addAtom_1 : decode cX3_addAtom 1 = .ok (.getfield 28, 3) := by decide +kernel
theorem dX3_addAtom_4 : decode cX3_addAtom 4 = .ok (.getfield 44, 3) := by decide +kernel
theorem dX3_addAtom_7 : decode cX3_addAtom 7 = .ok (.bipush 60, 2) := by decide +kernel
theorem dX3_addAtom_9 : decode cX3_addAtom 9 = .ok (.if_icmp .lt 5, 3) := by decide +kernel
theorem dX3_addAtom_12 : decode cX3_addAtom 12 = .ok (.iconst 0, 1) := by decide +kernel
theorem dX3_addAtom_13 : decode cX3_addAtom 13 = .ok (.ireturn, 1) := by decide +kernel
theorem dX3_addAtom_14 : decode cX3_addAtom 14 = .ok (.aload_n 0, 1) := by decide +kernel
theorem dX3_addAtom_15 : decode cX3_addAtom 15 = .ok (.invokevirtual 62, 3) := by decide +kernel
theorem dX3_addAtom_18 : decode cX3_addAtom 18 = .ok (.lconst 1, 1) := by decide +kernel
theorem dX3_addAtom_19 : decode cX3_addAtom 19 = .ok (.aload_n 0, 1) := by decide +kernel
theorem dX3_addAtom_20 : decode cX3_addAtom 20 = .ok (.getfield 28, 3) := by decide +kernel
theorem dX3_addAtom_23 : decode cX3_addAtom 23 = .ok (.getfield 44, 3) := by decide +kernel
theorem dX3_addAtom_26 : decode cX3_addAtom 26 = .ok (.lshl, 1) := by decide +kernel
theorem dX3_addAtom_27 : decode cX3_addAtom 27 = .ok (.lstore_n 3, 1) := by decide +kernel
theorem dX3_addAtom_28 : decode cX3_addAtom 28 = .ok (.aload_n 0, 1) := by decide +kernel
theorem dX3_addAtom_29 : decode cX3_addAtom 29 = .ok (.getfield 12, 3) := by decide +kernel
theorem dX3_addAtom_32 : decode cX3_addAtom 32 = .ok (.aload_n 0, 1) := by decide +kernel
theorem dX3_addAtom_33 : decode cX3_addAtom 33 = .ok (.getfield 28, 3) := by decide +kernel
theorem dX3_addAtom_36 : decode cX3_addAtom 36 = .ok (.getfield 44, 3) := by decide +kernel
theorem dX3_addAtom_39 : decode cX3_addAtom 39 = .ok (.iconst 0, 1) := by decide +kernel
theorem dX3_addAtom_40 : decode cX3_addAtom 40 = .ok (.lload_n 3, 1) := by decide +kernel
theorem dX3_addAtom_41 : decode cX3_addAtom 41 = .ok (.lload_n 3, 1) := by decide +kernel
theorem dX3_addAtom_42 : decode cX3_addAtom 42 = .ok (.invokevirtual 47, 3) := by decide +kernel
theorem dX3_addAtom_45 : decode cX3_addAtom 45 = .ok (.aload_n 0, 1) := by decide +kernel
theorem dX3_addAtom_46 : decode cX3_addAtom 46 = .ok (.getfield 28, 3) := by decide +kernel
theorem dX3_addAtom_49 : decode cX3_addAtom 49 = .ok (.lload_n 1, 1) := by decide +kernel
theorem dX3_addAtom_50 : decode cX3_addAtom 50 = .ok (.invokevirtual 69, 3) := by decide +kernel
theorem dX3_addAtom_53 : decode cX3_addAtom 53 = .ok (.aload_n 0, 1) := by decide +kernel
theorem dX3_addAtom_54 : decode cX3_addAtom 54 = .ok (.iconst 1, 1) := by decide +kernel
theorem dX3_addAtom_55 : decode cX3_addAtom 55 = .ok (.putfield 54, 3) := by decide +kernel
theorem dX3_addAtom_58 : decode cX3_addAtom 58 = .ok (.iconst 1, 1) := by decide +kernel
theorem dX3_addAtom_59 : decode cX3_addAtom 59 = .ok (.ireturn, 1) := by decide +kernel
theorem dX3_openBracket_0 : decode cX3_openBracket 0 = .ok (.aload_n 0, 1) := by decide +kernel
theorem dX3_openBracket_1 : decode cX3_openBracket 1 = .ok (.getfield 37, 3) := by decide +kernel
theorem dX3_openBracket_4 : decode cX3_openBracket 4 = .ok (.bipush 8, 2) := by decide +kernel
theorem dX3_openBracket_6 : decode cX3_openBracket 6 = .ok (.if_icmp .lt 5, 3) := by decide +kernel
theorem dX3_openBracket_9 : decode cX3_openBracket 9 = .ok (.iconst 0, 1) := by decide +kernel
theorem dX3_openBracket_10 : decode cX3_openBracket 10 = .ok (.ireturn, 1) := by decide +kernel
theorem dX3_openBracket_11 : decode cX3_openBracket 11 = .ok (.aload_n 0, 1) := by decide +kernel
theorem dX3_openBracket_12 : decode cX3_openBracket 12 = .ok (.invokevirtual 62, 3) := by decide +kernel
theorem dX3_openBracket_15 : decode cX3_openBracket 15 = .ok (.aload_n 0, 1) := by decide +kernel
theorem dX3_openBracket_16 : decode cX3_openBracket 16 = .ok (.dup, 1) := by decide +kernel
theorem dX3_openBracket_17 : decode cX3_openBracket 17 = .ok (.getfield 37, 3) := by decide +kernel
theorem dX3_openBracket_20 : decode cX3_openBracket 20 = .ok (.iconst 1, 1) := by decide +kernel
theorem dX3_openBracket_21 : decode cX3_openBracket 21 = .ok (.iadd, 1) := by decide +kernel
theorem dX3_openBracket_22 : decode cX3_openBracket 22 = .ok (.putfield 37, 3) := by decide +kernel
theorem dX3_openBracket_25 : decode cX3_openBracket 25 = .ok (.aload_n 0, 1) := by decide +kernel
theorem dX3_openBracket_26 : decode cX3_openBracket 26 = .ok (.invokevirtual 41, 3) := by decide +kernel
theorem dX3_openBracket_29 : decode cX3_openBracket 29 = .ok (.iconst 1, 1) := by decide +kernel
theorem dX3_openBracket_30 : decode cX3_openBracket 30 = .ok (.ireturn, 1) := by decide +kernel
theorem dX3_closeBracket_0 : decode cX3_closeBracket 0 = .ok (.aload_n 0, 1) := by decide +kernel
theorem dX3_closeBracket_1 : decode cX3_closeBracket 1 = .ok (.getfield 25, 3) := by decide +kernel
theorem dX3_closeBracket_4 : decode cX3_closeBracket 4 = .ok (.aload_n 0, 1) := by decide +kernel
theorem dX3_closeBracket_5 : decode cX3_closeBracket 5 = .ok (.getfield 37, 3) := by decide +kernel
theorem dX3_closeBracket_8 : decode cX3_closeBracket 8 = .ok (.aaload, 1) := by decide +kernel
theorem dX3_closeBracket_9 : decode cX3_closeBracket 9 = .ok (.astore_n 1, 1) := by decide +kernel
theorem dX3_closeBracket_10 : decode cX3_closeBracket 10 = .ok (.aload_n 0, 1) := by decide +kernel
theorem dX3_closeBracket_11 : decode cX3_closeBracket 11 = .ok (.getfield 12, 3) := by decide +kernel
theorem dX3_closeBracket_14 : decode cX3_closeBracket 14 = .ok (.aload_n 1, 1) := by decide +kernel
theorem dX3_closeBracket_15 : decode cX3_closeBracket 15 = .ok (.getfield 73, 3) := by decide +kernel
theorem dX3_closeBracket_18 : decode cX3_closeBracket 18 = .ok (.aload_n 1, 1) := by decide +kernel
theorem dX3_closeBracket_19 : decode cX3_closeBracket 19 = .ok (.getfield 76, 3) := by decide +kernel
theorem dX3_closeBracket_22 : decode cX3_closeBracket 22 = .ok (.aload_n 1, 1) := by decide +kernel
theorem dX3_closeBracket_23 : decode cX3_closeBracket 23 = .ok (.getfield 79, 3) := by decide +kernel
theorem dX3_closeBracket_26 : decode cX3_closeBracket 26 = .ok (.aload_n 1, 1) := by decide +kernel
theorem dX3_closeBracket_27 : decode cX3_closeBracket 27 = .ok (.getfield 83, 3) := by decide +kernel
theorem dX3_closeBracket_30 : decode cX3_closeBracket 30 = .ok (.invokevirtual 47, 3) := by decide +kernel
theorem dX3_closeBracket_33 : decode cX3_closeBracket 33 = .ok (.aload_n 0, 1) := by decide +kernel
theorem dX3_closeBracket_34 : decode cX3_closeBracket 34 = .ok (.dup, 1) := by decide +kernel
theorem dX3_closeBracket_35 : decode cX3_closeBracket 35 = .ok (.getfield 37, 3) := by decide +kernel
theorem dX3_closeBracket_38 : decode cX3_closeBracket 38 = .ok (.iconst 1, 1) := by decide +kernel
theorem dX3_closeBracket_39 : decode cX3_closeBracket 39 = .ok (.isub, 1) := by decide +kernel
theorem dX3_closeBracket_40 : decode cX3_closeBracket 40 = .ok (.putfield 37, 3) := by decide +kernel
theorem dX3_closeBracket_43 : decode cX3_closeBracket 43 = .ok (.aload_n 0, 1) := by decide +kernel
theorem dX3_closeBracket_44 : decode cX3_closeBracket 44 = .ok (.iconst 1, 1) := by decide +kernel
theorem dX3_closeBracket_45 : decode cX3_closeBracket 45 = .ok (.putfield 54, 3) := by decide +kernel
theorem dX3_closeBracket_48 : decode cX3_closeBracket 48 = .ok (.return_, 1) := by decide +kernel
theorem dX3_allowMore_0 : decode cX3_allowMore 0 = .ok (.aload_n 0, 1) := by decide +kernel
theorem dX3_allowMore_1 : decode cX3_allowMore 1 = .ok (.getfield 28, 3) := by decide +kernel
theorem dX3_allowMore_4 : decode cX3_allowMore 4 = .ok (.aload_n 0, 1) := by decide +kernel
theorem dX3_allowMore_5 : decode cX3_allowMore 5 = .ok (.getfield 12, 3) := by decide +kernel
theorem dX3_allowMore_8 : decode cX3_allowMore 8 = .ok (.getfield 83, 3) := by decide +kernel
theorem dX3_allowMore_11 : decode cX3_allowMore 11 = .ok (.aload_n 0, 1) := by decide +kernel
theorem dX3_allowMore_12 : decode cX3_allowMore 12 = .ok (.getfield 12, 3) := by decide +kernel
theorem dX3_allowMore_15 : decode cX3_allowMore 15 = .ok (.getfield 79, 3) := by decide +kernel
theorem dX3_allowMore_18 : decode cX3_allowMore 18 = .ok (.invokevirtual 86, 3) := by decide +kernel
theorem dX3_allowMore_21 : decode cX3_allowMore 21 = .ok (.return_, 1) := by decide +kernel
theorem dX3_allowNone_0 : decode cX3_allowNone 0 = .ok (.aload_n 0, 1) := by decide +kernel
theorem dX3_allowNone_1 : decode cX3_allowNone 1 = .ok (.getfield 12, 3) := by decide +kernel
theorem dX3_allowNone_4 : decode cX3_allowNone 4 = .ok (.iconst 1, 1) := by decide +kernel
theorem dX3_allowNone_5 : decode cX3_allowNone 5 = .ok (.putfield 76, 3) := by decide +kernel
theorem dX3_allowNone_8 : decode cX3_allowNone 8 = .ok (.return_, 1) := by decide +kernel
theorem dX3_repeat_0 : decode cX3_repeat 0 = .ok (.aload_n 0, 1) := by decide +kernel
theorem dX3_repeat_1 : decode cX3_repeat 1 = .ok (.getfield 28, 3) := by decide +kernel
theorem dX3_repeat_4 : decode cX3_repeat 4 = .ok (.getfield 44, 3) := by decide +kernel
theorem dX3_repeat_7 : decode cX3_repeat 7 = .ok (.aload_n 0, 1) := by decide +kernel
theorem dX3_repeat_8 : decode cX3_repeat 8 = .ok (.getfield 12, 3) := by decide +kernel
theorem dX3_repeat_11 : decode cX3_repeat 11 = .ok (.getfield 73, 3) := by decide +kernel
theorem dX3_repeat_14 : decode cX3_repeat 14 = .ok (.isub, 1) := by decide +kernel
theorem dX3_repeat_15 : decode cX3_repeat 15 = .ok (.istore_n 3, 1) := by decide +kernel
theorem dX3_repeat_16 : decode cX3_repeat 16 = .ok (.aload_n 0, 1) := by decide +kernel
theorem dX3_repeat_17 : decode cX3_repeat 17 = .ok (.getfield 12, 3) := by decide +kernel
theorem dX3_repeat_20 : decode cX3_repeat 20 = .ok (.getfield 73, 3) := by decide +kernel
theorem dX3_repeat_23 : decode cX3_repeat 23 = .ok (.iload_n 3, 1) := by decide +kernel
theorem dX3_repeat_24 : decode cX3_repeat 24 = .ok (.iload_n 2, 1) := by decide +kernel
theorem dX3_repeat_25 : decode cX3_repeat 25 = .ok (.imul, 1) := by decide +kernel
theorem dX3_repeat_26 : decode cX3_repeat 26 = .ok (.iadd, 1) := by decide +kernel
theorem dX3_repeat_27 : decode cX3_repeat 27 = .ok (.bipush 60, 2) := by decide +kernel
theorem dX3_repeat_29 : decode cX3_repeat 29 = .ok (.if_icmp .le 5, 3) := by decide +kernel
theorem dX3_repeat_32 : decode cX3_repeat 32 = .ok (.iconst 0, 1) := by decide +kernel
theorem dX3_repeat_33 : decode cX3_repeat 33 = .ok (.ireturn, 1) := by decide +kernel
theorem dX3_repeat_34 : decode cX3_repeat 34 = .ok (.aload_n 0, 1) := by decide +kernel
theorem dX3_repeat_35 : decode cX3_repeat 35 = .ok (.getfield 12, 3) := by decide +kernel
theorem dX3_repeat_38 : decode cX3_repeat 38 = .ok (.getfield 76, 3) := by decide +kernel
theorem dX3_repeat_41 : decode cX3_repeat 41 = .ok (.istore 4, 2) := by decide +kernel
theorem dX3_repeat_43 : decode cX3_repeat 43 = .ok (.aload_n 0, 1) := by decide +kernel
theorem dX3_repeat_44 : decode cX3_repeat 44 = .ok (.getfield 12, 3) := by decide +kernel
theorem dX3_repeat_47 : decode cX3_repeat 47 = .ok (.getfield 79, 3) := by decide +kernel
theorem dX3_repeat_50 : decode cX3_repeat 50 = .ok (.lstore 5, 2) := by decide +kernel
theorem dX3_repeat_52 : decode cX3_repeat 52 = .ok (.aload_n 0, 1) := by decide +kernel
theorem dX3_repeat_53 : decode cX3_repeat 53 = .ok (.getfield 12, 3) := by decide +kernel
theorem dX3_repeat_56 : decode cX3_repeat 56 = .ok (.getfield 83, 3) := by decide +kernel
theorem dX3_repeat_59 : decode cX3_repeat 59 = .ok (.lstore 7, 2) := by decide +kernel
theorem dX3_repeat_61 : decode cX3_repeat 61 = .ok (.aload_n 0, 1) := by decide +kernel
theorem dX3_repeat_62 : decode cX3_repeat 62 = .ok (.getfield 28, 3) := by decide +kernel
theorem dX3_repeat_65 : decode cX3_repeat 65 = .ok (.aload_n 0, 1) := by decide +kernel
theorem dX3_repeat_66 : decode cX3_repeat 66 = .ok (.getfield 12, 3) := by decide +kernel
theorem dX3_repeat_69 : decode cX3_repeat 69 = .ok (.getfield 73, 3) := by decide +kernel
theorem dX3_repeat_72 : decode cX3_repeat 72 = .ok (.iload_n 2, 1) := by decide +kernel
theorem dX3_repeat_73 : decode cX3_repeat 73 = .ok (.invokevirtual 90, 3) := by decide +kernel
theorem dX3_repeat_76 : decode cX3_repeat 76 = .ok (.aload_n 0, 1) := by decide +kernel
theorem dX3_repeat_77 : decode cX3_repeat 77 = .ok (.getfield 12, 3) := by decide +kernel
theorem dX3_repeat_80 : decode cX3_repeat 80 = .ok (.iload 4, 2) := by decide +kernel
theorem dX3_repeat_82 : decode cX3_repeat 82 = .ok (.ifCond .ne 7, 3) := by decide +kernel
theorem dX3_repeat_85 : decode cX3_repeat 85 = .ok (.iload_n 1, 1) := by decide +kernel
theorem dX3_repeat_86 : decode cX3_repeat 86 = .ok (.ifCond .ne 7, 3) := by decide +kernel
theorem dX3_repeat_89 : decode cX3_repeat 89 = .ok (.iconst 1, 1) := by decide +kernel
theorem dX3_repeat_90 : decode cX3_repeat 90 = .ok (.goto 4, 3) := by decide +kernel
theorem dX3_repeat_93 : decode cX3_repeat 93 = .ok (.iconst 0, 1) := by decide +kernel
theorem dX3_repeat_94 : decode cX3_repeat 94 = .ok (.putfield 76, 3) := by decide +kernel
theorem dX3_repeat_97 : decode cX3_repeat 97 = .ok (.iconst 1, 1) := by decide +kernel
theorem dX3_repeat_98 : decode cX3_repeat 98 = .ok (.istore 9, 2) := by decide +kernel
theorem dX3_repeat_100 : decode cX3_repeat 100 = .ok (.iload 9, 2) := by decide +kernel
theorem dX3_repeat_102 : decode cX3_repeat 102 = .ok (.iload_n 2, 1) := by decide +kernel
theorem dX3_repeat_103 : decode cX3_repeat 103 = .ok (.if_icmp .ge 73, 3) := by decide +kernel
theorem dX3_repeat_106 : decode cX3_repeat 106 = .ok (.iload 9, 2) := by decide +kernel
theorem dX3_repeat_108 : decode cX3_repeat 108 = .ok (.iload_n 3, 1) := by decide +kernel
theorem dX3_repeat_109 : decode cX3_repeat 109 = .ok (.imul, 1) := by decide +kernel
theorem dX3_repeat_110 : decode cX3_repeat 110 = .ok (.istore 10, 2) := by decide +kernel
theorem dX3_repeat_112 : decode cX3_repeat 112 = .ok (.aload_n 0, 1) := by decide +kernel
theorem dX3_repeat_113 : decode cX3_repeat 113 = .ok (.getfield 18, 3) := by decide +kernel
theorem dX3_repeat_116 : decode cX3_repeat 116 = .ok (.aload_n 0, 1) := by decide +kernel
theorem dX3_repeat_117 : decode cX3_repeat 117 = .ok (.getfield 12, 3) := by decide +kernel
theorem dX3_repeat_120 : decode cX3_repeat 120 = .ok (.getfield 73, 3) := by decide +kernel
theorem dX3_repeat_123 : decode cX3_repeat 123 = .ok (.iload 10, 2) := by decide +kernel
theorem dX3_repeat_125 : decode cX3_repeat 125 = .ok (.iadd, 1) := by decide +kernel
theorem dX3_repeat_126 : decode cX3_repeat 126 = .ok (.iload 4, 2) := by decide +kernel
theorem dX3_repeat_128 : decode cX3_repeat 128 = .ok (.ifCond .ne 9, 3) := by decide +kernel
theorem dX3_repeat_131 : decode cX3_repeat 131 = .ok (.iload 9, 2) := by decide +kernel
theorem dX3_repeat_133 : decode cX3_repeat 133 = .ok (.iload_n 1, 1) := by decide +kernel
theorem dX3_repeat_134 : decode cX3_repeat 134 = .ok (.if_icmp .lt 7, 3) := by decide +kernel
theorem dX3_repeat_137 : decode cX3_repeat 137 = .ok (.iconst 1, 1) := by decide +kernel
theorem dX3_repeat_138 : decode cX3_repeat 138 = .ok (.goto 4, 3) := by decide +kernel
theorem dX3_repeat_141 : decode cX3_repeat 141 = .ok (.iconst 0, 1) := by decide +kernel
theorem dX3_repeat_142 : decode cX3_repeat 142 = .ok (.lload 5, 2) := by decide +kernel
theorem dX3_repeat_144 : decode cX3_repeat 144 = .ok (.iload 10, 2) := by decide +kernel
theorem dX3_repeat_146 : decode cX3_repeat 146 = .ok (.lshl, 1) := by decide +kernel
theorem dX3_repeat_147 : decode cX3_repeat 147 = .ok (.lload 7, 2) := by decide +kernel
theorem dX3_repeat_149 : decode cX3_repeat 149 = .ok (.iload 10, 2) := by decide +kernel
theorem dX3_repeat_151 : decode cX3_repeat 151 = .ok (.lshl, 1) := by decide +kernel
theorem dX3_repeat_152 : decode cX3_repeat 152 = .ok (.invokevirtual 47, 3) := by decide +kernel
theorem dX3_repeat_155 : decode cX3_repeat 155 = .ok (.aload_n 0, 1) := by decide +kernel
theorem dX3_repeat_156 : decode cX3_repeat 156 = .ok (.getfield 12, 3) := by decide +kernel
theorem dX3_repeat_159 : decode cX3_repeat 159 = .ok (.aload_n 0, 1) := by decide +kernel
theorem dX3_repeat_160 : decode cX3_repeat 160 = .ok (.getfield 18, 3) := by decide +kernel
theorem dX3_repeat_163 : decode cX3_repeat 163 = .ok (.aload_n 0, 1) := by decide +kernel
theorem dX3_repeat_164 : decode cX3_repeat 164 = .ok (.getfield 28, 3) := by decide +kernel
theorem dX3_repeat_167 : decode cX3_repeat 167 = .ok (.invokevirtual 58, 3) := by decide +kernel
theorem dX3_repeat_170 : decode cX3_repeat 170 = .ok (.iinc 9 1, 3) := by decide +kernel
theorem dX3_repeat_173 : decode cX3_repeat 173 = .ok (.goto (-73), 3) := by decide +kernel
theorem dX3_repeat_176 : decode cX3_repeat 176 = .ok (.iconst 1, 1) := by decide +kernel
theorem dX3_repeat_177 : decode cX3_repeat 177 = .ok (.ireturn, 1) := by decide +kernel
theorem dX3_finish_0 : decode cX3_finish 0 = .ok (.aload_n 0, 1) := by decide +kernel
theorem dX3_finish_1 : decode cX3_finish 1 = .ok (.invokevirtual 94, 3) := by decide +kernel
theorem dX3_finish_4 : decode cX3_finish 4 = .ok (.aload_n 0, 1) := by decide +kernel
theorem dX3_finish_5 : decode cX3_finish 5 = .ok (.getfield 28, 3) := by decide +kernel
theorem dX3_finish_8 : decode cX3_finish 8 = .ok (.aload_n 0, 1) := by decide +kernel
theorem dX3_finish_9 : decode cX3_finish 9 = .ok (.getfield 25, 3) := by decide +kernel
theorem dX3_finish_12 : decode cX3_finish 12 = .ok (.iconst 0, 1) := by decide +kernel
theorem dX3_finish_13 : decode cX3_finish 13 = .ok (.aaload, 1) := by decide +kernel
theorem dX3_finish_14 : decode cX3_finish 14 = .ok (.invokevirtual 97, 3) := by decide +kernel
theorem dX3_finish_17 : decode cX3_finish 17 = .ok (.return_, 1) := by decide +kernel
theorem dX4_init_0 : decode cX4_init 0 = .ok (.aload_n 0, 1) := by decide +kernel
theorem dX4_init_1 : decode cX4_init 1 = .ok (.invokespecial 3, 3) := by decide +kernel
theorem dX4_init_4 : decode cX4_init 4 = .ok (.aload_n 0, 1) := by decide +kernel
theorem dX4_init_5 : decode cX4_init 5 = .ok (.bipush 60, 2) := by decide +kernel
theorem dX4_init_7 : decode cX4_init 7 = .ok (.newarray .long, 2) := by decide +kernel
theorem dX4_init_9 : decode cX4_init 9 = .ok (.putfield 9, 3) := by decide +kernel
theorem dX4_init_12 : decode cX4_init 12 = .ok (.aload_n 0, 1) := by decide +kernel
theorem dX4_init_13 : decode cX4_init 13 = .ok (.bipush 60, 2) := by decide +kernel
theorem dX4_init_15 : decode cX4_init 15 = .ok (.newarray .long, 2) := by decide +kernel
theorem dX4_init_17 : decode cX4_init 17 = .ok (.putfield 15, 3) := by decide +kernel
theorem dX4_init_20 : decode cX4_init 20 = .ok (.aload_n 0, 1) := by decide +kernel
theorem dX4_init_21 : decode cX4_init 21 = .ok (.bipush 36, 2) := by decide +kernel
theorem dX4_init_23 : decode cX4_init 23 = .ok (.newarray .long, 2) := by decide +kernel
theorem dX4_init_25 : decode cX4_init 25 = .ok (.putfield 18, 3) := by decide +kernel
theorem dX4_init_28 : decode cX4_init 28 = .ok (.aload_n 0, 1) := by decide +kernel
theorem dX4_init_29 : decode cX4_init 29 = .ok (.new 21, 3) := by decide +kernel
theorem dX4_init_32 : decode cX4_init 32 = .ok (.dup, 1) := by decide +kernel
theorem dX4_init_33 : decode cX4_init 33 = .ok (.invokespecial 23, 3) := by decide +kernel
theorem dX4_init_36 : decode cX4_init 36 = .ok (.putfield 24, 3) := by decide +kernel
theorem dX4_init_39 : decode cX4_init 39 = .ok (.return_, 1) := by decide +kernel
theorem dX4_wipe_0 : decode cX4_wipe 0 = .ok (.aload_n 0, 1) := by decide +kernel
theorem dX4_wipe_1 : decode cX4_wipe 1 = .ok (.iconst 0, 1) := by decide +kernel
theorem dX4_wipe_2 : decode cX4_wipe 2 = .ok (.putfield 28, 3) := by decide +kernel
theorem dX4_wipe_5 : decode cX4_wipe 5 = .ok (.aload_n 0, 1) := by decide +kernel
theorem dX4_wipe_6 : decode cX4_wipe 6 = .ok (.getfield 24, 3) := by decide +kernel
theorem dX4_wipe_9 : decode cX4_wipe 9 = .ok (.iconst 0, 1) := by decide +kernel
theorem dX4_wipe_10 : decode cX4_wipe 10 = .ok (.putfield 32, 3) := by decide +kernel
theorem dX4_wipe_13 : decode cX4_wipe 13 = .ok (.return_, 1) := by decide +kernel
theorem dX4_addPosition_0 : decode cX4_addPosition 0 = .ok (.aload_n 0, 1) := by decide +kernel
theorem dX4_addPosition_1 : decode cX4_addPosition 1 = .ok (.getfield 15, 3) := by decide +kernel
theorem dX4_addPosition_4 : decode cX4_addPosition 4 = .ok (.aload_n 0, 1) := by decide +kernel
theorem dX4_addPosition_5 : decode cX4_addPosition 5 = .ok (.getfield 28, 3) := by decide +kernel
theorem dX4_addPosition_8 : decode cX4_addPosition 8 = .ok (.lload_n 1, 1) := by decide +kernel
theorem dX4_addPosition_9 : decode cX4_addPosition 9 = .ok (.lastore, 1) := by decide +kernel
theorem dX4_addPosition_10 : decode cX4_addPosition 10 = .ok (.aload_n 0, 1) := by decide +kernel
theorem dX4_addPosition_11 : decode cX4_addPosition 11 = .ok (.getfield 9, 3) := by decide +kernel
theorem dX4_addPosition_14 : decode cX4_addPosition 14 = .ok (.aload_n 0, 1) := by decide +kernel
theorem dX4_addPosition_15 : decode cX4_addPosition 15 = .ok (.getfield 28, 3) := by decide +kernel
theorem dX4_addPosition_18 : decode cX4_addPosition 18 = .ok (.lconst 0, 1) := by decide +kernel
theorem dX4_addPosition_19 : decode cX4_addPosition 19 = .ok (.lastore, 1) := by decide +kernel
theorem dX4_addPosition_20 : decode cX4_addPosition 20 = .ok (.aload_n 0, 1) := by decide +kernel
theorem dX4_addPosition_21 : decode cX4_addPosition 21 = .ok (.dup, 1) := by decide +kernel
theorem dX4_addPosition_22 : decode cX4_addPosition 22 = .ok (.getfield 28, 3) := by decide +kernel
theorem dX4_addPosition_25 : decode cX4_addPosition 25 = .ok (.iconst 1, 1) := by decide +kernel
theorem dX4_addPosition_26 : decode cX4_addPosition 26 = .ok (.iadd, 1) := by decide +kernel
theorem dX4_addPosition_27 : decode cX4_addPosition 27 = .ok (.putfield 28, 3) := by decide +kernel
theorem dX4_addPosition_30 : decode cX4_addPosition 30 = .ok (.return_, 1) := by decide +kernel
theorem dX4_copyPositions_0 : decode cX4_copyPositions 0 = .ok (.aload_n 0, 1) := by decide +kernel
theorem dX4_copyPositions_1 : decode cX4_copyPositions 1 = .ok (.getfield 28, 3) := by decide +kernel
theorem dX4_copyPositions_4 : decode cX4_copyPositions 4 = .ok (.iload_n 1, 1) := by decide +kernel
theorem dX4_copyPositions_5 : decode cX4_copyPositions 5 = .ok (.isub, 1) := by decide +kernel
theorem dX4_copyPositions_6 : decode cX4_copyPositions 6 = .ok (.istore_n 3, 1) := by decide +kernel
theorem dX4_copyPositions_7 : decode cX4_copyPositions 7 = .ok (.iconst 1, 1) := by decide +kernel
theorem dX4_copyPositions_8 : decode cX4_copyPositions 8 = .ok (.istore 4, 2) := by decide +kernel
theorem dX4_copyPositions_10 : decode cX4_copyPositions 10 = .ok (.iload 4, 2) := by decide +kernel
theorem dX4_copyPositions_12 : decode cX4_copyPositions 12 = .ok (.iload_n 2, 1) := by decide +kernel
theorem dX4_copyPositions_13 : decode cX4_copyPositions 13 = .ok (.if_icmp .ge 69, 3) := by decide +kernel
theorem dX4_copyPositions_16 : decode cX4_copyPositions 16 = .ok (.iload_n 1, 1) := by decide +kernel
theorem dX4_copyPositions_17 : decode cX4_copyPositions 17 = .ok (.istore 5, 2) := by decide +kernel
theorem dX4_copyPositions_19 : decode cX4_copyPositions 19 = .ok (.iload 5, 2) := by decide +kernel
theorem dX4_copyPositions_21 : decode cX4_copyPositions 21 = .ok (.iload_n 1, 1) := by decide +kernel
theorem dX4_copyPositions_22 : decode cX4_copyPositions 22 = .ok (.iload_n 3, 1) := by decide +kernel
theorem dX4_copyPositions_23 : decode cX4_copyPositions 23 = .ok (.iadd, 1) := by decide +kernel
theorem dX4_copyPositions_24 : decode cX4_copyPositions 24 = .ok (.if_icmp .ge 52, 3) := by decide +kernel
theorem dX4_copyPositions_27 : decode cX4_copyPositions 27 = .ok (.aload_n 0, 1) := by decide +kernel
theorem dX4_copyPositions_28 : decode cX4_copyPositions 28 = .ok (.getfield 15, 3) := by decide +kernel
theorem dX4_copyPositions_31 : decode cX4_copyPositions 31 = .ok (.iload 5, 2) := by decide +kernel
theorem dX4_copyPositions_33 : decode cX4_copyPositions 33 = .ok (.iload 4, 2) := by decide +kernel
theorem dX4_copyPositions_35 : decode cX4_copyPositions 35 = .ok (.iload_n 3, 1) := by decide +kernel
theorem dX4_copyPositions_36 : decode cX4_copyPositions 36 = .ok (.imul, 1) := by decide +kernel
theorem dX4_copyPositions_37 : decode cX4_copyPositions 37 = .ok (.iadd, 1) := by decide +kernel
theorem dX4_copyPositions_38 : decode cX4_copyPositions 38 = .ok (.aload_n 0, 1) := by decide +kernel
theorem dX4_copyPositions_39 : decode cX4_copyPositions 39 = .ok (.getfield 15, 3) := by decide +kernel
theorem dX4_copyPositions_42 : decode cX4_copyPositions 42 = .ok (.iload 5, 2) := by decide +kernel
theorem dX4_copyPositions_44 : decode cX4_copyPositions 44 = .ok (.laload, 1) := by decide +kernel
theorem dX4_copyPositions_45 : decode cX4_copyPositions 45 = .ok (.lastore, 1) := by decide +kernel
theorem dX4_copyPositions_46 : decode cX4_copyPositions 46 = .ok (.aload_n 0, 1) := by decide +kernel
theorem dX4_copyPositions_47 : decode cX4_copyPositions 47 = .ok (.getfield 9, 3) := by decide +kernel
theorem dX4_copyPositions_50 : decode cX4_copyPositions 50 = .ok (.iload 5, 2) := by decide +kernel
theorem dX4_copyPositions_52 : decode cX4_copyPositions 52 = .ok (.iload 4, 2) := by decide +kernel
theorem dX4_copyPositions_54 : decode cX4_copyPositions 54 = .ok (.iload_n 3, 1) := by decide +kernel
theorem dX4_copyPositions_55 : decode cX4_copyPositions 55 = .ok (.imul, 1) := by decide +kernel
theorem dX4_copyPositions_56 : decode cX4_copyPositions 56 = .ok (.iadd, 1) := by decide +kernel
theorem dX4_copyPositions_57 : decode cX4_copyPositions 57 = .ok (.aload_n 0, 1) := by decide +kernel
theorem dX4_copyPositions_58 : decode cX4_copyPositions 58 = .ok (.getfield 9, 3) := by decide +kernel
theorem dX4_copyPositions_61 : decode cX4_copyPositions 61 = .ok (.iload 5, 2) := by decide +kernel
theorem dX4_copyPositions_63 : decode cX4_copyPositions 63 = .ok (.laload, 1) := by decide +kernel
theorem dX4_copyPositions_64 : decode cX4_copyPositions 64 = .ok (.iload 4, 2) := by decide +kernel
theorem dX4_copyPositions_66 : decode cX4_copyPositions 66 = .ok (.iload_n 3, 1) := by decide +kernel
theorem dX4_copyPositions_67 : decode cX4_copyPositions 67 = .ok (.imul, 1) := by decide +kernel
theorem dX4_copyPositions_68 : decode cX4_copyPositions 68 = .ok (.lshl, 1) := by decide +kernel
theorem dX4_copyPositions_69 : decode cX4_copyPositions 69 = .ok (.lastore, 1) := by decide +kernel
theorem dX4_copyPositions_70 : decode cX4_copyPositions 70 = .ok (.iinc 5 1, 3) := by decide +kernel
theorem dX4_copyPositions_73 : decode cX4_copyPositions 73 = .ok (.goto (-54), 3) := by decide +kernel
theorem dX4_copyPositions_76 : decode cX4_copyPositions 76 = .ok (.iinc 4 1, 3) := by decide +kernel
theorem dX4_copyPositions_79 : decode cX4_copyPositions 79 = .ok (.goto (-69), 3) := by decide +kernel
theorem dX4_copyPositions_82 : decode cX4_copyPositions 82 = .ok (.aload_n 0, 1) := by decide +kernel
theorem dX4_copyPositions_83 : decode cX4_copyPositions 83 = .ok (.iload_n 1, 1) := by decide +kernel
theorem dX4_copyPositions_84 : decode cX4_copyPositions 84 = .ok (.iload_n 3, 1) := by decide +kernel
theorem dX4_copyPositions_85 : decode cX4_copyPositions 85 = .ok (.iload_n 2, 1) := by decide +kernel
theorem dX4_copyPositions_86 : decode cX4_copyPositions 86 = .ok (.imul, 1) := by decide +kernel
theorem dX4_copyPositions_87 : decode cX4_copyPositions 87 = .ok (.iadd, 1) := by decide +kernel
theorem dX4_copyPositions_88 : decode cX4_copyPositions 88 = .ok (.putfield 28, 3) := by decide +kernel
theorem dX4_copyPositions_91 : decode cX4_copyPositions 91 = .ok (.return_, 1) := by decide +kernel
theorem dX4_connect_0 : decode cX4_connect 0 = .ok (.iconst 0, 1) := by decide +kernel
theorem dX4_connect_1 : decode cX4_connect 1 = .ok (.istore 5, 2) := by decide +kernel
theorem dX4_connect_3 : decode cX4_connect 3 = .ok (.iload 5, 2) := by decide +kernel
theorem dX4_connect_5 : decode cX4_connect 5 = .ok (.aload_n 0, 1) := by decide +kernel
theorem dX4_connect_6 : decode cX4_connect 6 = .ok (.getfield 28, 3) := by decide +kernel
theorem dX4_connect_9 : decode cX4_connect 9 = .ok (.if_icmp .ge 31, 3) := by decide +kernel
theorem dX4_connect_12 : decode cX4_connect 12 = .ok (.lload_n 1, 1) := by decide +kernel
theorem dX4_connect_13 : decode cX4_connect 13 = .ok (.iload 5, 2) := by decide +kernel
theorem dX4_connect_15 : decode cX4_connect 15 = .ok (.lushr, 1) := by decide +kernel
theorem dX4_connect_16 : decode cX4_connect 16 = .ok (.lconst 1, 1) := by decide +kernel
theorem dX4_connect_17 : decode cX4_connect 17 = .ok (.land, 1) := by decide +kernel
theorem dX4_connect_18 : decode cX4_connect 18 = .ok (.lconst 0, 1) := by decide +kernel
theorem dX4_connect_19 : decode cX4_connect 19 = .ok (.lcmp, 1) := by decide +kernel
theorem dX4_connect_20 : decode cX4_connect 20 = .ok (.ifCond .eq 14, 3) := by decide +kernel
theorem dX4_connect_23 : decode cX4_connect 23 = .ok (.aload_n 0, 1) := by decide +kernel
theorem dX4_connect_24 : decode cX4_connect 24 = .ok (.getfield 9, 3) := by decide +kernel
theorem dX4_connect_27 : decode cX4_connect 27 = .ok (.iload 5, 2) := by decide +kernel
theorem dX4_connect_29 : decode cX4_connect 29 = .ok (.dup2, 1) := by decide +kernel
theorem dX4_connect_30 : decode cX4_connect 30 = .ok (.laload, 1) := by decide +kernel
theorem dX4_connect_31 : decode cX4_connect 31 = .ok (.lload_n 3, 1) := by decide +kernel
theorem dX4_connect_32 : decode cX4_connect 32 = .ok (.lor, 1) := by decide +kernel
theorem dX4_connect_33 : decode cX4_connect 33 = .ok (.lastore, 1) := by decide +kernel
theorem dX4_connect_34 : decode cX4_connect 34 = .ok (.iinc 5 1, 3) := by decide +kernel
theorem dX4_connect_37 : decode cX4_connect 37 = .ok (.goto (-34), 3) := by decide +kernel
theorem dX4_connect_40 : decode cX4_connect 40 = .ok (.return_, 1) := by decide +kernel
theorem dX4_complete_0 : decode cX4_complete 0 = .ok (.aload_n 0, 1) := by decide +kernel
theorem dX4_complete_1 : decode cX4_complete 1 = .ok (.aload_n 1, 1) := by decide +kernel
theorem dX4_complete_2 : decode cX4_complete 2 = .ok (.getfield 36, 3) := by decide +kernel
theorem dX4_complete_5 : decode cX4_complete 5 = .ok (.putfield 41, 3) := by decide +kernel
theorem dX4_complete_8 : decode cX4_complete 8 = .ok (.aload_n 0, 1) := by decide +kernel
theorem dX4_complete_9 : decode cX4_complete 9 = .ok (.aload_n 1, 1) := by decide +kernel
theorem dX4_complete_10 : decode cX4_complete 10 = .ok (.getfield 42, 3) := by decide +kernel
theorem dX4_complete_13 : decode cX4_complete 13 = .ok (.putfield 46, 3) := by decide +kernel
theorem dX4_complete_16 : decode cX4_complete 16 = .ok (.aload_n 0, 1) := by decide +kernel
theorem dX4_complete_17 : decode cX4_complete 17 = .ok (.aload_n 1, 1) := by decide +kernel
theorem dX4_complete_18 : decode cX4_complete 18 = .ok (.getfield 47, 3) := by decide +kernel
theorem dX4_complete_21 : decode cX4_complete 21 = .ok (.putfield 50, 3) := by decide +kernel
theorem dX4_complete_24 : decode cX4_complete 24 = .ok (.iconst 0, 1) := by decide +kernel
theorem dX4_complete_25 : decode cX4_complete 25 = .ok (.istore_n 2, 1) := by decide +kernel
theorem dX4_complete_26 : decode cX4_complete 26 = .ok (.iload_n 2, 1) := by decide +kernel
theorem dX4_complete_27 : decode cX4_complete 27 = .ok (.bipush 36, 2) := by decide +kernel
theorem dX4_complete_29 : decode cX4_complete 29 = .ok (.if_icmp .ge 20, 3) := by decide +kernel
theorem dX4_complete_32 : decode cX4_complete 32 = .ok (.aload_n 0, 1) := by decide +kernel
theorem dX4_complete_33 : decode cX4_complete 33 = .ok (.getfield 18, 3) := by decide +kernel
theorem dX4_complete_36 : decode cX4_complete 36 = .ok (.iload_n 2, 1) := by decide +kernel
theorem dX4_complete_37 : decode cX4_complete 37 = .ok (.aload_n 0, 1) := by decide +kernel
theorem dX4_complete_38 : decode cX4_complete 38 = .ok (.iload_n 2, 1) := by decide +kernel
theorem dX4_complete_39 : decode cX4_complete 39 = .ok (.invokevirtual 51, 3) := by decide +kernel
theorem dX4_complete_42 : decode cX4_complete 42 = .ok (.lastore, 1) := by decide +kernel
theorem dX4_complete_43 : decode cX4_complete 43 = .ok (.iinc 2 1, 3) := by decide +kernel
theorem dX4_complete_46 : decode cX4_complete 46 = .ok (.goto (-20), 3) := by decide +kernel
theorem dX4_complete_49 : decode cX4_complete 49 = .ok (.return_, 1) := by decide +kernel
theorem dX4_haversOf_0 : decode cX4_haversOf 0 = .ok (.lconst 0, 1) := by decide +kernel
theorem dX4_haversOf_1 : decode cX4_haversOf 1 = .ok (.lstore_n 2, 1) := by decide +kernel
theorem dX4_haversOf_2 : decode cX4_haversOf 2 = .ok (.iconst 0, 1) := by decide +kernel
theorem dX4_haversOf_3 : decode cX4_haversOf 3 = .ok (.istore 4, 2) := by decide +kernel
theorem dX4_haversOf_5 : decode cX4_haversOf 5 = .ok (.iload 4, 2) := by decide +kernel
theorem dX4_haversOf_7 : decode cX4_haversOf 7 = .ok (.aload_n 0, 1) := by decide +kernel
theorem dX4_haversOf_8 : decode cX4_haversOf 8 = .ok (.getfield 28, 3) := by decide +kernel
theorem dX4_haversOf_11 : decode cX4_haversOf 11 = .ok (.if_icmp .ge 30, 3) := by decide +kernel
theorem dX4_haversOf_14 : decode cX4_haversOf 14 = .ok (.aload_n 0, 1) := by decide +kernel
theorem dX4_haversOf_15 : decode cX4_haversOf 15 = .ok (.getfield 15, 3) := by decide +kernel
theorem dX4_haversOf_18 : decode cX4_haversOf 18 = .ok (.iload 4, 2) := by decide +kernel
theorem dX4_haversOf_20 : decode cX4_haversOf 20 = .ok (.laload, 1) := by decide +kernel
theorem dX4_haversOf_21 : decode cX4_haversOf 21 = .ok (.iload_n 1, 1) := by decide +kernel
theorem dX4_haversOf_22 : decode cX4_haversOf 22 = .ok (.invokestatic 55, 3) := by decide +kernel
theorem dX4_haversOf_25 : decode cX4_haversOf 25 = .ok (.ifCond .eq 10, 3) := by decide +kernel
theorem dX4_haversOf_28 : decode cX4_haversOf 28 = .ok (.lload_n 2, 1) := by decide +kernel
theorem dX4_haversOf_29 : decode cX4_haversOf 29 = .ok (.lconst 1, 1) := by decide +kernel
theorem dX4_haversOf_30 : decode cX4_haversOf 30 = .ok (.iload 4, 2) := by decide +kernel
theorem dX4_haversOf_32 : decode cX4_haversOf 32 = .ok (.lshl, 1) := by decide +kernel
theorem dX4_haversOf_33 : decode cX4_haversOf 33 = .ok (.lor, 1) := by decide +kernel
theorem dX4_haversOf_34 : decode cX4_haversOf 34 = .ok (.lstore_n 2, 1) := by decide +kernel
theorem dX4_haversOf_35 : decode cX4_haversOf 35 = .ok (.iinc 4 1, 3) := by decide +kernel
theorem dX4_haversOf_38 : decode cX4_haversOf 38 = .ok (.goto (-33), 3) := by decide +kernel
theorem dX4_haversOf_41 : decode cX4_haversOf 41 = .ok (.lload_n 2, 1) := by decide +kernel
theorem dX4_haversOf_42 : decode cX4_haversOf 42 = .ok (.lreturn, 1) := by decide +kernel
theorem dX4_behindAny_0 : decode cX4_behindAny 0 = .ok (.lconst 0, 1) := by decide +kernel
theorem dX4_behindAny_1 : decode cX4_behindAny 1 = .ok (.lstore_n 3, 1) := by decide +kernel
theorem dX4_behindAny_2 : decode cX4_behindAny 2 = .ok (.iconst 0, 1) := by decide +kernel
theorem dX4_behindAny_3 : decode cX4_behindAny 3 = .ok (.istore 5, 2) := by decide +kernel
theorem dX4_behindAny_5 : decode cX4_behindAny 5 = .ok (.iload 5, 2) := by decide +kernel
theorem dX4_behindAny_7 : decode cX4_behindAny 7 = .ok (.aload_n 0, 1) := by decide +kernel
theorem dX4_behindAny_8 : decode cX4_behindAny 8 = .ok (.getfield 28, 3) := by decide +kernel
theorem dX4_behindAny_11 : decode cX4_behindAny 11 = .ok (.if_icmp .ge 28, 3) := by decide +kernel
theorem dX4_behindAny_14 : decode cX4_behindAny 14 = .ok (.lload_n 1, 1) := by decide +kernel
theorem dX4_behindAny_15 : decode cX4_behindAny 15 = .ok (.iload 5, 2) := by decide +kernel
theorem dX4_behindAny_17 : decode cX4_behindAny 17 = .ok (.invokestatic 55, 3) := by decide +kernel
theorem dX4_behindAny_20 : decode cX4_behindAny 20 = .ok (.ifCond .eq 13, 3) := by decide +kernel
theorem dX4_behindAny_23 : decode cX4_behindAny 23 = .ok (.lload_n 3, 1) := by decide +kernel
theorem dX4_behindAny_24 : decode cX4_behindAny 24 = .ok (.aload_n 0, 1) := by decide +kernel
theorem dX4_behindAny_25 : decode cX4_behindAny 25 = .ok (.getfield 9, 3) := by decide +kernel
theorem dX4_behindAny_28 : decode cX4_behindAny 28 = .ok (.iload 5, 2) := by decide +kernel
theorem dX4_behindAny_30 : decode cX4_behindAny 30 = .ok (.laload, 1) := by decide +kernel
theorem dX4_behindAny_31 : decode cX4_behindAny 31 = .ok (.lor, 1) := by decide +kernel
theorem dX4_behindAny_32 : decode cX4_behindAny 32 = .ok (.lstore_n 3, 1) := by decide +kernel
theorem dX4_behindAny_33 : decode cX4_behindAny 33 = .ok (.iinc 5 1, 3) := by decide +kernel
theorem dX4_behindAny_36 : decode cX4_behindAny 36 = .ok (.goto (-31), 3) := by decide +kernel
theorem dX4_behindAny_39 : decode cX4_behindAny 39 = .ok (.lload_n 3, 1) := by decide +kernel
theorem dX4_behindAny_40 : decode cX4_behindAny 40 = .ok (.lreturn, 1) := by decide +kernel
theorem dX5_init_0 : decode cX5_init 0 = .ok (.aload_n 0, 1) := by decide +kernel
theorem dX5_init_1 : decode cX5_init 1 = .ok (.invokespecial 1, 3) := by decide +kernel
theorem dX5_init_4 : decode cX5_init 4 = .ok (.return_, 1) := by decide +kernel
theorem dX5_set_0 : decode cX5_set 0 = .ok (.aload_n 0, 1) := by decide +kernel
theorem dX5_set_1 : decode cX5_set 1 = .ok (.iload_n 1, 1) := by decide +kernel
theorem dX5_set_2 : decode cX5_set 2 = .ok (.putfield 7, 3) := by decide +kernel
theorem dX5_set_5 : decode cX5_set 5 = .ok (.aload_n 0, 1) := by decide +kernel
theorem dX5_set_6 : decode cX5_set 6 = .ok (.iload_n 2, 1) := by decide +kernel
theorem dX5_set_7 : decode cX5_set 7 = .ok (.putfield 13, 3) := by decide +kernel
theorem dX5_set_10 : decode cX5_set 10 = .ok (.aload_n 0, 1) := by decide +kernel
theorem dX5_set_11 : decode cX5_set 11 = .ok (.lload_n 3, 1) := by decide +kernel
theorem dX5_set_12 : decode cX5_set 12 = .ok (.putfield 17, 3) := by decide +kernel
theorem dX5_set_15 : decode cX5_set 15 = .ok (.aload_n 0, 1) := by decide +kernel
theorem dX5_set_16 : decode cX5_set 16 = .ok (.lload 5, 2) := by decide +kernel
theorem dX5_set_18 : decode cX5_set 18 = .ok (.putfield 21, 3) := by decide +kernel
theorem dX5_set_21 : decode cX5_set 21 = .ok (.return_, 1) := by decide +kernel
theorem dX5_append_0 : decode cX5_append 0 = .ok (.aload_n 2, 1) := by decide +kernel
theorem dX5_append_1 : decode cX5_append 1 = .ok (.aload_n 0, 1) := by decide +kernel
theorem dX5_append_2 : decode cX5_append 2 = .ok (.getfield 21, 3) := by decide +kernel
theorem dX5_append_5 : decode cX5_append 5 = .ok (.aload_n 1, 1) := by decide +kernel
theorem dX5_append_6 : decode cX5_append 6 = .ok (.getfield 17, 3) := by decide +kernel
theorem dX5_append_9 : decode cX5_append 9 = .ok (.invokevirtual 24, 3) := by decide +kernel
theorem dX5_append_12 : decode cX5_append 12 = .ok (.aload_n 0, 1) := by decide +kernel
theorem dX5_append_13 : decode cX5_append 13 = .ok (.aload_n 0, 1) := by decide +kernel
theorem dX5_append_14 : decode cX5_append 14 = .ok (.getfield 13, 3) := by decide +kernel
theorem dX5_append_17 : decode cX5_append 17 = .ok (.ifCond .eq 15, 3) := by decide +kernel
theorem dX5_append_20 : decode cX5_append 20 = .ok (.aload_n 0, 1) := by decide +kernel
theorem dX5_append_21 : decode cX5_append 21 = .ok (.getfield 17, 3) := by decide +kernel
theorem dX5_append_24 : decode cX5_append 24 = .ok (.aload_n 1, 1) := by decide +kernel
theorem dX5_append_25 : decode cX5_append 25 = .ok (.getfield 17, 3) := by decide +kernel
theorem dX5_append_28 : decode cX5_append 28 = .ok (.lor, 1) := by decide +kernel
theorem dX5_append_29 : decode cX5_append 29 = .ok (.goto 7, 3) := by decide +kernel
theorem dX5_append_32 : decode cX5_append 32 = .ok (.aload_n 0, 1) := by decide +kernel
theorem dX5_append_33 : decode cX5_append 33 = .ok (.getfield 17, 3) := by decide +kernel
theorem dX5_append_36 : decode cX5_append 36 = .ok (.putfield 17, 3) := by decide +kernel
theorem dX5_append_39 : decode cX5_append 39 = .ok (.aload_n 0, 1) := by decide +kernel
theorem dX5_append_40 : decode cX5_append 40 = .ok (.aload_n 1, 1) := by decide +kernel
theorem dX5_append_41 : decode cX5_append 41 = .ok (.getfield 13, 3) := by decide +kernel
theorem dX5_append_44 : decode cX5_append 44 = .ok (.ifCond .eq 15, 3) := by decide +kernel
theorem dX5_append_47 : decode cX5_append 47 = .ok (.aload_n 0, 1) := by decide +kernel
theorem dX5_append_48 : decode cX5_append 48 = .ok (.getfield 21, 3) := by decide +kernel
theorem dX5_append_51 : decode cX5_append 51 = .ok (.aload_n 1, 1) := by decide +kernel
theorem dX5_append_52 : decode cX5_append 52 = .ok (.getfield 21, 3) := by decide +kernel
theorem dX5_append_55 : decode cX5_append 55 = .ok (.lor, 1) := by decide +kernel
theorem dX5_append_56 : decode cX5_append 56 = .ok (.goto 7, 3) := by decide +kernel
theorem dX5_append_59 : decode cX5_append 59 = .ok (.aload_n 1, 1) := by decide +kernel
theorem dX5_append_60 : decode cX5_append 60 = .ok (.getfield 21, 3) := by decide +kernel
theorem dX5_append_63 : decode cX5_append 63 = .ok (.putfield 21, 3) := by decide +kernel
theorem dX5_append_66 : decode cX5_append 66 = .ok (.aload_n 0, 1) := by decide +kernel
theorem dX5_append_67 : decode cX5_append 67 = .ok (.aload_n 0, 1) := by decide +kernel
theorem dX5_append_68 : decode cX5_append 68 = .ok (.getfield 13, 3) := by decide +kernel
theorem dX5_append_71 : decode cX5_append 71 = .ok (.ifCond .eq 14, 3) := by decide +kernel
theorem dX5_append_74 : decode cX5_append 74 = .ok (.aload_n 1, 1) := by decide +kernel
theorem dX5_append_75 : decode cX5_append 75 = .ok (.getfield 13, 3) := by decide +kernel
theorem dX5_append_78 : decode cX5_append 78 = .ok (.ifCond .eq 7, 3) := by decide +kernel
theorem dX5_append_81 : decode cX5_append 81 = .ok (.iconst 1, 1) := by decide +kernel
theorem dX5_append_82 : decode cX5_append 82 = .ok (.goto 4, 3) := by decide +kernel
theorem dX5_append_85 : decode cX5_append 85 = .ok (.iconst 0, 1) := by decide +kernel
theorem dX5_append_86 : decode cX5_append 86 = .ok (.putfield 13, 3) := by decide +kernel
theorem dX5_append_89 : decode cX5_append 89 = .ok (.return_, 1) := by decide +kernel
theorem dX5_orElse_0 : decode cX5_orElse 0 = .ok (.aload_n 0, 1) := by decide +kernel
theorem dX5_orElse_1 : decode cX5_orElse 1 = .ok (.dup, 1) := by decide +kernel
theorem dX5_orElse_2 : decode cX5_orElse 2 = .ok (.getfield 17, 3) := by decide +kernel
theorem dX5_orElse_5 : decode cX5_orElse 5 = .ok (.aload_n 1, 1) := by decide +kernel
theorem dX5_orElse_6 : decode cX5_orElse 6 = .ok (.getfield 17, 3) := by decide +kernel
theorem dX5_orElse_9 : decode cX5_orElse 9 = .ok (.lor, 1) := by decide +kernel
theorem dX5_orElse_10 : decode cX5_orElse 10 = .ok (.putfield 17, 3) := by decide +kernel
theorem dX5_orElse_13 : decode cX5_orElse 13 = .ok (.aload_n 0, 1) := by decide +kernel
theorem dX5_orElse_14 : decode cX5_orElse 14 = .ok (.dup, 1) := by decide +kernel
theorem dX5_orElse_15 : decode cX5_orElse 15 = .ok (.getfield 21, 3) := by decide +kernel
theorem dX5_orElse_18 : decode cX5_orElse 18 = .ok (.aload_n 1, 1) := by decide +kernel
theorem dX5_orElse_19 : decode cX5_orElse 19 = .ok (.getfield 21, 3) := by decide +kernel
theorem dX5_orElse_22 : decode cX5_orElse 22 = .ok (.lor, 1) := by decide +kernel
theorem dX5_orElse_23 : decode cX5_orElse 23 = .ok (.putfield 21, 3) := by decide +kernel
theorem dX5_orElse_26 : decode cX5_orElse 26 = .ok (.aload_n 0, 1) := by decide +kernel
theorem dX5_orElse_27 : decode cX5_orElse 27 = .ok (.aload_n 0, 1) := by decide +kernel
theorem dX5_orElse_28 : decode cX5_orElse 28 = .ok (.getfield 13, 3) := by decide +kernel
theorem dX5_orElse_31 : decode cX5_orElse 31 = .ok (.ifCond .ne 10, 3) := by decide +kernel
theorem dX5_orElse_34 : decode cX5_orElse 34 = .ok (.aload_n 1, 1) := by decide +kernel
theorem dX5_orElse_35 : decode cX5_orElse 35 = .ok (.getfield 13, 3) := by decide +kernel
theorem dX5_orElse_38 : decode cX5_orElse 38 = .ok (.ifCond .eq 7, 3) := by decide +kernel
theorem dX5_orElse_41 : decode cX5_orElse 41 = .ok (.iconst 1, 1) := by decide +kernel
theorem dX5_orElse_42 : decode cX5_orElse 42 = .ok (.goto 4, 3) := by decide +kernel
theorem dX5_orElse_45 : decode cX5_orElse 45 = .ok (.iconst 0, 1) := by decide +kernel
theorem dX5_orElse_46 : decode cX5_orElse 46 = .ok (.putfield 13, 3) := by decide +kernel
theorem dX5_orElse_49 : decode cX5_orElse 49 = .ok (.return_, 1) := by decide +kernel
theorem dX6_init_0 : decode cX6_init 0 = .ok (.aload_n 0, 1) := by decide +kernel
theorem dX6_init_1 : decode cX6_init 1 = .ok (.invokespecial 3, 3) := by decide +kernel
theorem dX6_init_4 : decode cX6_init 4 = .ok (.aload_n 0, 1) := by decide +kernel
theorem dX6_init_5 : decode cX6_init 5 = .ok (.iconst (-1), 1) := by decide +kernel
theorem dX6_init_6 : decode cX6_init 6 = .ok (.putfield 9, 3) := by decide +kernel
theorem dX6_init_9 : decode cX6_init 9 = .ok (.aload_n 0, 1) := by decide +kernel
theorem dX6_init_10 : decode cX6_init 10 = .ok (.sipush 200, 3) := by decide +kernel
theorem dX6_init_13 : decode cX6_init 13 = .ok (.newarray .int, 2) := by decide +kernel
theorem dX6_init_15 : decode cX6_init 15 = .ok (.putfield 15, 3) := by decide +kernel
theorem dX6_init_18 : decode cX6_init 18 = .ok (.aload_n 0, 1) := by decide +kernel
theorem dX6_init_19 : decode cX6_init 19 = .ok (.new 19, 3) := by decide +kernel
theorem dX6_init_22 : decode cX6_init 22 = .ok (.dup, 1) := by decide +kernel
theorem dX6_init_23 : decode cX6_init 23 = .ok (.invokespecial 21, 3) := by decide +kernel
theorem dX6_init_26 : decode cX6_init 26 = .ok (.putfield 22, 3) := by decide +kernel
theorem dX6_init_29 : decode cX6_init 29 = .ok (.return_, 1) := by decide +kernel
theorem dX6_append_0 : decode cX6_append 0 = .ok (.iconst 0, 1) := by decide +kernel
theorem dX6_append_1 : decode cX6_append 1 = .ok (.istore 4, 2) := by decide +kernel
theorem dX6_append_3 : decode cX6_append 3 = .ok (.iload 4, 2) := by decide +kernel
theorem dX6_append_5 : decode cX6_append 5 = .ok (.iload_n 3, 1) := by decide +kernel
theorem dX6_append_6 : decode cX6_append 6 = .ok (.if_icmp .ge 44, 3) := by decide +kernel
theorem dX6_append_9 : decode cX6_append 9 = .ok (.aload_n 0, 1) := by decide +kernel
theorem dX6_append_10 : decode cX6_append 10 = .ok (.getfield 26, 3) := by decide +kernel
theorem dX6_append_13 : decode cX6_append 13 = .ok (.sipush 200, 3) := by decide +kernel
theorem dX6_append_16 : decode cX6_append 16 = .ok (.if_icmp .ge 34, 3) := by decide +kernel
theorem dX6_append_19 : decode cX6_append 19 = .ok (.aload_n 0, 1) := by decide +kernel
theorem dX6_append_20 : decode cX6_append 20 = .ok (.getfield 15, 3) := by decide +kernel
theorem dX6_append_23 : decode cX6_append 23 = .ok (.aload_n 0, 1) := by decide +kernel
theorem dX6_append_24 : decode cX6_append 24 = .ok (.getfield 26, 3) := by decide +kernel
theorem dX6_append_27 : decode cX6_append 27 = .ok (.lload_n 1, 1) := by decide +kernel
theorem dX6_append_28 : decode cX6_append 28 = .ok (.iload 4, 2) := by decide +kernel
theorem dX6_append_30 : decode cX6_append 30 = .ok (.invokestatic 29, 3) := by decide +kernel
theorem dX6_append_33 : decode cX6_append 33 = .ok (.iastore, 1) := by decide +kernel
theorem dX6_append_34 : decode cX6_append 34 = .ok (.aload_n 0, 1) := by decide +kernel
theorem dX6_append_35 : decode cX6_append 35 = .ok (.dup, 1) := by decide +kernel
theorem dX6_append_36 : decode cX6_append 36 = .ok (.getfield 26, 3) := by decide +kernel
theorem dX6_append_39 : decode cX6_append 39 = .ok (.iconst 1, 1) := by decide +kernel
theorem dX6_append_40 : decode cX6_append 40 = .ok (.iadd, 1) := by decide +kernel
theorem dX6_append_41 : decode cX6_append 41 = .ok (.putfield 26, 3) := by decide +kernel
theorem dX6_append_44 : decode cX6_append 44 = .ok (.iinc 4 1, 3) := by decide +kernel
theorem dX6_append_47 : decode cX6_append 47 = .ok (.goto (-44), 3) := by decide +kernel
theorem dX6_append_50 : decode cX6_append 50 = .ok (.return_, 1) := by decide +kernel
theorem dX6_layOut_0 : decode cX6_layOut 0 = .ok (.aload_n 0, 1) := by decide +kernel
theorem dX6_layOut_1 : decode cX6_layOut 1 = .ok (.iconst 0, 1) := by decide +kernel
theorem dX6_layOut_2 : decode cX6_layOut 2 = .ok (.putfield 33, 3) := by decide +kernel
theorem dX6_layOut_5 : decode cX6_layOut 5 = .ok (.aload_n 0, 1) := by decide +kernel
theorem dX6_layOut_6 : decode cX6_layOut 6 = .ok (.iconst (-1), 1) := by decide +kernel
theorem dX6_layOut_7 : decode cX6_layOut 7 = .ok (.putfield 9, 3) := by decide +kernel
theorem dX6_layOut_10 : decode cX6_layOut 10 = .ok (.aload_n 0, 1) := by decide +kernel
theorem dX6_layOut_11 : decode cX6_layOut 11 = .ok (.iconst 0, 1) := by decide +kernel
theorem dX6_layOut_12 : decode cX6_layOut 12 = .ok (.putfield 36, 3) := by decide +kernel
theorem dX6_layOut_15 : decode cX6_layOut 15 = .ok (.aload_n 0, 1) := by decide +kernel
theorem dX6_layOut_16 : decode cX6_layOut 16 = .ok (.getfield 22, 3) := by decide +kernel
theorem dX6_layOut_19 : decode cX6_layOut 19 = .ok (.aload_n 1, 1) := by decide +kernel
theorem dX6_layOut_20 : decode cX6_layOut 20 = .ok (.invokevirtual 39, 3) := by decide +kernel
theorem dX6_layOut_23 : decode cX6_layOut 23 = .ok (.iconst 0, 1) := by decide +kernel
theorem dX6_layOut_24 : decode cX6_layOut 24 = .ok (.istore_n 2, 1) := by decide +kernel
theorem dX6_layOut_25 : decode cX6_layOut 25 = .ok (.iload_n 2, 1) := by decide +kernel
theorem dX6_layOut_26 : decode cX6_layOut 26 = .ok (.aload_n 0, 1) := by decide +kernel
theorem dX6_layOut_27 : decode cX6_layOut 27 = .ok (.getfield 26, 3) := by decide +kernel
theorem dX6_layOut_30 : decode cX6_layOut 30 = .ok (.if_icmp .ge 62, 3) := by decide +kernel
theorem dX6_layOut_33 : decode cX6_layOut 33 = .ok (.aload_n 0, 1) := by decide +kernel
theorem dX6_layOut_34 : decode cX6_layOut 34 = .ok (.getfield 33, 3) := by decide +kernel
theorem dX6_layOut_37 : decode cX6_layOut 37 = .ok (.ifCond .ne 55, 3) := by decide +kernel
theorem dX6_layOut_40 : decode cX6_layOut 40 = .ok (.aload_n 0, 1) := by decide +kernel
theorem dX6_layOut_41 : decode cX6_layOut 41 = .ok (.getfield 15, 3) := by decide +kernel
theorem dX6_layOut_44 : decode cX6_layOut 44 = .ok (.iload_n 2, 1) := by decide +kernel
theorem dX6_layOut_45 : decode cX6_layOut 45 = .ok (.iaload, 1) := by decide +kernel
theorem dX6_layOut_46 : decode cX6_layOut 46 = .ok (.istore_n 3, 1) := by decide +kernel
theorem dX6_layOut_47 : decode cX6_layOut 47 = .ok (.aload_n 0, 1) := by decide +kernel
theorem dX6_layOut_48 : decode cX6_layOut 48 = .ok (.getfield 36, 3) := by decide +kernel
theorem dX6_layOut_51 : decode cX6_layOut 51 = .ok (.ifCond .ne 12, 3) := by decide +kernel
theorem dX6_layOut_54 : decode cX6_layOut 54 = .ok (.aload_n 0, 1) := by decide +kernel
theorem dX6_layOut_55 : decode cX6_layOut 55 = .ok (.iload_n 2, 1) := by decide +kernel
theorem dX6_layOut_56 : decode cX6_layOut 56 = .ok (.iload_n 3, 1) := by decide +kernel
theorem dX6_layOut_57 : decode cX6_layOut 57 = .ok (.invokevirtual 43, 3) := by decide +kernel
theorem dX6_layOut_60 : decode cX6_layOut 60 = .ok (.goto 26, 3) := by decide +kernel
theorem dX6_layOut_63 : decode cX6_layOut 63 = .ok (.aload_n 0, 1) := by decide +kernel
theorem dX6_layOut_64 : decode cX6_layOut 64 = .ok (.getfield 36, 3) := by decide +kernel
theorem dX6_layOut_67 : decode cX6_layOut 67 = .ok (.iconst 5, 1) := by decide +kernel
theorem dX6_layOut_68 : decode cX6_layOut 68 = .ok (.if_icmp .gt 12, 3) := by decide +kernel
theorem dX6_layOut_71 : decode cX6_layOut 71 = .ok (.aload_n 0, 1) := by decide +kernel
theorem dX6_layOut_72 : decode cX6_layOut 72 = .ok (.iload_n 2, 1) := by decide +kernel
theorem dX6_layOut_73 : decode cX6_layOut 73 = .ok (.iload_n 3, 1) := by decide +kernel
theorem dX6_layOut_74 : decode cX6_layOut 74 = .ok (.invokevirtual 47, 3) := by decide +kernel
theorem dX6_layOut_77 : decode cX6_layOut 77 = .ok (.goto 9, 3) := by decide +kernel
theorem dX6_layOut_80 : decode cX6_layOut 80 = .ok (.aload_n 0, 1) := by decide +kernel
theorem dX6_layOut_81 : decode cX6_layOut 81 = .ok (.iload_n 2, 1) := by decide +kernel
theorem dX6_layOut_82 : decode cX6_layOut 82 = .ok (.iload_n 3, 1) := by decide +kernel
theorem dX6_layOut_83 : decode cX6_layOut 83 = .ok (.invokevirtual 50, 3) := by decide +kernel
theorem dX6_layOut_86 : decode cX6_layOut 86 = .ok (.iinc 2 1, 3) := by decide +kernel
theorem dX6_layOut_89 : decode cX6_layOut 89 = .ok (.goto (-64), 3) := by decide +kernel
theorem dX6_layOut_92 : decode cX6_layOut 92 = .ok (.aload_n 0, 1) := by decide +kernel
theorem dX6_layOut_93 : decode cX6_layOut 93 = .ok (.getfield 33, 3) := by decide +kernel
theorem dX6_layOut_96 : decode cX6_layOut 96 = .ok (.ifCond .ne 29, 3) := by decide +kernel
theorem dX6_layOut_99 : decode cX6_layOut 99 = .ok (.aload_n 0, 1) := by decide +kernel
theorem dX6_layOut_100 : decode cX6_layOut 100 = .ok (.getfield 36, 3) := by decide +kernel
theorem dX6_layOut_103 : decode cX6_layOut 103 = .ok (.ifCond .ne 13, 3) := by decide +kernel
theorem dX6_layOut_106 : decode cX6_layOut 106 = .ok (.aload_n 0, 1) := by decide +kernel
theorem dX6_layOut_107 : decode cX6_layOut 107 = .ok (.getfield 22, 3) := by decide +kernel
theorem dX6_layOut_110 : decode cX6_layOut 110 = .ok (.getfield 53, 3) := by decide +kernel
theorem dX6_layOut_113 : decode cX6_layOut 113 = .ok (.ifCond .le 12, 3) := by decide +kernel
theorem dX6_layOut_116 : decode cX6_layOut 116 = .ok (.aload_n 0, 1) := by decide +kernel
theorem dX6_layOut_117 : decode cX6_layOut 117 = .ok (.iconst 2, 1) := by decide +kernel
theorem dX6_layOut_118 : decode cX6_layOut 118 = .ok (.aload_n 0, 1) := by decide +kernel
theorem dX6_layOut_119 : decode cX6_layOut 119 = .ok (.getfield 26, 3) := by decide +kernel
theorem dX6_layOut_122 : decode cX6_layOut 122 = .ok (.invokevirtual 56, 3) := by decide +kernel
theorem dX6_layOut_125 : decode cX6_layOut 125 = .ok (.aload_n 0, 1) := by decide +kernel
theorem dX6_layOut_126 : decode cX6_layOut 126 = .ok (.getfield 33, 3) := by decide +kernel
theorem dX6_layOut_129 : decode cX6_layOut 129 = .ok (.ifCond .ne 10, 3) := by decide +kernel
theorem dX6_layOut_132 : decode cX6_layOut 132 = .ok (.aload_n 0, 1) := by decide +kernel
theorem dX6_layOut_133 : decode cX6_layOut 133 = .ok (.getfield 22, 3) := by decide +kernel
theorem dX6_layOut_136 : decode cX6_layOut 136 = .ok (.invokevirtual 59, 3) := by decide +kernel
theorem dX6_layOut_139 : decode cX6_layOut 139 = .ok (.aload_n 0, 1) := by decide +kernel
theorem dX6_layOut_140 : decode cX6_layOut 140 = .ok (.iconst 0, 1) := by decide +kernel
theorem dX6_layOut_141 : decode cX6_layOut 141 = .ok (.putfield 26, 3) := by decide +kernel
theorem dX6_layOut_144 : decode cX6_layOut 144 = .ok (.aload_n 0, 1) := by decide +kernel
theorem dX6_layOut_145 : decode cX6_layOut 145 = .ok (.getfield 33, 3) := by decide +kernel
theorem dX6_layOut_148 : decode cX6_layOut 148 = .ok (.ireturn, 1) := by decide +kernel
theorem dX6_fail_0 : decode cX6_fail 0 = .ok (.aload_n 0, 1) := by decide +kernel
theorem dX6_fail_1 : decode cX6_fail 1 = .ok (.iload_n 1, 1) := by decide +kernel
theorem dX6_fail_2 : decode cX6_fail 2 = .ok (.putfield 33, 3) := by decide +kernel
theorem dX6_fail_5 : decode cX6_fail 5 = .ok (.aload_n 0, 1) := by decide +kernel
theorem dX6_fail_6 : decode cX6_fail 6 = .ok (.iload_n 2, 1) := by decide +kernel
theorem dX6_fail_7 : decode cX6_fail 7 = .ok (.putfield 9, 3) := by decide +kernel
theorem dX6_fail_10 : decode cX6_fail 10 = .ok (.return_, 1) := by decide +kernel
theorem dX6_failUnless_0 : decode cX6_failUnless 0 = .ok (.iload_n 1, 1) := by decide +kernel
theorem dX6_failUnless_1 : decode cX6_failUnless 1 = .ok (.ifCond .ne 9, 3) := by decide +kernel
theorem dX6_failUnless_4 : decode cX6_failUnless 4 = .ok (.aload_n 0, 1) := by decide +kernel
theorem dX6_failUnless_5 : decode cX6_failUnless 5 = .ok (.iload_n 2, 1) := by decide +kernel
theorem dX6_failUnless_6 : decode cX6_failUnless 6 = .ok (.iload_n 3, 1) := by decide +kernel
theorem dX6_failUnless_7 : decode cX6_failUnless 7 = .ok (.invokevirtual 56, 3) := by decide +kernel
theorem dX6_failUnless_10 : decode cX6_failUnless 10 = .ok (.return_, 1) := by decide +kernel
theorem dX6_takeInRow_0 : decode cX6_takeInRow 0 = .ok (.iload_n 2, 1) := by decide +kernel
theorem dX6_takeInRow_1 : decode cX6_takeInRow 1 = .ok (.invokestatic 62, 3) := by decide +kernel
theorem dX6_takeInRow_4 : decode cX6_takeInRow 4 = .ok (.istore_n 3, 1) := by decide +kernel
theorem dX6_takeInRow_5 : decode cX6_takeInRow 5 = .ok (.iload_n 3, 1) := by decide +kernel
theorem dX6_takeInRow_6 : decode cX6_takeInRow 6 = .ok (.iconst (-1), 1) := by decide +kernel
theorem dX6_takeInRow_7 : decode cX6_takeInRow 7 = .ok (.if_icmp .eq 22, 3) := by decide +kernel
theorem dX6_takeInRow_10 : decode cX6_takeInRow 10 = .ok (.aload_n 0, 1) := by decide +kernel
theorem dX6_takeInRow_11 : decode cX6_takeInRow 11 = .ok (.aload_n 0, 1) := by decide +kernel
theorem dX6_takeInRow_12 : decode cX6_takeInRow 12 = .ok (.getfield 22, 3) := by decide +kernel
theorem dX6_takeInRow_15 : decode cX6_takeInRow 15 = .ok (.lconst 1, 1) := by decide +kernel
theorem dX6_takeInRow_16 : decode cX6_takeInRow 16 = .ok (.iload_n 3, 1) := by decide +kernel
theorem dX6_takeInRow_17 : decode cX6_takeInRow 17 = .ok (.lshl, 1) := by decide +kernel
theorem dX6_takeInRow_18 : decode cX6_takeInRow 18 = .ok (.invokevirtual 66, 3) := by decide +kernel
theorem dX6_takeInRow_21 : decode cX6_takeInRow 21 = .ok (.iconst 4, 1) := by decide +kernel
theorem dX6_takeInRow_22 : decode cX6_takeInRow 22 = .ok (.iload_n 1, 1) := by decide +kernel
theorem dX6_takeInRow_23 : decode cX6_takeInRow 23 = .ok (.invokevirtual 70, 3) := by decide +kernel
theorem dX6_takeInRow_26 : decode cX6_takeInRow 26 = .ok (.goto 138, 3) := by decide +kernel
theorem dX6_takeInRow_29 : decode cX6_takeInRow 29 = .ok (.iload_n 2, 1) := by decide +kernel
theorem dX6_takeInRow_30 : decode cX6_takeInRow 30 = .ok (.bipush 46, 2) := by decide +kernel
theorem dX6_takeInRow_32 : decode cX6_takeInRow 32 = .ok (.if_icmp .ne 22, 3) := by decide +kernel
theorem dX6_takeInRow_35 : decode cX6_takeInRow 35 = .ok (.aload_n 0, 1) := by decide +kernel
theorem dX6_takeInRow_36 : decode cX6_takeInRow 36 = .ok (.aload_n 0, 1) := by decide +kernel
theorem dX6_takeInRow_37 : decode cX6_takeInRow 37 = .ok (.getfield 22, 3) := by decide +kernel
theorem dX6_takeInRow_40 : decode cX6_takeInRow 40 = .ok (.ldc2_w 74, 3) := by decide +kernel
theorem dX6_takeInRow_43 : decode cX6_takeInRow 43 = .ok (.invokevirtual 66, 3) := by decide +kernel
theorem dX6_takeInRow_46 : decode cX6_takeInRow 46 = .ok (.iconst 4, 1) := by decide +kernel
theorem dX6_takeInRow_47 : decode cX6_takeInRow 47 = .ok (.iload_n 1, 1) := by decide +kernel
theorem dX6_takeInRow_48 : decode cX6_takeInRow 48 = .ok (.invokevirtual 70, 3) := by decide +kernel
theorem dX6_takeInRow_51 : decode cX6_takeInRow 51 = .ok (.goto 113, 3) := by decide +kernel
theorem dX6_takeInRow_54 : decode cX6_takeInRow 54 = .ok (.iload_n 2, 1) := by decide +kernel
theorem dX6_takeInRow_55 : decode cX6_takeInRow 55 = .ok (.bipush 91, 2) := by decide +kernel
theorem dX6_takeInRow_57 : decode cX6_takeInRow 57 = .ok (.if_icmp .ne 11, 3) := by decide +kernel
theorem dX6_takeInRow_60 : decode cX6_takeInRow 60 = .ok (.aload_n 0, 1) := by decide +kernel
theorem dX6_takeInRow_61 : decode cX6_takeInRow 61 = .ok (.iload_n 1, 1) := by decide +kernel
theorem dX6_takeInRow_62 : decode cX6_takeInRow 62 = .ok (.invokevirtual 76, 3) := by decide +kernel
theorem dX6_takeInRow_65 : decode cX6_takeInRow 65 = .ok (.goto 99, 3) := by decide +kernel
theorem dX6_takeInRow_68 : decode cX6_takeInRow 68 = .ok (.iload_n 2, 1) := by decide +kernel
theorem dX6_takeInRow_69 : decode cX6_takeInRow 69 = .ok (.bipush 40, 2) := by decide +kernel
theorem dX6_takeInRow_71 : decode cX6_takeInRow 71 = .ok (.if_icmp .ne 19, 3) := by decide +kernel
theorem dX6_takeInRow_74 : decode cX6_takeInRow 74 = .ok (.aload_n 0, 1) := by decide +kernel
theorem dX6_takeInRow_75 : decode cX6_takeInRow 75 = .ok (.aload_n 0, 1) := by decide +kernel
theorem dX6_takeInRow_76 : decode cX6_takeInRow 76 = .ok (.getfield 22, 3) := by decide +kernel
theorem dX6_takeInRow_79 : decode cX6_takeInRow 79 = .ok (.invokevirtual 80, 3) := by decide +kernel
theorem dX6_takeInRow_82 : decode cX6_takeInRow 82 = .ok (.iconst 5, 1) := by decide +kernel
theorem dX6_takeInRow_83 : decode cX6_takeInRow 83 = .ok (.iload_n 1, 1) := by decide +kernel
theorem dX6_takeInRow_84 : decode cX6_takeInRow 84 = .ok (.invokevirtual 70, 3) := by decide +kernel
theorem dX6_takeInRow_87 : decode cX6_takeInRow 87 = .ok (.goto 77, 3) := by decide +kernel
theorem dX6_takeInRow_90 : decode cX6_takeInRow 90 = .ok (.iload_n 2, 1) := by decide +kernel
theorem dX6_takeInRow_91 : decode cX6_takeInRow 91 = .ok (.bipush 124, 2) := by decide +kernel
theorem dX6_takeInRow_93 : decode cX6_takeInRow 93 = .ok (.if_icmp .ne 13, 3) := by decide +kernel
theorem dX6_takeInRow_96 : decode cX6_takeInRow 96 = .ok (.aload_n 0, 1) := by decide +kernel
theorem dX6_takeInRow_97 : decode cX6_takeInRow 97 = .ok (.getfield 22, 3) := by decide +kernel
theorem dX6_takeInRow_100 : decode cX6_takeInRow 100 = .ok (.invokevirtual 84, 3) := by decide +kernel
theorem dX6_takeInRow_103 : decode cX6_takeInRow 103 = .ok (.goto 61, 3) := by decide +kernel
theorem dX6_takeInRow_106 : decode cX6_takeInRow 106 = .ok (.iload_n 2, 1) := by decide +kernel
theorem dX6_takeInRow_107 : decode cX6_takeInRow 107 = .ok (.bipush 41, 2) := by decide +kernel
theorem dX6_takeInRow_109 : decode cX6_takeInRow 109 = .ok (.if_icmp .ne 30, 3) := by decide +kernel
theorem dX6_takeInRow_112 : decode cX6_takeInRow 112 = .ok (.aload_n 0, 1) := by decide +kernel
theorem dX6_takeInRow_113 : decode cX6_takeInRow 113 = .ok (.getfield 22, 3) := by decide +kernel
theorem dX6_takeInRow_116 : decode cX6_takeInRow 116 = .ok (.getfield 53, 3) := by decide +kernel
theorem dX6_takeInRow_119 : decode cX6_takeInRow 119 = .ok (.ifCond .le 20, 3) := by decide +kernel
theorem dX6_takeInRow_122 : decode cX6_takeInRow 122 = .ok (.aload_n 0, 1) := by decide +kernel
theorem dX6_takeInRow_123 : decode cX6_takeInRow 123 = .ok (.getfield 22, 3) := by decide +kernel
theorem dX6_takeInRow_126 : decode cX6_takeInRow 126 = .ok (.invokevirtual 84, 3) := by decide +kernel
theorem dX6_takeInRow_129 : decode cX6_takeInRow 129 = .ok (.aload_n 0, 1) := by decide +kernel
theorem dX6_takeInRow_130 : decode cX6_takeInRow 130 = .ok (.getfield 22, 3) := by decide +kernel
theorem dX6_takeInRow_133 : decode cX6_takeInRow 133 = .ok (.invokevirtual 87, 3) := by decide +kernel
theorem dX6_takeInRow_136 : decode cX6_takeInRow 136 = .ok (.goto 28, 3) := by decide +kernel
theorem dX6_takeInRow_139 : decode cX6_takeInRow 139 = .ok (.aload_n 0, 1) := by decide +kernel
theorem dX6_takeInRow_140 : decode cX6_takeInRow 140 = .ok (.getfield 22, 3) := by decide +kernel
theorem dX6_takeInRow_143 : decode cX6_takeInRow 143 = .ok (.getfield 90, 3) := by decide +kernel
theorem dX6_takeInRow_146 : decode cX6_takeInRow 146 = .ok (.ifCond .eq 12, 3) := by decide +kernel
theorem dX6_takeInRow_149 : decode cX6_takeInRow 149 = .ok (.aload_n 0, 1) := by decide +kernel
theorem dX6_takeInRow_150 : decode cX6_takeInRow 150 = .ok (.iload_n 1, 1) := by decide +kernel
theorem dX6_takeInRow_151 : decode cX6_takeInRow 151 = .ok (.iload_n 2, 1) := by decide +kernel
theorem dX6_takeInRow_152 : decode cX6_takeInRow 152 = .ok (.invokevirtual 94, 3) := by decide +kernel
theorem dX6_takeInRow_155 : decode cX6_takeInRow 155 = .ok (.goto 9, 3) := by decide +kernel
theorem dX6_takeInRow_158 : decode cX6_takeInRow 158 = .ok (.aload_n 0, 1) := by decide +kernel
theorem dX6_takeInRow_159 : decode cX6_takeInRow 159 = .ok (.iconst 1, 1) := by decide +kernel
theorem dX6_takeInRow_160 : decode cX6_takeInRow 160 = .ok (.iload_n 1, 1) := by decide +kernel
theorem dX6_takeInRow_161 : decode cX6_takeInRow 161 = .ok (.invokevirtual 56, 3) := by decide +kernel
theorem dX6_takeInRow_164 : decode cX6_takeInRow 164 = .ok (.return_, 1) := by decide +kernel
theorem dX6_takeSuffix_0 : decode cX6_takeSuffix 0 = .ok (.iload_n 2, 1) := by decide +kernel
theorem dX6_takeSuffix_1 : decode cX6_takeSuffix 1 = .ok (.lookupswitch 94 #[(42, 43), (43, 60), (63, 70), (123, 80)], 43) := by decide +kernel
theorem dX6_takeSuffix_44 : decode cX6_takeSuffix 44 = .ok (.aload_n 0, 1) := by decide +kernel
theorem dX6_takeSuffix_45 : decode cX6_takeSuffix 45 = .ok (.getfield 22, 3) := by decide +kernel
theorem dX6_takeSuffix_48 : decode cX6_takeSuffix 48 = .ok (.invokevirtual 97, 3) := by decide +kernel
theorem dX6_takeSuffix_51 : decode cX6_takeSuffix 51 = .ok (.aload_n 0, 1) := by decide +kernel
theorem dX6_takeSuffix_52 : decode cX6_takeSuffix 52 = .ok (.getfield 22, 3) := by decide +kernel
theorem dX6_takeSuffix_55 : decode cX6_takeSuffix 55 = .ok (.invokevirtual 100, 3) := by decide +kernel
theorem dX6_takeSuffix_58 : decode cX6_takeSuffix 58 = .ok (.goto 43, 3) := by decide +kernel
theorem dX6_takeSuffix_61 : decode cX6_takeSuffix 61 = .ok (.aload_n 0, 1) := by decide +kernel
theorem dX6_takeSuffix_62 : decode cX6_takeSuffix 62 = .ok (.getfield 22, 3) := by decide +kernel
theorem dX6_takeSuffix_65 : decode cX6_takeSuffix 65 = .ok (.invokevirtual 97, 3) := by decide +kernel
theorem dX6_takeSuffix_68 : decode cX6_takeSuffix 68 = .ok (.goto 33, 3) := by decide +kernel
theorem dX6_takeSuffix_71 : decode cX6_takeSuffix 71 = .ok (.aload_n 0, 1) := by decide +kernel
theorem dX6_takeSuffix_72 : decode cX6_takeSuffix 72 = .ok (.getfield 22, 3) := by decide +kernel
theorem dX6_takeSuffix_75 : decode cX6_takeSuffix 75 = .ok (.invokevirtual 100, 3) := by decide +kernel
theorem dX6_takeSuffix_78 : decode cX6_takeSuffix 78 = .ok (.goto 23, 3) := by decide +kernel
theorem dX6_takeSuffix_81 : decode cX6_takeSuffix 81 = .ok (.aload_n 0, 1) := by decide +kernel
theorem dX6_takeSuffix_82 : decode cX6_takeSuffix 82 = .ok (.iload_n 1, 1) := by decide +kernel
theorem dX6_takeSuffix_83 : decode cX6_takeSuffix 83 = .ok (.putfield 103, 3) := by decide +kernel
theorem dX6_takeSuffix_86 : decode cX6_takeSuffix 86 = .ok (.aload_n 0, 1) := by decide +kernel
theorem dX6_takeSuffix_87 : decode cX6_takeSuffix 87 = .ok (.bipush 6, 2) := by decide +kernel
theorem dX6_takeSuffix_89 : decode cX6_takeSuffix 89 = .ok (.putfield 36, 3) := by decide +kernel
theorem dX6_takeSuffix_92 : decode cX6_takeSuffix 92 = .ok (.goto 9, 3) := by decide +kernel
theorem dX6_takeSuffix_95 : decode cX6_takeSuffix 95 = .ok (.aload_n 0, 1) := by decide +kernel
theorem dX6_takeSuffix_96 : decode cX6_takeSuffix 96 = .ok (.iconst 1, 1) := by decide +kernel
theorem dX6_takeSuffix_97 : decode cX6_takeSuffix 97 = .ok (.iload_n 1, 1) := by decide +kernel
theorem dX6_takeSuffix_98 : decode cX6_takeSuffix 98 = .ok (.invokevirtual 56, 3) := by decide +kernel
theorem dX6_takeSuffix_101 : decode cX6_takeSuffix 101 = .ok (.return_, 1) := by decide +kernel
theorem dX6_openSet_0 : decode cX6_openSet 0 = .ok (.aload_n 0, 1) := by decide +kernel
theorem dX6_openSet_1 : decode cX6_openSet 1 = .ok (.iload_n 1, 1) := by decide +kernel
theorem dX6_openSet_2 : decode cX6_openSet 2 = .ok (.putfield 103, 3) := by decide +kernel
theorem dX6_openSet_5 : decode cX6_openSet 5 = .ok (.aload_n 0, 1) := by decide +kernel
theorem dX6_openSet_6 : decode cX6_openSet 6 = .ok (.lconst 0, 1) := by decide +kernel
theorem dX6_openSet_7 : decode cX6_openSet 7 = .ok (.putfield 106, 3) := by decide +kernel
theorem dX6_openSet_10 : decode cX6_openSet 10 = .ok (.aload_n 0, 1) := by decide +kernel
theorem dX6_openSet_11 : decode cX6_openSet 11 = .ok (.iconst 0, 1) := by decide +kernel
theorem dX6_openSet_12 : decode cX6_openSet 12 = .ok (.putfield 110, 3) := by decide +kernel
theorem dX6_openSet_15 : decode cX6_openSet 15 = .ok (.aload_n 0, 1) := by decide +kernel
theorem dX6_openSet_16 : decode cX6_openSet 16 = .ok (.iconst 1, 1) := by decide +kernel
theorem dX6_openSet_17 : decode cX6_openSet 17 = .ok (.putfield 36, 3) := by decide +kernel
theorem dX6_openSet_20 : decode cX6_openSet 20 = .ok (.return_, 1) := by decide +kernel
theorem dX6_takeInSet_0 : decode cX6_takeInSet 0 = .ok (.iload_n 2, 1) := by decide +kernel
theorem dX6_takeInSet_1 : decode cX6_takeInSet 1 = .ok (.invokestatic 62, 3) := by decide +kernel
theorem dX6_takeInSet_4 : decode cX6_takeInSet 4 = .ok (.istore_n 3, 1) := by decide +kernel
theorem dX6_takeInSet_5 : decode cX6_takeInSet 5 = .ok (.iload_n 3, 1) := by decide +kernel
theorem dX6_takeInSet_6 : decode cX6_takeInSet 6 = .ok (.iconst (-1), 1) := by decide +kernel
theorem dX6_takeInSet_7 : decode cX6_takeInSet 7 = .ok (.if_icmp .eq 12, 3) := by decide +kernel
theorem dX6_takeInSet_10 : decode cX6_takeInSet 10 = .ok (.aload_n 0, 1) := by decide +kernel
theorem dX6_takeInSet_11 : decode cX6_takeInSet 11 = .ok (.iload_n 1, 1) := by decide +kernel
theorem dX6_takeInSet_12 : decode cX6_takeInSet 12 = .ok (.iload_n 3, 1) := by decide +kernel
theorem dX6_takeInSet_13 : decode cX6_takeInSet 13 = .ok (.invokevirtual 113, 3) := by decide +kernel
theorem dX6_takeInSet_16 : decode cX6_takeInSet 16 = .ok (.goto 130, 3) := by decide +kernel
theorem dX6_takeInSet_19 : decode cX6_takeInSet 19 = .ok (.iload_n 2, 1) := by decide +kernel
theorem dX6_takeInSet_20 : decode cX6_takeInSet 20 = .ok (.bipush 94, 2) := by decide +kernel
theorem dX6_takeInSet_22 : decode cX6_takeInSet 22 = .ok (.if_icmp .ne 24, 3) := by decide +kernel
theorem dX6_takeInSet_25 : decode cX6_takeInSet 25 = .ok (.aload_n 0, 1) := by decide +kernel
theorem dX6_takeInSet_26 : decode cX6_takeInSet 26 = .ok (.getfield 36, 3) := by decide +kernel
theorem dX6_takeInSet_29 : decode cX6_takeInSet 29 = .ok (.iconst 1, 1) := by decide +kernel
theorem dX6_takeInSet_30 : decode cX6_takeInSet 30 = .ok (.if_icmp .ne 16, 3) := by decide +kernel
theorem dX6_takeInSet_33 : decode cX6_takeInSet 33 = .ok (.aload_n 0, 1) := by decide +kernel
theorem dX6_takeInSet_34 : decode cX6_takeInSet 34 = .ok (.iconst 1, 1) := by decide +kernel
theorem dX6_takeInSet_35 : decode cX6_takeInSet 35 = .ok (.putfield 110, 3) := by decide +kernel
theorem dX6_takeInSet_38 : decode cX6_takeInSet 38 = .ok (.aload_n 0, 1) := by decide +kernel
theorem dX6_takeInSet_39 : decode cX6_takeInSet 39 = .ok (.iconst 2, 1) := by decide +kernel
theorem dX6_takeInSet_40 : decode cX6_takeInSet 40 = .ok (.putfield 36, 3) := by decide +kernel
theorem dX6_takeInSet_43 : decode cX6_takeInSet 43 = .ok (.goto 103, 3) := by decide +kernel
theorem dX6_takeInSet_46 : decode cX6_takeInSet 46 = .ok (.iload_n 2, 1) := by decide +kernel
theorem dX6_takeInSet_47 : decode cX6_takeInSet 47 = .ok (.bipush 45, 2) := by decide +kernel
theorem dX6_takeInSet_49 : decode cX6_takeInSet 49 = .ok (.if_icmp .ne 19, 3) := by decide +kernel
theorem dX6_takeInSet_52 : decode cX6_takeInSet 52 = .ok (.aload_n 0, 1) := by decide +kernel
theorem dX6_takeInSet_53 : decode cX6_takeInSet 53 = .ok (.getfield 36, 3) := by decide +kernel
theorem dX6_takeInSet_56 : decode cX6_takeInSet 56 = .ok (.iconst 3, 1) := by decide +kernel
theorem dX6_takeInSet_57 : decode cX6_takeInSet 57 = .ok (.if_icmp .ne 11, 3) := by decide +kernel
theorem dX6_takeInSet_60 : decode cX6_takeInSet 60 = .ok (.aload_n 0, 1) := by decide +kernel
theorem dX6_takeInSet_61 : decode cX6_takeInSet 61 = .ok (.iconst 4, 1) := by decide +kernel
theorem dX6_takeInSet_62 : decode cX6_takeInSet 62 = .ok (.putfield 36, 3) := by decide +kernel
theorem dX6_takeInSet_65 : decode cX6_takeInSet 65 = .ok (.goto 81, 3) := by decide +kernel
theorem dX6_takeInSet_68 : decode cX6_takeInSet 68 = .ok (.iload_n 2, 1) := by decide +kernel
theorem dX6_takeInSet_69 : decode cX6_takeInSet 69 = .ok (.bipush 93, 2) := by decide +kernel
theorem dX6_takeInSet_71 : decode cX6_takeInSet 71 = .ok (.if_icmp .ne 69, 3) := by decide +kernel
theorem dX6_takeInSet_74 : decode cX6_takeInSet 74 = .ok (.aload_n 0, 1) := by decide +kernel
theorem dX6_takeInSet_75 : decode cX6_takeInSet 75 = .ok (.getfield 36, 3) := by decide +kernel
theorem dX6_takeInSet_78 : decode cX6_takeInSet 78 = .ok (.iconst 3, 1) := by decide +kernel
theorem dX6_takeInSet_79 : decode cX6_takeInSet 79 = .ok (.if_icmp .eq 11, 3) := by decide +kernel
theorem dX6_takeInSet_82 : decode cX6_takeInSet 82 = .ok (.aload_n 0, 1) := by decide +kernel
theorem dX6_takeInSet_83 : decode cX6_takeInSet 83 = .ok (.getfield 36, 3) := by decide +kernel
theorem dX6_takeInSet_86 : decode cX6_takeInSet 86 = .ok (.iconst 5, 1) := by decide +kernel
theorem dX6_takeInSet_87 : decode cX6_takeInSet 87 = .ok (.if_icmp .ne 53, 3) := by decide +kernel
theorem dX6_takeInSet_90 : decode cX6_takeInSet 90 = .ok (.aload_n 0, 1) := by decide +kernel
theorem dX6_takeInSet_91 : decode cX6_takeInSet 91 = .ok (.iconst 0, 1) := by decide +kernel
theorem dX6_takeInSet_92 : decode cX6_takeInSet 92 = .ok (.putfield 36, 3) := by decide +kernel
theorem dX6_takeInSet_95 : decode cX6_takeInSet 95 = .ok (.aload_n 0, 1) := by decide +kernel
theorem dX6_takeInSet_96 : decode cX6_takeInSet 96 = .ok (.aload_n 0, 1) := by decide +kernel
theorem dX6_takeInSet_97 : decode cX6_takeInSet 97 = .ok (.getfield 22, 3) := by decide +kernel
theorem dX6_takeInSet_100 : decode cX6_takeInSet 100 = .ok (.aload_n 0, 1) := by decide +kernel
theorem dX6_takeInSet_101 : decode cX6_takeInSet 101 = .ok (.getfield 110, 3) := by decide +kernel
theorem dX6_takeInSet_104 : decode cX6_takeInSet 104 = .ok (.ifCond .eq 18, 3) := by decide +kernel
theorem dX6_takeInSet_107 : decode cX6_takeInSet 107 = .ok (.ldc2_w 74, 3) := by decide +kernel
theorem dX6_takeInSet_110 : decode cX6_takeInSet 110 = .ok (.aload_n 0, 1) := by decide +kernel
theorem dX6_takeInSet_111 : decode cX6_takeInSet 111 = .ok (.getfield 106, 3) := by decide +kernel
theorem dX6_takeInSet_114 : decode cX6_takeInSet 114 = .ok (.ldc2_w 116, 3) := by decide +kernel
theorem dX6_takeInSet_117 : decode cX6_takeInSet 117 = .ok (.lxor, 1) := by decide +kernel
theorem dX6_takeInSet_118 : decode cX6_takeInSet 118 = .ok (.land, 1) := by decide +kernel
theorem dX6_takeInSet_119 : decode cX6_takeInSet 119 = .ok (.goto 7, 3) := by decide +kernel
theorem dX6_takeInSet_122 : decode cX6_takeInSet 122 = .ok (.aload_n 0, 1) := by decide +kernel
theorem dX6_takeInSet_123 : decode cX6_takeInSet 123 = .ok (.getfield 106, 3) := by decide +kernel
theorem dX6_takeInSet_126 : decode cX6_takeInSet 126 = .ok (.invokevirtual 66, 3) := by decide +kernel
theorem dX6_takeInSet_129 : decode cX6_takeInSet 129 = .ok (.iconst 4, 1) := by decide +kernel
theorem dX6_takeInSet_130 : decode cX6_takeInSet 130 = .ok (.aload_n 0, 1) := by decide +kernel
theorem dX6_takeInSet_131 : decode cX6_takeInSet 131 = .ok (.getfield 103, 3) := by decide +kernel
theorem dX6_takeInSet_134 : decode cX6_takeInSet 134 = .ok (.invokevirtual 70, 3) := by decide +kernel
theorem dX6_takeInSet_137 : decode cX6_takeInSet 137 = .ok (.goto 9, 3) := by decide +kernel
theorem dX6_takeInSet_140 : decode cX6_takeInSet 140 = .ok (.aload_n 0, 1) := by decide +kernel
theorem dX6_takeInSet_141 : decode cX6_takeInSet 141 = .ok (.iconst 1, 1) := by decide +kernel
theorem dX6_takeInSet_142 : decode cX6_takeInSet 142 = .ok (.iload_n 1, 1) := by decide +kernel
theorem dX6_takeInSet_143 : decode cX6_takeInSet 143 = .ok (.invokevirtual 56, 3) := by decide +kernel
theorem dX6_takeInSet_146 : decode cX6_takeInSet 146 = .ok (.return_, 1) := by decide +kernel
theorem dX6_takeSetLetter_0 : decode cX6_takeSetLetter 0 = .ok (.aload_n 0, 1) := by decide +kernel
theorem dX6_takeSetLetter_1 : decode cX6_takeSetLetter 1 = .ok (.getfield 36, 3) := by decide +kernel
theorem dX6_takeSetLetter_4 : decode cX6_takeSetLetter 4 = .ok (.iconst 4, 1) := by decide +kernel
theorem dX6_takeSetLetter_5 : decode cX6_takeSetLetter 5 = .ok (.if_icmp .eq 33, 3) := by decide +kernel
theorem dX6_takeSetLetter_8 : decode cX6_takeSetLetter 8 = .ok (.aload_n 0, 1) := by decide +kernel
theorem dX6_takeSetLetter_9 : decode cX6_takeSetLetter 9 = .ok (.dup, 1) := by decide +kernel
theorem dX6_takeSetLetter_10 : decode cX6_takeSetLetter 10 = .ok (.getfield 106, 3) := by decide +kernel
theorem dX6_takeSetLetter_13 : decode cX6_takeSetLetter 13 = .ok (.lconst 1, 1) := by decide +kernel
theorem dX6_takeSetLetter_14 : decode cX6_takeSetLetter 14 = .ok (.iload_n 2, 1) := by decide +kernel
theorem dX6_takeSetLetter_15 : decode cX6_takeSetLetter 15 = .ok (.lshl, 1) := by decide +kernel
theorem dX6_takeSetLetter_16 : decode cX6_takeSetLetter 16 = .ok (.lor, 1) := by decide +kernel
theorem dX6_takeSetLetter_17 : decode cX6_takeSetLetter 17 = .ok (.putfield 106, 3) := by decide +kernel
theorem dX6_takeSetLetter_20 : decode cX6_takeSetLetter 20 = .ok (.aload_n 0, 1) := by decide +kernel
theorem dX6_takeSetLetter_21 : decode cX6_takeSetLetter 21 = .ok (.iload_n 2, 1) := by decide +kernel
theorem dX6_takeSetLetter_22 : decode cX6_takeSetLetter 22 = .ok (.putfield 118, 3) := by decide +kernel
theorem dX6_takeSetLetter_25 : decode cX6_takeSetLetter 25 = .ok (.aload_n 0, 1) := by decide +kernel
theorem dX6_takeSetLetter_26 : decode cX6_takeSetLetter 26 = .ok (.iload_n 1, 1) := by decide +kernel
theorem dX6_takeSetLetter_27 : decode cX6_takeSetLetter 27 = .ok (.putfield 121, 3) := by decide +kernel
theorem dX6_takeSetLetter_30 : decode cX6_takeSetLetter 30 = .ok (.aload_n 0, 1) := by decide +kernel
theorem dX6_takeSetLetter_31 : decode cX6_takeSetLetter 31 = .ok (.iconst 3, 1) := by decide +kernel
theorem dX6_takeSetLetter_32 : decode cX6_takeSetLetter 32 = .ok (.putfield 36, 3) := by decide +kernel
theorem dX6_takeSetLetter_35 : decode cX6_takeSetLetter 35 = .ok (.goto 50, 3) := by decide +kernel
theorem dX6_takeSetLetter_38 : decode cX6_takeSetLetter 38 = .ok (.aload_n 0, 1) := by decide +kernel
theorem dX6_takeSetLetter_39 : decode cX6_takeSetLetter 39 = .ok (.getfield 118, 3) := by decide +kernel
theorem dX6_takeSetLetter_42 : decode cX6_takeSetLetter 42 = .ok (.iload_n 2, 1) := by decide +kernel
theorem dX6_takeSetLetter_43 : decode cX6_takeSetLetter 43 = .ok (.if_icmp .le 16, 3) := by decide +kernel
theorem dX6_takeSetLetter_46 : decode cX6_takeSetLetter 46 = .ok (.aload_n 0, 1) := by decide +kernel
theorem dX6_takeSetLetter_47 : decode cX6_takeSetLetter 47 = .ok (.bipush 6, 2) := by decide +kernel
theorem dX6_takeSetLetter_49 : decode cX6_takeSetLetter 49 = .ok (.aload_n 0, 1) := by decide +kernel
theorem dX6_takeSetLetter_50 : decode cX6_takeSetLetter 50 = .ok (.getfield 121, 3) := by decide +kernel
theorem dX6_takeSetLetter_53 : decode cX6_takeSetLetter 53 = .ok (.invokevirtual 56, 3) := by decide +kernel
theorem dX6_takeSetLetter_56 : decode cX6_takeSetLetter 56 = .ok (.goto 29, 3) := by decide +kernel
theorem dX6_takeSetLetter_59 : decode cX6_takeSetLetter 59 = .ok (.aload_n 0, 1) := by decide +kernel
theorem dX6_takeSetLetter_60 : decode cX6_takeSetLetter 60 = .ok (.dup, 1) := by decide +kernel
theorem dX6_takeSetLetter_61 : decode cX6_takeSetLetter 61 = .ok (.getfield 106, 3) := by decide +kernel
theorem dX6_takeSetLetter_64 : decode cX6_takeSetLetter 64 = .ok (.ldc2_w 124, 3) := by decide +kernel
theorem dX6_takeSetLetter_67 : decode cX6_takeSetLetter 67 = .ok (.iload_n 2, 1) := by decide +kernel
theorem dX6_takeSetLetter_68 : decode cX6_takeSetLetter 68 = .ok (.lshl, 1) := by decide +kernel
theorem dX6_takeSetLetter_69 : decode cX6_takeSetLetter 69 = .ok (.lconst 1, 1) := by decide +kernel
theorem dX6_takeSetLetter_70 : decode cX6_takeSetLetter 70 = .ok (.aload_n 0, 1) := by decide +kernel
theorem dX6_takeSetLetter_71 : decode cX6_takeSetLetter 71 = .ok (.getfield 118, 3) := by decide +kernel
theorem dX6_takeSetLetter_74 : decode cX6_takeSetLetter 74 = .ok (.lshl, 1) := by decide +kernel
theorem dX6_takeSetLetter_75 : decode cX6_takeSetLetter 75 = .ok (.lsub, 1) := by decide +kernel
theorem dX6_takeSetLetter_76 : decode cX6_takeSetLetter 76 = .ok (.lor, 1) := by decide +kernel
theorem dX6_takeSetLetter_77 : decode cX6_takeSetLetter 77 = .ok (.putfield 106, 3) := by decide +kernel
theorem dX6_takeSetLetter_80 : decode cX6_takeSetLetter 80 = .ok (.aload_n 0, 1) := by decide +kernel
theorem dX6_takeSetLetter_81 : decode cX6_takeSetLetter 81 = .ok (.iconst 5, 1) := by decide +kernel
theorem dX6_takeSetLetter_82 : decode cX6_takeSetLetter 82 = .ok (.putfield 36, 3) := by decide +kernel
theorem dX6_takeSetLetter_85 : decode cX6_takeSetLetter 85 = .ok (.return_, 1) := by decide +kernel
theorem dX6_takeInTimes_0 : decode cX6_takeInTimes 0 = .ok (.iload_n 2, 1) := by decide +kernel
theorem dX6_takeInTimes_1 : decode cX6_takeInTimes 1 = .ok (.bipush 48, 2) := by decide +kernel
theorem dX6_takeInTimes_3 : decode cX6_takeInTimes 3 = .ok (.if_icmp .lt 13, 3) := by decide +kernel
theorem dX6_takeInTimes_6 : decode cX6_takeInTimes 6 = .ok (.iload_n 2, 1) := by decide +kernel
theorem dX6_takeInTimes_7 : decode cX6_takeInTimes 7 = .ok (.bipush 57, 2) := by decide +kernel
theorem dX6_takeInTimes_9 : decode cX6_takeInTimes 9 = .ok (.if_icmp .gt 7, 3) := by decide +kernel
theorem dX6_takeInTimes_12 : decode cX6_takeInTimes 12 = .ok (.iconst 1, 1) := by decide +kernel
theorem dX6_takeInTimes_13 : decode cX6_takeInTimes 13 = .ok (.goto 4, 3) := by decide +kernel
theorem dX6_takeInTimes_16 : decode cX6_takeInTimes 16 = .ok (.iconst 0, 1) := by decide +kernel
theorem dX6_takeInTimes_17 : decode cX6_takeInTimes 17 = .ok (.istore_n 3, 1) := by decide +kernel
theorem dX6_takeInTimes_18 : decode cX6_takeInTimes 18 = .ok (.iload_n 3, 1) := by decide +kernel
theorem dX6_takeInTimes_19 : decode cX6_takeInTimes 19 = .ok (.ifCond .eq 37, 3) := by decide +kernel
theorem dX6_takeInTimes_22 : decode cX6_takeInTimes 22 = .ok (.aload_n 0, 1) := by decide +kernel
theorem dX6_takeInTimes_23 : decode cX6_takeInTimes 23 = .ok (.getfield 36, 3) := by decide +kernel
theorem dX6_takeInTimes_26 : decode cX6_takeInTimes 26 = .ok (.bipush 6, 2) := by decide +kernel
theorem dX6_takeInTimes_28 : decode cX6_takeInTimes 28 = .ok (.if_icmp .ne 28, 3) := by decide +kernel
theorem dX6_takeInTimes_31 : decode cX6_takeInTimes 31 = .ok (.aload_n 0, 1) := by decide +kernel
theorem dX6_takeInTimes_32 : decode cX6_takeInTimes 32 = .ok (.iload_n 2, 1) := by decide +kernel
theorem dX6_takeInTimes_33 : decode cX6_takeInTimes 33 = .ok (.bipush 48, 2) := by decide +kernel
theorem dX6_takeInTimes_35 : decode cX6_takeInTimes 35 = .ok (.isub, 1) := by decide +kernel
theorem dX6_takeInTimes_36 : decode cX6_takeInTimes 36 = .ok (.putfield 126, 3) := by decide +kernel
theorem dX6_takeInTimes_39 : decode cX6_takeInTimes 39 = .ok (.aload_n 0, 1) := by decide +kernel
theorem dX6_takeInTimes_40 : decode cX6_takeInTimes 40 = .ok (.aload_n 0, 1) := by decide +kernel
theorem dX6_takeInTimes_41 : decode cX6_takeInTimes 41 = .ok (.getfield 126, 3) := by decide +kernel
theorem dX6_takeInTimes_44 : decode cX6_takeInTimes 44 = .ok (.putfield 129, 3) := by decide +kernel
theorem dX6_takeInTimes_47 : decode cX6_takeInTimes 47 = .ok (.aload_n 0, 1) := by decide +kernel
theorem dX6_takeInTimes_48 : decode cX6_takeInTimes 48 = .ok (.bipush 7, 2) := by decide +kernel
theorem dX6_takeInTimes_50 : decode cX6_takeInTimes 50 = .ok (.putfield 36, 3) := by decide +kernel
theorem dX6_takeInTimes_53 : decode cX6_takeInTimes 53 = .ok (.goto 99, 3) := by decide +kernel
theorem dX6_takeInTimes_56 : decode cX6_takeInTimes 56 = .ok (.iload_n 2, 1) := by decide +kernel
theorem dX6_takeInTimes_57 : decode cX6_takeInTimes 57 = .ok (.bipush 44, 2) := by decide +kernel
theorem dX6_takeInTimes_59 : decode cX6_takeInTimes 59 = .ok (.if_icmp .ne 21, 3) := by decide +kernel
theorem dX6_takeInTimes_62 : decode cX6_takeInTimes 62 = .ok (.aload_n 0, 1) := by decide +kernel
theorem dX6_takeInTimes_63 : decode cX6_takeInTimes 63 = .ok (.getfield 36, 3) := by decide +kernel
theorem dX6_takeInTimes_66 : decode cX6_takeInTimes 66 = .ok (.bipush 7, 2) := by decide +kernel
theorem dX6_takeInTimes_68 : decode cX6_takeInTimes 68 = .ok (.if_icmp .ne 12, 3) := by decide +kernel
theorem dX6_takeInTimes_71 : decode cX6_takeInTimes 71 = .ok (.aload_n 0, 1) := by decide +kernel
theorem dX6_takeInTimes_72 : decode cX6_takeInTimes 72 = .ok (.bipush 8, 2) := by decide +kernel
theorem dX6_takeInTimes_74 : decode cX6_takeInTimes 74 = .ok (.putfield 36, 3) := by decide +kernel
theorem dX6_takeInTimes_77 : decode cX6_takeInTimes 77 = .ok (.goto 75, 3) := by decide +kernel
theorem dX6_takeInTimes_80 : decode cX6_takeInTimes 80 = .ok (.iload_n 3, 1) := by decide +kernel
theorem dX6_takeInTimes_81 : decode cX6_takeInTimes 81 = .ok (.ifCond .eq 29, 3) := by decide +kernel
theorem dX6_takeInTimes_84 : decode cX6_takeInTimes 84 = .ok (.aload_n 0, 1) := by decide +kernel
theorem dX6_takeInTimes_85 : decode cX6_takeInTimes 85 = .ok (.getfield 36, 3) := by decide +kernel
theorem dX6_takeInTimes_88 : decode cX6_takeInTimes 88 = .ok (.bipush 8, 2) := by decide +kernel
theorem dX6_takeInTimes_90 : decode cX6_takeInTimes 90 = .ok (.if_icmp .ne 20, 3) := by decide +kernel
theorem dX6_takeInTimes_93 : decode cX6_takeInTimes 93 = .ok (.aload_n 0, 1) := by decide +kernel
theorem dX6_takeInTimes_94 : decode cX6_takeInTimes 94 = .ok (.iload_n 2, 1) := by decide +kernel
theorem dX6_takeInTimes_95 : decode cX6_takeInTimes 95 = .ok (.bipush 48, 2) := by decide +kernel
theorem dX6_takeInTimes_97 : decode cX6_takeInTimes 97 = .ok (.isub, 1) := by decide +kernel
theorem dX6_takeInTimes_98 : decode cX6_takeInTimes 98 = .ok (.putfield 129, 3) := by decide +kernel
theorem dX6_takeInTimes_101 : decode cX6_takeInTimes 101 = .ok (.aload_n 0, 1) := by decide +kernel
theorem dX6_takeInTimes_102 : decode cX6_takeInTimes 102 = .ok (.bipush 9, 2) := by decide +kernel
theorem dX6_takeInTimes_104 : decode cX6_takeInTimes 104 = .ok (.putfield 36, 3) := by decide +kernel
theorem dX6_takeInTimes_107 : decode cX6_takeInTimes 107 = .ok (.goto 45, 3) := by decide +kernel
theorem dX6_takeInTimes_110 : decode cX6_takeInTimes 110 = .ok (.iload_n 2, 1) := by decide +kernel
theorem dX6_takeInTimes_111 : decode cX6_takeInTimes 111 = .ok (.bipush 125, 2) := by decide +kernel
theorem dX6_takeInTimes_113 : decode cX6_takeInTimes 113 = .ok (.if_icmp .ne 33, 3) := by decide +kernel
theorem dX6_takeInTimes_116 : decode cX6_takeInTimes 116 = .ok (.aload_n 0, 1) := by decide +kernel
theorem dX6_takeInTimes_117 : decode cX6_takeInTimes 117 = .ok (.getfield 36, 3) := by decide +kernel
theorem dX6_takeInTimes_120 : decode cX6_takeInTimes 120 = .ok (.bipush 7, 2) := by decide +kernel
theorem dX6_takeInTimes_122 : decode cX6_takeInTimes 122 = .ok (.if_icmp .eq 12, 3) := by decide +kernel
theorem dX6_takeInTimes_125 : decode cX6_takeInTimes 125 = .ok (.aload_n 0, 1) := by decide +kernel
theorem dX6_takeInTimes_126 : decode cX6_takeInTimes 126 = .ok (.getfield 36, 3) := by decide +kernel
theorem dX6_takeInTimes_129 : decode cX6_takeInTimes 129 = .ok (.bipush 9, 2) := by decide +kernel
theorem dX6_takeInTimes_131 : decode cX6_takeInTimes 131 = .ok (.if_icmp .ne 15, 3) := by decide +kernel
theorem dX6_takeInTimes_134 : decode cX6_takeInTimes 134 = .ok (.aload_n 0, 1) := by decide +kernel
theorem dX6_takeInTimes_135 : decode cX6_takeInTimes 135 = .ok (.iconst 0, 1) := by decide +kernel
theorem dX6_takeInTimes_136 : decode cX6_takeInTimes 136 = .ok (.putfield 36, 3) := by decide +kernel
theorem dX6_takeInTimes_139 : decode cX6_takeInTimes 139 = .ok (.aload_n 0, 1) := by decide +kernel
theorem dX6_takeInTimes_140 : decode cX6_takeInTimes 140 = .ok (.invokevirtual 132, 3) := by decide +kernel
theorem dX6_takeInTimes_143 : decode cX6_takeInTimes 143 = .ok (.goto 9, 3) := by decide +kernel
theorem dX6_takeInTimes_146 : decode cX6_takeInTimes 146 = .ok (.aload_n 0, 1) := by decide +kernel
theorem dX6_takeInTimes_147 : decode cX6_takeInTimes 147 = .ok (.iconst 1, 1) := by decide +kernel
theorem dX6_takeInTimes_148 : decode cX6_takeInTimes 148 = .ok (.iload_n 1, 1) := by decide +kernel
theorem dX6_takeInTimes_149 : decode cX6_takeInTimes 149 = .ok (.invokevirtual 56, 3) := by decide +kernel
theorem dX6_takeInTimes_152 : decode cX6_takeInTimes 152 = .ok (.return_, 1) := by decide +kernel
theorem dX6_closeTimes_0 : decode cX6_closeTimes 0 = .ok (.aload_n 0, 1) := by decide +kernel
theorem dX6_closeTimes_1 : decode cX6_closeTimes 1 = .ok (.getfield 126, 3) := by decide +kernel
theorem dX6_closeTimes_4 : decode cX6_closeTimes 4 = .ok (.aload_n 0, 1) := by decide +kernel
theorem dX6_closeTimes_5 : decode cX6_closeTimes 5 = .ok (.getfield 129, 3) := by decide +kernel
theorem dX6_closeTimes_8 : decode cX6_closeTimes 8 = .ok (.if_icmp .gt 18, 3) := by decide +kernel
theorem dX6_closeTimes_11 : decode cX6_closeTimes 11 = .ok (.aload_n 0, 1) := by decide +kernel
theorem dX6_closeTimes_12 : decode cX6_closeTimes 12 = .ok (.getfield 129, 3) := by decide +kernel
theorem dX6_closeTimes_15 : decode cX6_closeTimes 15 = .ok (.iconst 5, 1) := by decide +kernel
theorem dX6_closeTimes_16 : decode cX6_closeTimes 16 = .ok (.if_icmp .gt 10, 3) := by decide +kernel
theorem dX6_closeTimes_19 : decode cX6_closeTimes 19 = .ok (.aload_n 0, 1) := by decide +kernel
theorem dX6_closeTimes_20 : decode cX6_closeTimes 20 = .ok (.getfield 129, 3) := by decide +kernel
theorem dX6_closeTimes_23 : decode cX6_closeTimes 23 = .ok (.ifCond .ne 15, 3) := by decide +kernel
theorem dX6_closeTimes_26 : decode cX6_closeTimes 26 = .ok (.aload_n 0, 1) := by decide +kernel
theorem dX6_closeTimes_27 : decode cX6_closeTimes 27 = .ok (.iconst 3, 1) := by decide +kernel
theorem dX6_closeTimes_28 : decode cX6_closeTimes 28 = .ok (.aload_n 0, 1) := by decide +kernel
theorem dX6_closeTimes_29 : decode cX6_closeTimes 29 = .ok (.getfield 103, 3) := by decide +kernel
theorem dX6_closeTimes_32 : decode cX6_closeTimes 32 = .ok (.invokevirtual 56, 3) := by decide +kernel
theorem dX6_closeTimes_35 : decode cX6_closeTimes 35 = .ok (.goto 27, 3) := by decide +kernel
theorem dX6_closeTimes_38 : decode cX6_closeTimes 38 = .ok (.aload_n 0, 1) := by decide +kernel
theorem dX6_closeTimes_39 : decode cX6_closeTimes 39 = .ok (.aload_n 0, 1) := by decide +kernel
theorem dX6_closeTimes_40 : decode cX6_closeTimes 40 = .ok (.getfield 22, 3) := by decide +kernel
theorem dX6_closeTimes_43 : decode cX6_closeTimes 43 = .ok (.aload_n 0, 1) := by decide +kernel
theorem dX6_closeTimes_44 : decode cX6_closeTimes 44 = .ok (.getfield 126, 3) := by decide +kernel
theorem dX6_closeTimes_47 : decode cX6_closeTimes 47 = .ok (.aload_n 0, 1) := by decide +kernel
theorem dX6_closeTimes_48 : decode cX6_closeTimes 48 = .ok (.getfield 129, 3) := by decide +kernel
theorem dX6_closeTimes_51 : decode cX6_closeTimes 51 = .ok (.invokevirtual 135, 3) := by decide +kernel
theorem dX6_closeTimes_54 : decode cX6_closeTimes 54 = .ok (.iconst 4, 1) := by decide +kernel
theorem dX6_closeTimes_55 : decode cX6_closeTimes 55 = .ok (.aload_n 0, 1) := by decide +kernel
theorem dX6_closeTimes_56 : decode cX6_closeTimes 56 = .ok (.getfield 103, 3) := by decide +kernel
theorem dX6_closeTimes_59 : decode cX6_closeTimes 59 = .ok (.invokevirtual 70, 3) := by decide +kernel
theorem dX6_closeTimes_62 : decode cX6_closeTimes 62 = .ok (.return_, 1) := by decide +kernel
theorem dX7_init_0 : decode cX7_init 0 = .ok (.aload_n 0, 1) := by decide +kernel
theorem dX7_init_1 : decode cX7_init 1 = .ok (.invokespecial 3, 3) := by decide +kernel
theorem dX7_init_4 : decode cX7_init 4 = .ok (.aload_n 0, 1) := by decide +kernel
theorem dX7_init_5 : decode cX7_init 5 = .ok (.sipush 300, 3) := by decide +kernel
theorem dX7_init_8 : decode cX7_init 8 = .ok (.newarray .long, 2) := by decide +kernel
theorem dX7_init_10 : decode cX7_init 10 = .ok (.putfield 9, 3) := by decide +kernel
theorem dX7_init_13 : decode cX7_init 13 = .ok (.aload_n 0, 1) := by decide +kernel
theorem dX7_init_14 : decode cX7_init 14 = .ok (.sipush 300, 3) := by decide +kernel
theorem dX7_init_17 : decode cX7_init 17 = .ok (.newarray .int, 2) := by decide +kernel
theorem dX7_init_19 : decode cX7_init 19 = .ok (.putfield 15, 3) := by decide +kernel
theorem dX7_init_22 : decode cX7_init 22 = .ok (.aload_n 0, 1) := by decide +kernel
theorem dX7_init_23 : decode cX7_init 23 = .ok (.sipush 1024, 3) := by decide +kernel
theorem dX7_init_26 : decode cX7_init 26 = .ok (.newarray .int, 2) := by decide +kernel
theorem dX7_init_28 : decode cX7_init 28 = .ok (.putfield 19, 3) := by decide +kernel
theorem dX7_init_31 : decode cX7_init 31 = .ok (.return_, 1) := by decide +kernel
theorem dX7_forgetAll_0 : decode cX7_forgetAll 0 = .ok (.iconst 0, 1) := by decide +kernel
theorem dX7_forgetAll_1 : decode cX7_forgetAll 1 = .ok (.istore_n 1, 1) := by decide +kernel
theorem dX7_forgetAll_2 : decode cX7_forgetAll 2 = .ok (.iload_n 1, 1) := by decide +kernel
theorem dX7_forgetAll_3 : decode cX7_forgetAll 3 = .ok (.aload_n 0, 1) := by decide +kernel
theorem dX7_forgetAll_4 : decode cX7_forgetAll 4 = .ok (.getfield 22, 3) := by decide +kernel
theorem dX7_forgetAll_7 : decode cX7_forgetAll 7 = .ok (.if_icmp .ge 21, 3) := by decide +kernel
theorem dX7_forgetAll_10 : decode cX7_forgetAll 10 = .ok (.aload_n 0, 1) := by decide +kernel
theorem dX7_forgetAll_11 : decode cX7_forgetAll 11 = .ok (.getfield 19, 3) := by decide +kernel
theorem dX7_forgetAll_14 : decode cX7_forgetAll 14 = .ok (.aload_n 0, 1) := by decide +kernel
theorem dX7_forgetAll_15 : decode cX7_forgetAll 15 = .ok (.getfield 15, 3) := by decide +kernel
theorem dX7_forgetAll_18 : decode cX7_forgetAll 18 = .ok (.iload_n 1, 1) := by decide +kernel
theorem dX7_forgetAll_19 : decode cX7_forgetAll 19 = .ok (.iaload, 1) := by decide +kernel
theorem dX7_forgetAll_20 : decode cX7_forgetAll 20 = .ok (.iconst 0, 1) := by decide +kernel
theorem dX7_forgetAll_21 : decode cX7_forgetAll 21 = .ok (.iastore, 1) := by decide +kernel
theorem dX7_forgetAll_22 : decode cX7_forgetAll 22 = .ok (.iinc 1 1, 3) := by decide +kernel
theorem dX7_forgetAll_25 : decode cX7_forgetAll 25 = .ok (.goto (-23), 3) := by decide +kernel
theorem dX7_forgetAll_28 : decode cX7_forgetAll 28 = .ok (.aload_n 0, 1) := by decide +kernel
theorem dX7_forgetAll_29 : decode cX7_forgetAll 29 = .ok (.iconst 0, 1) := by decide +kernel
theorem dX7_forgetAll_30 : decode cX7_forgetAll 30 = .ok (.putfield 22, 3) := by decide +kernel
theorem dX7_forgetAll_33 : decode cX7_forgetAll 33 = .ok (.return_, 1) := by decide +kernel
theorem dX7_numberOf_0 : decode cX7_numberOf 0 = .ok (.lload_n 1, 1) := by decide +kernel
theorem dX7_numberOf_1 : decode cX7_numberOf 1 = .ok (.invokestatic 26, 3) := by decide +kernel
theorem dX7_numberOf_4 : decode cX7_numberOf 4 = .ok (.istore 4, 2) := by decide +kernel
theorem dX7_numberOf_6 : decode cX7_numberOf 6 = .ok (.iconst 0, 1) := by decide +kernel
theorem dX7_numberOf_7 : decode cX7_numberOf 7 = .ok (.istore 5, 2) := by decide +kernel
theorem dX7_numberOf_9 : decode cX7_numberOf 9 = .ok (.iload 5, 2) := by decide +kernel
theorem dX7_numberOf_11 : decode cX7_numberOf 11 = .ok (.sipush 1024, 3) := by decide +kernel
theorem dX7_numberOf_14 : decode cX7_numberOf 14 = .ok (.if_icmp .ge 81, 3) := by decide +kernel
theorem dX7_numberOf_17 : decode cX7_numberOf 17 = .ok (.iload 4, 2) := by decide +kernel
theorem dX7_numberOf_19 : decode cX7_numberOf 19 = .ok (.iload 5, 2) := by decide +kernel
theorem dX7_numberOf_21 : decode cX7_numberOf 21 = .ok (.iadd, 1) := by decide +kernel
theorem dX7_numberOf_22 : decode cX7_numberOf 22 = .ok (.sipush 1023, 3) := by decide +kernel
theorem dX7_numberOf_25 : decode cX7_numberOf 25 = .ok (.iand, 1) := by decide +kernel
theorem dX7_numberOf_26 : decode cX7_numberOf 26 = .ok (.istore 6, 2) := by decide +kernel
theorem dX7_numberOf_28 : decode cX7_numberOf 28 = .ok (.aload_n 0, 1) := by decide +kernel
theorem dX7_numberOf_29 : decode cX7_numberOf 29 = .ok (.getfield 19, 3) := by decide +kernel
theorem dX7_numberOf_32 : decode cX7_numberOf 32 = .ok (.iload 6, 2) := by decide +kernel
theorem dX7_numberOf_34 : decode cX7_numberOf 34 = .ok (.iaload, 1) := by decide +kernel
theorem dX7_numberOf_35 : decode cX7_numberOf 35 = .ok (.iconst 1, 1) := by decide +kernel
theorem dX7_numberOf_36 : decode cX7_numberOf 36 = .ok (.isub, 1) := by decide +kernel
theorem dX7_numberOf_37 : decode cX7_numberOf 37 = .ok (.istore 7, 2) := by decide +kernel
theorem dX7_numberOf_39 : decode cX7_numberOf 39 = .ok (.iload 7, 2) := by decide +kernel
theorem dX7_numberOf_41 : decode cX7_numberOf 41 = .ok (.ifCond .ge 33, 3) := by decide +kernel
theorem dX7_numberOf_44 : decode cX7_numberOf 44 = .ok (.aload_n 0, 1) := by decide +kernel
theorem dX7_numberOf_45 : decode cX7_numberOf 45 = .ok (.getfield 22, 3) := by decide +kernel
theorem dX7_numberOf_48 : decode cX7_numberOf 48 = .ok (.iload_n 3, 1) := by decide +kernel
theorem dX7_numberOf_49 : decode cX7_numberOf 49 = .ok (.if_icmp .ge 23, 3) := by decide +kernel
theorem dX7_numberOf_52 : decode cX7_numberOf 52 = .ok (.aload_n 0, 1) := by decide +kernel
theorem dX7_numberOf_53 : decode cX7_numberOf 53 = .ok (.getfield 22, 3) := by decide +kernel
theorem dX7_numberOf_56 : decode cX7_numberOf 56 = .ok (.sipush 300, 3) := by decide +kernel
theorem dX7_numberOf_59 : decode cX7_numberOf 59 = .ok (.if_icmp .ge 13, 3) := by decide +kernel
theorem dX7_numberOf_62 : decode cX7_numberOf 62 = .ok (.aload_n 0, 1) := by decide +kernel
theorem dX7_numberOf_63 : decode cX7_numberOf 63 = .ok (.lload_n 1, 1) := by decide +kernel
theorem dX7_numberOf_64 : decode cX7_numberOf 64 = .ok (.iload 6, 2) := by decide +kernel
theorem dX7_numberOf_66 : decode cX7_numberOf 66 = .ok (.invokevirtual 30, 3) := by decide +kernel
theorem dX7_numberOf_69 : decode cX7_numberOf 69 = .ok (.goto 4, 3) := by decide +kernel
theorem dX7_numberOf_72 : decode cX7_numberOf 72 = .ok (.iconst (-1), 1) := by decide +kernel
theorem dX7_numberOf_73 : decode cX7_numberOf 73 = .ok (.ireturn, 1) := by decide +kernel
theorem dX7_numberOf_74 : decode cX7_numberOf 74 = .ok (.aload_n 0, 1) := by decide +kernel
theorem dX7_numberOf_75 : decode cX7_numberOf 75 = .ok (.getfield 9, 3) := by decide +kernel
theorem dX7_numberOf_78 : decode cX7_numberOf 78 = .ok (.iload 7, 2) := by decide +kernel
theorem dX7_numberOf_80 : decode cX7_numberOf 80 = .ok (.laload, 1) := by decide +kernel
theorem dX7_numberOf_81 : decode cX7_numberOf 81 = .ok (.lload_n 1, 1) := by decide +kernel
theorem dX7_numberOf_82 : decode cX7_numberOf 82 = .ok (.lcmp, 1) := by decide +kernel
theorem dX7_numberOf_83 : decode cX7_numberOf 83 = .ok (.ifCond .ne 6, 3) := by decide +kernel
theorem dX7_numberOf_86 : decode cX7_numberOf 86 = .ok (.iload 7, 2) := by decide +kernel
theorem dX7_numberOf_88 : decode cX7_numberOf 88 = .ok (.ireturn, 1) := by decide +kernel
theorem dX7_numberOf_89 : decode cX7_numberOf 89 = .ok (.iinc 5 1, 3) := by decide +kernel
theorem dX7_numberOf_92 : decode cX7_numberOf 92 = .ok (.goto (-83), 3) := by decide +kernel
theorem dX7_numberOf_95 : decode cX7_numberOf 95 = .ok (.iconst (-1), 1) := by decide +kernel
theorem dX7_numberOf_96 : decode cX7_numberOf 96 = .ok (.ireturn, 1) := by decide +kernel
theorem dX7_enter_0 : decode cX7_enter 0 = .ok (.aload_n 0, 1) := by decide +kernel
theorem dX7_enter_1 : decode cX7_enter 1 = .ok (.getfield 22, 3) := by decide +kernel
theorem dX7_enter_4 : decode cX7_enter 4 = .ok (.istore 4, 2) := by decide +kernel
theorem dX7_enter_6 : decode cX7_enter 6 = .ok (.aload_n 0, 1) := by decide +kernel
theorem dX7_enter_7 : decode cX7_enter 7 = .ok (.getfield 9, 3) := by decide +kernel
theorem dX7_enter_10 : decode cX7_enter 10 = .ok (.iload 4, 2) := by decide +kernel
theorem dX7_enter_12 : decode cX7_enter 12 = .ok (.lload_n 1, 1) := by decide +kernel
theorem dX7_enter_13 : decode cX7_enter 13 = .ok (.lastore, 1) := by decide +kernel
theorem dX7_enter_14 : decode cX7_enter 14 = .ok (.aload_n 0, 1) := by decide +kernel
theorem dX7_enter_15 : decode cX7_enter 15 = .ok (.getfield 15, 3) := by decide +kernel
theorem dX7_enter_18 : decode cX7_enter 18 = .ok (.iload 4, 2) := by decide +kernel
theorem dX7_enter_20 : decode cX7_enter 20 = .ok (.iload_n 3, 1) := by decide +kernel
theorem dX7_enter_21 : decode cX7_enter 21 = .ok (.iastore, 1) := by decide +kernel
theorem dX7_enter_22 : decode cX7_enter 22 = .ok (.aload_n 0, 1) := by decide +kernel
theorem dX7_enter_23 : decode cX7_enter 23 = .ok (.getfield 19, 3) := by decide +kernel
theorem dX7_enter_26 : decode cX7_enter 26 = .ok (.iload_n 3, 1) := by decide +kernel
theorem dX7_enter_27 : decode cX7_enter 27 = .ok (.iload 4, 2) := by decide +kernel
theorem dX7_enter_29 : decode cX7_enter 29 = .ok (.iconst 1, 1) := by decide +kernel
theorem dX7_enter_30 : decode cX7_enter 30 = .ok (.iadd, 1) := by decide +kernel
theorem dX7_enter_31 : decode cX7_enter 31 = .ok (.iastore, 1) := by decide +kernel
theorem dX7_enter_32 : decode cX7_enter 32 = .ok (.aload_n 0, 1) := by decide +kernel
theorem dX7_enter_33 : decode cX7_enter 33 = .ok (.dup, 1) := by decide +kernel
theorem dX7_enter_34 : decode cX7_enter 34 = .ok (.getfield 22, 3) := by decide +kernel
theorem dX7_enter_37 : decode cX7_enter 37 = .ok (.iconst 1, 1) := by decide +kernel
theorem dX7_enter_38 : decode cX7_enter 38 = .ok (.iadd, 1) := by decide +kernel
theorem dX7_enter_39 : decode cX7_enter 39 = .ok (.putfield 22, 3) := by decide +kernel
theorem dX7_enter_42 : decode cX7_enter 42 = .ok (.iload 4, 2) := by decide +kernel
theorem dX7_enter_44 : decode cX7_enter 44 = .ok (.ireturn, 1) := by decide +kernel
theorem dX7_homeOf_0 : decode cX7_homeOf 0 = .ok (.lload_n 0, 1) := by decide +kernel
theorem dX7_homeOf_1 : decode cX7_homeOf 1 = .ok (.ldc2_w 34, 3) := by decide +kernel
theorem dX7_homeOf_4 : decode cX7_homeOf 4 = .ok (.lmul, 1) := by decide +kernel
theorem dX7_homeOf_5 : decode cX7_homeOf 5 = .ok (.lstore_n 2, 1) := by decide +kernel
theorem dX7_homeOf_6 : decode cX7_homeOf 6 = .ok (.lload_n 2, 1) := by decide +kernel
theorem dX7_homeOf_7 : decode cX7_homeOf 7 = .ok (.bipush 54, 2) := by decide +kernel
theorem dX7_homeOf_9 : decode cX7_homeOf 9 = .ok (.lushr, 1) := by decide +kernel
theorem dX7_homeOf_10 : decode cX7_homeOf 10 = .ok (.l2i, 1) := by decide +kernel
theorem dX7_homeOf_11 : decode cX7_homeOf 11 = .ok (.ireturn, 1) := by decide +kernel
theorem dX8_init_0 : decode cX8_init 0 = .ok (.aload_n 0, 1) := by decide +kernel
theorem dX8_init_1 : decode cX8_init 1 = .ok (.invokespecial 3, 3) := by decide +kernel
theorem dX8_init_4 : decode cX8_init 4 = .ok (.aload_n 0, 1) := by decide +kernel
theorem dX8_init_5 : decode cX8_init 5 = .ok (.sipush 200, 3) := by decide +kernel
theorem dX8_init_8 : decode cX8_init 8 = .ok (.newarray .int, 2) := by decide +kernel
theorem dX8_init_10 : decode cX8_init 10 = .ok (.putfield 9, 3) := by decide +kernel
theorem dX8_init_13 : decode cX8_init 13 = .ok (.aload_n 0, 1) := by decide +kernel
theorem dX8_init_14 : decode cX8_init 14 = .ok (.sipush 200, 3) := by decide +kernel
theorem dX8_init_17 : decode cX8_init 17 = .ok (.newarray .int, 2) := by decide +kernel
theorem dX8_init_19 : decode cX8_init 19 = .ok (.putfield 15, 3) := by decide +kernel
theorem dX8_init_22 : decode cX8_init 22 = .ok (.aload_n 0, 1) := by decide +kernel
theorem dX8_init_23 : decode cX8_init 23 = .ok (.sipush 200, 3) := by decide +kernel
theorem dX8_init_26 : decode cX8_init 26 = .ok (.newarray .int, 2) := by decide +kernel
theorem dX8_init_28 : decode cX8_init 28 = .ok (.putfield 18, 3) := by decide +kernel
theorem dX8_init_31 : decode cX8_init 31 = .ok (.return_, 1) := by decide +kernel
theorem dX8_append_0 : decode cX8_append 0 = .ok (.iconst 0, 1) := by decide +kernel
theorem dX8_append_1 : decode cX8_append 1 = .ok (.istore 4, 2) := by decide +kernel
theorem dX8_append_3 : decode cX8_append 3 = .ok (.iload 4, 2) := by decide +kernel
theorem dX8_append_5 : decode cX8_append 5 = .ok (.iload_n 3, 1) := by decide +kernel
theorem dX8_append_6 : decode cX8_append 6 = .ok (.if_icmp .ge 47, 3) := by decide +kernel
theorem dX8_append_9 : decode cX8_append 9 = .ok (.aload_n 0, 1) := by decide +kernel
theorem dX8_append_10 : decode cX8_append 10 = .ok (.getfield 21, 3) := by decide +kernel
theorem dX8_append_13 : decode cX8_append 13 = .ok (.sipush 200, 3) := by decide +kernel
theorem dX8_append_16 : decode cX8_append 16 = .ok (.if_icmp .ge 37, 3) := by decide +kernel
theorem dX8_append_19 : decode cX8_append 19 = .ok (.aload_n 0, 1) := by decide +kernel
theorem dX8_append_20 : decode cX8_append 20 = .ok (.getfield 18, 3) := by decide +kernel
theorem dX8_append_23 : decode cX8_append 23 = .ok (.aload_n 0, 1) := by decide +kernel
theorem dX8_append_24 : decode cX8_append 24 = .ok (.getfield 21, 3) := by decide +kernel
theorem dX8_append_27 : decode cX8_append 27 = .ok (.lload_n 1, 1) := by decide +kernel
theorem dX8_append_28 : decode cX8_append 28 = .ok (.iload 4, 2) := by decide +kernel
theorem dX8_append_30 : decode cX8_append 30 = .ok (.invokestatic 25, 3) := by decide +kernel
theorem dX8_append_33 : decode cX8_append 33 = .ok (.invokestatic 29, 3) := by decide +kernel
theorem dX8_append_36 : decode cX8_append 36 = .ok (.iastore, 1) := by decide +kernel
theorem dX8_append_37 : decode cX8_append 37 = .ok (.aload_n 0, 1) := by decide +kernel
theorem dX8_append_38 : decode cX8_append 38 = .ok (.dup, 1) := by decide +kernel
theorem dX8_append_39 : decode cX8_append 39 = .ok (.getfield 21, 3) := by decide +kernel
theorem dX8_append_42 : decode cX8_append 42 = .ok (.iconst 1, 1) := by decide +kernel
theorem dX8_append_43 : decode cX8_append 43 = .ok (.iadd, 1) := by decide +kernel
theorem dX8_append_44 : decode cX8_append 44 = .ok (.putfield 21, 3) := by decide +kernel
theorem dX8_append_47 : decode cX8_append 47 = .ok (.iinc 4 1, 3) := by decide +kernel
theorem dX8_append_50 : decode cX8_append 50 = .ok (.goto (-47), 3) := by decide +kernel
theorem dX8_append_53 : decode cX8_append 53 = .ok (.aload_n 0, 1) := by decide +kernel
theorem dX8_append_54 : decode cX8_append 54 = .ok (.iconst 0, 1) := by decide +kernel
theorem dX8_append_55 : decode cX8_append 55 = .ok (.putfield 33, 3) := by decide +kernel
theorem dX8_append_58 : decode cX8_append 58 = .ok (.return_, 1) := by decide +kernel
theorem dX8_cutOff_0 : decode cX8_cutOff 0 = .ok (.aload_n 0, 1) := by decide +kernel
theorem dX8_cutOff_1 : decode cX8_cutOff 1 = .ok (.iconst 0, 1) := by decide +kernel
theorem dX8_cutOff_2 : decode cX8_cutOff 2 = .ok (.putfield 21, 3) := by decide +kernel
theorem dX8_cutOff_5 : decode cX8_cutOff 5 = .ok (.aload_n 0, 1) := by decide +kernel
theorem dX8_cutOff_6 : decode cX8_cutOff 6 = .ok (.iconst 0, 1) := by decide +kernel
theorem dX8_cutOff_7 : decode cX8_cutOff 7 = .ok (.putfield 33, 3) := by decide +kernel
theorem dX8_cutOff_10 : decode cX8_cutOff 10 = .ok (.return_, 1) := by decide +kernel
theorem dX8_forgetFinds_0 : decode cX8_forgetFinds 0 = .ok (.aload_n 0, 1) := by decide +kernel
theorem dX8_forgetFinds_1 : decode cX8_forgetFinds 1 = .ok (.iconst 0, 1) := by decide +kernel
theorem dX8_forgetFinds_2 : decode cX8_forgetFinds 2 = .ok (.putfield 33, 3) := by decide +kernel
theorem dX8_forgetFinds_5 : decode cX8_forgetFinds 5 = .ok (.return_, 1) := by decide +kernel
theorem dX8_isWordOf_0 : decode cX8_isWordOf 0 = .ok (.aload_n 1, 1) := by decide +kernel
theorem dX8_isWordOf_1 : decode cX8_isWordOf 1 = .ok (.getfield 37, 3) := by decide +kernel
theorem dX8_isWordOf_4 : decode cX8_isWordOf 4 = .ok (.istore_n 2, 1) := by decide +kernel
theorem dX8_isWordOf_5 : decode cX8_isWordOf 5 = .ok (.aload_n 1, 1) := by decide +kernel
theorem dX8_isWordOf_6 : decode cX8_isWordOf 6 = .ok (.getfield 42, 3) := by decide +kernel
theorem dX8_isWordOf_9 : decode cX8_isWordOf 9 = .ok (.lstore_n 3, 1) := by decide +kernel
theorem dX8_isWordOf_10 : decode cX8_isWordOf 10 = .ok (.iconst 0, 1) := by decide +kernel
theorem dX8_isWordOf_11 : decode cX8_isWordOf 11 = .ok (.istore 5, 2) := by decide +kernel
theorem dX8_isWordOf_13 : decode cX8_isWordOf 13 = .ok (.iload 5, 2) := by decide +kernel
theorem dX8_isWordOf_15 : decode cX8_isWordOf 15 = .ok (.aload_n 0, 1) := by decide +kernel
theorem dX8_isWordOf_16 : decode cX8_isWordOf 16 = .ok (.getfield 21, 3) := by decide +kernel
theorem dX8_isWordOf_19 : decode cX8_isWordOf 19 = .ok (.if_icmp .ge 50, 3) := by decide +kernel
theorem dX8_isWordOf_22 : decode cX8_isWordOf 22 = .ok (.lload_n 3, 1) := by decide +kernel
theorem dX8_isWordOf_23 : decode cX8_isWordOf 23 = .ok (.aload_n 1, 1) := by decide +kernel
theorem dX8_isWordOf_24 : decode cX8_isWordOf 24 = .ok (.getfield 46, 3) := by decide +kernel
theorem dX8_isWordOf_27 : decode cX8_isWordOf 27 = .ok (.aload_n 0, 1) := by decide +kernel
theorem dX8_isWordOf_28 : decode cX8_isWordOf 28 = .ok (.getfield 18, 3) := by decide +kernel
theorem dX8_isWordOf_31 : decode cX8_isWordOf 31 = .ok (.iload 5, 2) := by decide +kernel
theorem dX8_isWordOf_33 : decode cX8_isWordOf 33 = .ok (.iaload, 1) := by decide +kernel
theorem dX8_isWordOf_34 : decode cX8_isWordOf 34 = .ok (.laload, 1) := by decide +kernel
theorem dX8_isWordOf_35 : decode cX8_isWordOf 35 = .ok (.land, 1) := by decide +kernel
theorem dX8_isWordOf_36 : decode cX8_isWordOf 36 = .ok (.lstore 6, 2) := by decide +kernel
theorem dX8_isWordOf_38 : decode cX8_isWordOf 38 = .ok (.lload 6, 2) := by decide +kernel
theorem dX8_isWordOf_40 : decode cX8_isWordOf 40 = .ok (.aload_n 1, 1) := by decide +kernel
theorem dX8_isWordOf_41 : decode cX8_isWordOf 41 = .ok (.getfield 50, 3) := by decide +kernel
theorem dX8_isWordOf_44 : decode cX8_isWordOf 44 = .ok (.land, 1) := by decide +kernel
theorem dX8_isWordOf_45 : decode cX8_isWordOf 45 = .ok (.lconst 0, 1) := by decide +kernel
theorem dX8_isWordOf_46 : decode cX8_isWordOf 46 = .ok (.lcmp, 1) := by decide +kernel
theorem dX8_isWordOf_47 : decode cX8_isWordOf 47 = .ok (.ifCond .eq 7, 3) := by decide +kernel
theorem dX8_isWordOf_50 : decode cX8_isWordOf 50 = .ok (.iconst 1, 1) := by decide +kernel
theorem dX8_isWordOf_51 : decode cX8_isWordOf 51 = .ok (.goto 4, 3) := by decide +kernel
theorem dX8_isWordOf_54 : decode cX8_isWordOf 54 = .ok (.iconst 0, 1) := by decide +kernel
theorem dX8_isWordOf_55 : decode cX8_isWordOf 55 = .ok (.istore_n 2, 1) := by decide +kernel
theorem dX8_isWordOf_56 : decode cX8_isWordOf 56 = .ok (.aload_n 1, 1) := by decide +kernel
theorem dX8_isWordOf_57 : decode cX8_isWordOf 57 = .ok (.lload 6, 2) := by decide +kernel
theorem dX8_isWordOf_59 : decode cX8_isWordOf 59 = .ok (.invokevirtual 53, 3) := by decide +kernel
theorem dX8_isWordOf_62 : decode cX8_isWordOf 62 = .ok (.lstore_n 3, 1) := by decide +kernel
theorem dX8_isWordOf_63 : decode cX8_isWordOf 63 = .ok (.iinc 5 1, 3) := by decide +kernel
theorem dX8_isWordOf_66 : decode cX8_isWordOf 66 = .ok (.goto (-53), 3) := by decide +kernel
theorem dX8_isWordOf_69 : decode cX8_isWordOf 69 = .ok (.iload_n 2, 1) := by decide +kernel
theorem dX8_isWordOf_70 : decode cX8_isWordOf 70 = .ok (.ireturn, 1) := by decide +kernel
theorem dX8_lookFor_0 : decode cX8_lookFor 0 = .ok (.aload_n 0, 1) := by decide +kernel
theorem dX8_lookFor_1 : decode cX8_lookFor 1 = .ok (.getfield 33, 3) := by decide +kernel
theorem dX8_lookFor_4 : decode cX8_lookFor 4 = .ok (.ifCond .eq 4, 3) := by decide +kernel
theorem dX8_lookFor_7 : decode cX8_lookFor 7 = .ok (.return_, 1) := by decide +kernel
theorem dX8_lookFor_8 : decode cX8_lookFor 8 = .ok (.aload_n 0, 1) := by decide +kernel
theorem dX8_lookFor_9 : decode cX8_lookFor 9 = .ok (.iconst 0, 1) := by decide +kernel
theorem dX8_lookFor_10 : decode cX8_lookFor 10 = .ok (.putfield 57, 3) := by decide +kernel
theorem dX8_lookFor_13 : decode cX8_lookFor 13 = .ok (.iconst 0, 1) := by decide +kernel
theorem dX8_lookFor_14 : decode cX8_lookFor 14 = .ok (.istore_n 2, 1) := by decide +kernel
theorem dX8_lookFor_15 : decode cX8_lookFor 15 = .ok (.iconst 0, 1) := by decide +kernel
theorem dX8_lookFor_16 : decode cX8_lookFor 16 = .ok (.istore_n 3, 1) := by decide +kernel
theorem dX8_lookFor_17 : decode cX8_lookFor 17 = .ok (.iload_n 3, 1) := by decide +kernel
theorem dX8_lookFor_18 : decode cX8_lookFor 18 = .ok (.aload_n 0, 1) := by decide +kernel
theorem dX8_lookFor_19 : decode cX8_lookFor 19 = .ok (.getfield 21, 3) := by decide +kernel
theorem dX8_lookFor_22 : decode cX8_lookFor 22 = .ok (.if_icmp .ge 66, 3) := by decide +kernel
theorem dX8_lookFor_25 : decode cX8_lookFor 25 = .ok (.iload_n 3, 1) := by decide +kernel
theorem dX8_lookFor_26 : decode cX8_lookFor 26 = .ok (.iload_n 2, 1) := by decide +kernel
theorem dX8_lookFor_27 : decode cX8_lookFor 27 = .ok (.if_icmp .ge 7, 3) := by decide +kernel
theorem dX8_lookFor_30 : decode cX8_lookFor 30 = .ok (.iconst (-1), 1) := by decide +kernel
theorem dX8_lookFor_31 : decode cX8_lookFor 31 = .ok (.goto 9, 3) := by decide +kernel
theorem dX8_lookFor_34 : decode cX8_lookFor 34 = .ok (.aload_n 0, 1) := by decide +kernel
theorem dX8_lookFor_35 : decode cX8_lookFor 35 = .ok (.aload_n 1, 1) := by decide +kernel
theorem dX8_lookFor_36 : decode cX8_lookFor 36 = .ok (.iload_n 3, 1) := by decide +kernel
theorem dX8_lookFor_37 : decode cX8_lookFor 37 = .ok (.invokevirtual 60, 3) := by decide +kernel
theorem dX8_lookFor_40 : decode cX8_lookFor 40 = .ok (.istore 4, 2) := by decide +kernel
theorem dX8_lookFor_42 : decode cX8_lookFor 42 = .ok (.iload 4, 2) := by decide +kernel
theorem dX8_lookFor_44 : decode cX8_lookFor 44 = .ok (.iconst (-1), 1) := by decide +kernel
theorem dX8_lookFor_45 : decode cX8_lookFor 45 = .ok (.if_icmp .eq 37, 3) := by decide +kernel
theorem dX8_lookFor_48 : decode cX8_lookFor 48 = .ok (.aload_n 0, 1) := by decide +kernel
theorem dX8_lookFor_49 : decode cX8_lookFor 49 = .ok (.getfield 9, 3) := by decide +kernel
theorem dX8_lookFor_52 : decode cX8_lookFor 52 = .ok (.aload_n 0, 1) := by decide +kernel
theorem dX8_lookFor_53 : decode cX8_lookFor 53 = .ok (.getfield 57, 3) := by decide +kernel
theorem dX8_lookFor_56 : decode cX8_lookFor 56 = .ok (.iload_n 3, 1) := by decide +kernel
theorem dX8_lookFor_57 : decode cX8_lookFor 57 = .ok (.iastore, 1) := by decide +kernel
theorem dX8_lookFor_58 : decode cX8_lookFor 58 = .ok (.aload_n 0, 1) := by decide +kernel
theorem dX8_lookFor_59 : decode cX8_lookFor 59 = .ok (.getfield 15, 3) := by decide +kernel
theorem dX8_lookFor_62 : decode cX8_lookFor 62 = .ok (.aload_n 0, 1) := by decide +kernel
theorem dX8_lookFor_63 : decode cX8_lookFor 63 = .ok (.getfield 57, 3) := by decide +kernel
theorem dX8_lookFor_66 : decode cX8_lookFor 66 = .ok (.iload 4, 2) := by decide +kernel
theorem dX8_lookFor_68 : decode cX8_lookFor 68 = .ok (.iastore, 1) := by decide +kernel
theorem dX8_lookFor_69 : decode cX8_lookFor 69 = .ok (.aload_n 0, 1) := by decide +kernel
theorem dX8_lookFor_70 : decode cX8_lookFor 70 = .ok (.dup, 1) := by decide +kernel
theorem dX8_lookFor_71 : decode cX8_lookFor 71 = .ok (.getfield 57, 3) := by decide +kernel
theorem dX8_lookFor_74 : decode cX8_lookFor 74 = .ok (.iconst 1, 1) := by decide +kernel
theorem dX8_lookFor_75 : decode cX8_lookFor 75 = .ok (.iadd, 1) := by decide +kernel
theorem dX8_lookFor_76 : decode cX8_lookFor 76 = .ok (.putfield 57, 3) := by decide +kernel
theorem dX8_lookFor_79 : decode cX8_lookFor 79 = .ok (.iload 4, 2) := by decide +kernel
theorem dX8_lookFor_81 : decode cX8_lookFor 81 = .ok (.istore_n 2, 1) := by decide +kernel
theorem dX8_lookFor_82 : decode cX8_lookFor 82 = .ok (.iinc 3 1, 3) := by decide +kernel
theorem dX8_lookFor_85 : decode cX8_lookFor 85 = .ok (.goto (-68), 3) := by decide +kernel
theorem dX8_lookFor_88 : decode cX8_lookFor 88 = .ok (.aload_n 0, 1) := by decide +kernel
theorem dX8_lookFor_89 : decode cX8_lookFor 89 = .ok (.iconst 1, 1) := by decide +kernel
theorem dX8_lookFor_90 : decode cX8_lookFor 90 = .ok (.putfield 33, 3) := by decide +kernel
theorem dX8_lookFor_93 : decode cX8_lookFor 93 = .ok (.return_, 1) := by decide +kernel
theorem dX8_longestEnd_0 : decode cX8_longestEnd 0 = .ok (.iconst (-1), 1) := by decide +kernel
theorem dX8_longestEnd_1 : decode cX8_longestEnd 1 = .ok (.istore_n 3, 1) := by decide +kernel
theorem dX8_longestEnd_2 : decode cX8_longestEnd 2 = .ok (.aload_n 1, 1) := by decide +kernel
theorem dX8_longestEnd_3 : decode cX8_longestEnd 3 = .ok (.getfield 42, 3) := by decide +kernel
theorem dX8_longestEnd_6 : decode cX8_longestEnd 6 = .ok (.lstore 4, 2) := by decide +kernel
theorem dX8_longestEnd_8 : decode cX8_longestEnd 8 = .ok (.iload_n 2, 1) := by decide +kernel
theorem dX8_longestEnd_9 : decode cX8_longestEnd 9 = .ok (.istore 6, 2) := by decide +kernel
theorem dX8_longestEnd_11 : decode cX8_longestEnd 11 = .ok (.iload 6, 2) := by decide +kernel
theorem dX8_longestEnd_13 : decode cX8_longestEnd 13 = .ok (.aload_n 0, 1) := by decide +kernel
theorem dX8_longestEnd_14 : decode cX8_longestEnd 14 = .ok (.getfield 21, 3) := by decide +kernel
theorem dX8_longestEnd_17 : decode cX8_longestEnd 17 = .ok (.if_icmp .ge 58, 3) := by decide +kernel
theorem dX8_longestEnd_20 : decode cX8_longestEnd 20 = .ok (.lload 4, 2) := by decide +kernel
theorem dX8_longestEnd_22 : decode cX8_longestEnd 22 = .ok (.lconst 0, 1) := by decide +kernel
theorem dX8_longestEnd_23 : decode cX8_longestEnd 23 = .ok (.lcmp, 1) := by decide +kernel
theorem dX8_longestEnd_24 : decode cX8_longestEnd 24 = .ok (.ifCond .eq 51, 3) := by decide +kernel
theorem dX8_longestEnd_27 : decode cX8_longestEnd 27 = .ok (.lload 4, 2) := by decide +kernel
theorem dX8_longestEnd_29 : decode cX8_longestEnd 29 = .ok (.aload_n 1, 1) := by decide +kernel
theorem dX8_longestEnd_30 : decode cX8_longestEnd 30 = .ok (.getfield 46, 3) := by decide +kernel
theorem dX8_longestEnd_33 : decode cX8_longestEnd 33 = .ok (.aload_n 0, 1) := by decide +kernel
theorem dX8_longestEnd_34 : decode cX8_longestEnd 34 = .ok (.getfield 18, 3) := by decide +kernel
theorem dX8_longestEnd_37 : decode cX8_longestEnd 37 = .ok (.iload 6, 2) := by decide +kernel
theorem dX8_longestEnd_39 : decode cX8_longestEnd 39 = .ok (.iaload, 1) := by decide +kernel
theorem dX8_longestEnd_40 : decode cX8_longestEnd 40 = .ok (.laload, 1) := by decide +kernel
theorem dX8_longestEnd_41 : decode cX8_longestEnd 41 = .ok (.land, 1) := by decide +kernel
theorem dX8_longestEnd_42 : decode cX8_longestEnd 42 = .ok (.lstore 7, 2) := by decide +kernel
theorem dX8_longestEnd_44 : decode cX8_longestEnd 44 = .ok (.lload 7, 2) := by decide +kernel
theorem dX8_longestEnd_46 : decode cX8_longestEnd 46 = .ok (.aload_n 1, 1) := by decide +kernel
theorem dX8_longestEnd_47 : decode cX8_longestEnd 47 = .ok (.getfield 50, 3) := by decide +kernel
theorem dX8_longestEnd_50 : decode cX8_longestEnd 50 = .ok (.land, 1) := by decide +kernel
theorem dX8_longestEnd_51 : decode cX8_longestEnd 51 = .ok (.lconst 0, 1) := by decide +kernel
theorem dX8_longestEnd_52 : decode cX8_longestEnd 52 = .ok (.lcmp, 1) := by decide +kernel
theorem dX8_longestEnd_53 : decode cX8_longestEnd 53 = .ok (.ifCond .eq 8, 3) := by decide +kernel
theorem dX8_longestEnd_56 : decode cX8_longestEnd 56 = .ok (.iload 6, 2) := by decide +kernel
theorem dX8_longestEnd_58 : decode cX8_longestEnd 58 = .ok (.iconst 1, 1) := by decide +kernel
theorem dX8_longestEnd_59 : decode cX8_longestEnd 59 = .ok (.iadd, 1) := by decide +kernel
theorem dX8_longestEnd_60 : decode cX8_longestEnd 60 = .ok (.istore_n 3, 1) := by decide +kernel
theorem dX8_longestEnd_61 : decode cX8_longestEnd 61 = .ok (.aload_n 1, 1) := by decide +kernel
theorem dX8_longestEnd_62 : decode cX8_longestEnd 62 = .ok (.lload 7, 2) := by decide +kernel
theorem dX8_longestEnd_64 : decode cX8_longestEnd 64 = .ok (.invokevirtual 53, 3) := by decide +kernel
theorem dX8_longestEnd_67 : decode cX8_longestEnd 67 = .ok (.lstore 4, 2) := by decide +kernel
theorem dX8_longestEnd_69 : decode cX8_longestEnd 69 = .ok (.iinc 6 1, 3) := by decide +kernel
theorem dX8_longestEnd_72 : decode cX8_longestEnd 72 = .ok (.goto (-61), 3) := by decide +kernel
theorem dX8_longestEnd_75 : decode cX8_longestEnd 75 = .ok (.iload_n 3, 1) := by decide +kernel
theorem dX8_longestEnd_76 : decode cX8_longestEnd 76 = .ok (.ireturn, 1) := by decide +kernel
theorem dX9_init_0 : decode cX9_init 0 = .ok (.aload_n 0, 1) := by decide +kernel
theorem dX9_init_1 : decode cX9_init 1 = .ok (.invokespecial 1, 3) := by decide +kernel
theorem dX9_init_4 : decode cX9_init 4 = .ok (.aload_n 0, 1) := by decide +kernel
theorem dX9_init_5 : decode cX9_init 5 = .ok (.new 7, 3) := by decide +kernel
theorem dX9_init_8 : decode cX9_init 8 = .ok (.dup, 1) := by decide +kernel
theorem dX9_init_9 : decode cX9_init 9 = .ok (.invokespecial 9, 3) := by decide +kernel
theorem dX9_init_12 : decode cX9_init 12 = .ok (.putfield 10, 3) := by decide +kernel
theorem dX9_init_15 : decode cX9_init 15 = .ok (.aload_n 0, 1) := by decide +kernel
theorem dX9_init_16 : decode cX9_init 16 = .ok (.new 16, 3) := by decide +kernel
theorem dX9_init_19 : decode cX9_init 19 = .ok (.dup, 1) := by decide +kernel
theorem dX9_init_20 : decode cX9_init 20 = .ok (.invokespecial 18, 3) := by decide +kernel
theorem dX9_init_23 : decode cX9_init 23 = .ok (.putfield 19, 3) := by decide +kernel
theorem dX9_init_26 : decode cX9_init 26 = .ok (.aload_n 0, 1) := by decide +kernel
theorem dX9_init_27 : decode cX9_init 27 = .ok (.new 23, 3) := by decide +kernel
theorem dX9_init_30 : decode cX9_init 30 = .ok (.dup, 1) := by decide +kernel
theorem dX9_init_31 : decode cX9_init 31 = .ok (.invokespecial 25, 3) := by decide +kernel
theorem dX9_init_34 : decode cX9_init 34 = .ok (.putfield 26, 3) := by decide +kernel
theorem dX9_init_37 : decode cX9_init 37 = .ok (.aload_n 0, 1) := by decide +kernel
theorem dX9_init_38 : decode cX9_init 38 = .ok (.new 30, 3) := by decide +kernel
theorem dX9_init_41 : decode cX9_init 41 = .ok (.dup, 1) := by decide +kernel
theorem dX9_init_42 : decode cX9_init 42 = .ok (.invokespecial 32, 3) := by decide +kernel
theorem dX9_init_45 : decode cX9_init 45 = .ok (.putfield 33, 3) := by decide +kernel
theorem dX9_init_48 : decode cX9_init 48 = .ok (.aload_n 0, 1) := by decide +kernel
theorem dX9_init_49 : decode cX9_init 49 = .ok (.new 37, 3) := by decide +kernel
theorem dX9_init_52 : decode cX9_init 52 = .ok (.dup, 1) := by decide +kernel
theorem dX9_init_53 : decode cX9_init 53 = .ok (.invokespecial 39, 3) := by decide +kernel
theorem dX9_init_56 : decode cX9_init 56 = .ok (.putfield 40, 3) := by decide +kernel
theorem dX9_init_59 : decode cX9_init 59 = .ok (.aload_n 0, 1) := by decide +kernel
theorem dX9_init_60 : decode cX9_init 60 = .ok (.iconst 3, 1) := by decide +kernel
theorem dX9_init_61 : decode cX9_init 61 = .ok (.anewarray 44, 3) := by decide +kernel
theorem dX9_init_64 : decode cX9_init 64 = .ok (.dup, 1) := by decide +kernel
theorem dX9_init_65 : decode cX9_init 65 = .ok (.iconst 0, 1) := by decide +kernel
theorem dX9_init_66 : decode cX9_init 66 = .ok (.new 44, 3) := by decide +kernel
theorem dX9_init_69 : decode cX9_init 69 = .ok (.dup, 1) := by decide +kernel
theorem dX9_init_70 : decode cX9_init 70 = .ok (.invokespecial 46, 3) := by decide +kernel
theorem dX9_init_73 : decode cX9_init 73 = .ok (.aastore, 1) := by decide +kernel
theorem dX9_init_74 : decode cX9_init 74 = .ok (.dup, 1) := by decide +kernel
theorem dX9_init_75 : decode cX9_init 75 = .ok (.iconst 1, 1) := by decide +kernel
theorem dX9_init_76 : decode cX9_init 76 = .ok (.new 44, 3) := by decide +kernel
theorem dX9_init_79 : decode cX9_init 79 = .ok (.dup, 1) := by decide +kernel
theorem dX9_init_80 : decode cX9_init 80 = .ok (.invokespecial 46, 3) := by decide +kernel
theorem dX9_init_83 : decode cX9_init 83 = .ok (.aastore, 1) := by decide +kernel
theorem dX9_init_84 : decode cX9_init 84 = .ok (.dup, 1) := by decide +kernel
theorem dX9_init_85 : decode cX9_init 85 = .ok (.iconst 2, 1) := by decide +kernel
theorem dX9_init_86 : decode cX9_init 86 = .ok (.new 44, 3) := by decide +kernel
theorem dX9_init_89 : decode cX9_init 89 = .ok (.dup, 1) := by decide +kernel
theorem dX9_init_90 : decode cX9_init 90 = .ok (.invokespecial 46, 3) := by decide +kernel
theorem dX9_init_93 : decode cX9_init 93 = .ok (.aastore, 1) := by decide +kernel
theorem dX9_init_94 : decode cX9_init 94 = .ok (.putfield 47, 3) := by decide +kernel
theorem dX9_init_97 : decode cX9_init 97 = .ok (.return_, 1) := by decide +kernel
theorem dX9_type_0 : decode cX9_type 0 = .ok (.iload_n 3, 1) := by decide +kernel
theorem dX9_type_1 : decode cX9_type 1 = .ok (.iconst 1, 1) := by decide +kernel
theorem dX9_type_2 : decode cX9_type 2 = .ok (.if_icmp .lt 9, 3) := by decide +kernel
theorem dX9_type_5 : decode cX9_type 5 = .ok (.iload_n 3, 1) := by decide +kernel
theorem dX9_type_6 : decode cX9_type 6 = .ok (.bipush 8, 2) := by decide +kernel
theorem dX9_type_8 : decode cX9_type 8 = .ok (.if_icmp .le 11, 3) := by decide +kernel
theorem dX9_type_11 : decode cX9_type 11 = .ok (.new 51, 3) := by decide +kernel
theorem dX9_type_14 : decode cX9_type 14 = .ok (.dup, 1) := by decide +kernel
theorem dX9_type_15 : decode cX9_type 15 = .ok (.invokespecial 53, 3) := by decide +kernel
theorem dX9_type_18 : decode cX9_type 18 = .ok (.athrow, 1) := by decide +kernel
theorem dX9_type_19 : decode cX9_type 19 = .ok (.aload_n 0, 1) := by decide +kernel
theorem dX9_type_20 : decode cX9_type 20 = .ok (.getfield 10, 3) := by decide +kernel
theorem dX9_type_23 : decode cX9_type 23 = .ok (.getfield 54, 3) := by decide +kernel
theorem dX9_type_26 : decode cX9_type 26 = .ok (.iload_n 3, 1) := by decide +kernel
theorem dX9_type_27 : decode cX9_type 27 = .ok (.iadd, 1) := by decide +kernel
theorem dX9_type_28 : decode cX9_type 28 = .ok (.sipush 200, 3) := by decide +kernel
theorem dX9_type_31 : decode cX9_type 31 = .ok (.if_icmp .le 11, 3) := by decide +kernel
theorem dX9_type_34 : decode cX9_type 34 = .ok (.new 58, 3) := by decide +kernel
theorem dX9_type_37 : decode cX9_type 37 = .ok (.dup, 1) := by decide +kernel
theorem dX9_type_38 : decode cX9_type 38 = .ok (.invokespecial 60, 3) := by decide +kernel
theorem dX9_type_41 : decode cX9_type 41 = .ok (.athrow, 1) := by decide +kernel
theorem dX9_type_42 : decode cX9_type 42 = .ok (.aload_n 0, 1) := by decide +kernel
theorem dX9_type_43 : decode cX9_type 43 = .ok (.getfield 10, 3) := by decide +kernel
theorem dX9_type_46 : decode cX9_type 46 = .ok (.lload_n 1, 1) := by decide +kernel
theorem dX9_type_47 : decode cX9_type 47 = .ok (.iload_n 3, 1) := by decide +kernel
theorem dX9_type_48 : decode cX9_type 48 = .ok (.invokevirtual 61, 3) := by decide +kernel
theorem dX9_type_51 : decode cX9_type 51 = .ok (.aload_n 0, 1) := by decide +kernel
theorem dX9_type_52 : decode cX9_type 52 = .ok (.getfield 10, 3) := by decide +kernel
theorem dX9_type_55 : decode cX9_type 55 = .ok (.getfield 54, 3) := by decide +kernel
theorem dX9_type_58 : decode cX9_type 58 = .ok (.ireturn, 1) := by decide +kernel
theorem dX9_read_0 : decode cX9_read 0 = .ok (.aload_n 0, 1) := by decide +kernel
theorem dX9_read_1 : decode cX9_read 1 = .ok (.invokevirtual 65, 3) := by decide +kernel
theorem dX9_read_4 : decode cX9_read 4 = .ok (.astore_n 1, 1) := by decide +kernel
theorem dX9_read_5 : decode cX9_read 5 = .ok (.aload_n 0, 1) := by decide +kernel
theorem dX9_read_6 : decode cX9_read 6 = .ok (.getfield 10, 3) := by decide +kernel
theorem dX9_read_9 : decode cX9_read 9 = .ok (.aload_n 1, 1) := by decide +kernel
theorem dX9_read_10 : decode cX9_read 10 = .ok (.invokevirtual 69, 3) := by decide +kernel
theorem dX9_read_13 : decode cX9_read 13 = .ok (.istore_n 2, 1) := by decide +kernel
theorem dX9_read_14 : decode cX9_read 14 = .ok (.iload_n 2, 1) := by decide +kernel
theorem dX9_read_15 : decode cX9_read 15 = .ok (.ifCond .ne 15, 3) := by decide +kernel
theorem dX9_read_18 : decode cX9_read 18 = .ok (.aload_n 0, 1) := by decide +kernel
theorem dX9_read_19 : decode cX9_read 19 = .ok (.aload_n 1, 1) := by decide +kernel
theorem dX9_read_20 : decode cX9_read 20 = .ok (.putfield 73, 3) := by decide +kernel
theorem dX9_read_23 : decode cX9_read 23 = .ok (.aload_n 0, 1) := by decide +kernel
theorem dX9_read_24 : decode cX9_read 24 = .ok (.getfield 19, 3) := by decide +kernel
theorem dX9_read_27 : decode cX9_read 27 = .ok (.invokevirtual 77, 3) := by decide +kernel
theorem dX9_read_30 : decode cX9_read 30 = .ok (.iload_n 2, 1) := by decide +kernel
theorem dX9_read_31 : decode cX9_read 31 = .ok (.ireturn, 1) := by decide +kernel
theorem dX9_place_0 : decode cX9_place 0 = .ok (.aload_n 0, 1) := by decide +kernel
theorem dX9_place_1 : decode cX9_place 1 = .ok (.getfield 10, 3) := by decide +kernel
theorem dX9_place_4 : decode cX9_place 4 = .ok (.getfield 80, 3) := by decide +kernel
theorem dX9_place_7 : decode cX9_place 7 = .ok (.ireturn, 1) := by decide +kernel
theorem dX9_positions_0 : decode cX9_positions 0 = .ok (.aload_n 0, 1) := by decide +kernel
theorem dX9_positions_1 : decode cX9_positions 1 = .ok (.invokevirtual 83, 3) := by decide +kernel
theorem dX9_positions_4 : decode cX9_positions 4 = .ok (.getfield 86, 3) := by decide +kernel
theorem dX9_positions_7 : decode cX9_positions 7 = .ok (.ireturn, 1) := by decide +kernel
theorem dX9_empty_0 : decode cX9_empty 0 = .ok (.aload_n 0, 1) := by decide +kernel
theorem dX9_empty_1 : decode cX9_empty 1 = .ok (.invokevirtual 83, 3) := by decide +kernel
theorem dX9_empty_4 : decode cX9_empty 4 = .ok (.getfield 89, 3) := by decide +kernel
theorem dX9_empty_7 : decode cX9_empty 7 = .ok (.ireturn, 1) := by decide +kernel
theorem dX9_is_0 : decode cX9_is 0 = .ok (.aload_n 0, 1) := by decide +kernel
theorem dX9_is_1 : decode cX9_is 1 = .ok (.invokevirtual 83, 3) := by decide +kernel
theorem dX9_is_4 : decode cX9_is 4 = .ok (.astore_n 3, 1) := by decide +kernel
theorem dX9_is_5 : decode cX9_is 5 = .ok (.iload_n 1, 1) := by decide +kernel
theorem dX9_is_6 : decode cX9_is 6 = .ok (.ifCond .lt 11, 3) := by decide +kernel
theorem dX9_is_9 : decode cX9_is 9 = .ok (.iload_n 1, 1) := by decide +kernel
theorem dX9_is_10 : decode cX9_is 10 = .ok (.aload_n 3, 1) := by decide +kernel
theorem dX9_is_11 : decode cX9_is 11 = .ok (.getfield 86, 3) := by decide +kernel
theorem dX9_is_14 : decode cX9_is 14 = .ok (.if_icmp .lt 11, 3) := by decide +kernel
theorem dX9_is_17 : decode cX9_is 17 = .ok (.new 93, 3) := by decide +kernel
theorem dX9_is_20 : decode cX9_is 20 = .ok (.dup, 1) := by decide +kernel
theorem dX9_is_21 : decode cX9_is 21 = .ok (.invokespecial 95, 3) := by decide +kernel
theorem dX9_is_24 : decode cX9_is 24 = .ok (.athrow, 1) := by decide +kernel
theorem dX9_is_25 : decode cX9_is 25 = .ok (.iload_n 2, 1) := by decide +kernel
theorem dX9_is_26 : decode cX9_is 26 = .ok (.ifCond .eq 16, 3) := by decide +kernel
theorem dX9_is_29 : decode cX9_is 29 = .ok (.iload_n 2, 1) := by decide +kernel
theorem dX9_is_30 : decode cX9_is 30 = .ok (.iconst 1, 1) := by decide +kernel
theorem dX9_is_31 : decode cX9_is 31 = .ok (.if_icmp .eq 11, 3) := by decide +kernel
theorem dX9_is_34 : decode cX9_is 34 = .ok (.new 51, 3) := by decide +kernel
theorem dX9_is_37 : decode cX9_is 37 = .ok (.dup, 1) := by decide +kernel
theorem dX9_is_38 : decode cX9_is 38 = .ok (.invokespecial 53, 3) := by decide +kernel
theorem dX9_is_41 : decode cX9_is 41 = .ok (.athrow, 1) := by decide +kernel
theorem dX9_is_42 : decode cX9_is 42 = .ok (.iload_n 2, 1) := by decide +kernel
theorem dX9_is_43 : decode cX9_is 43 = .ok (.ifCond .ne 10, 3) := by decide +kernel
theorem dX9_is_46 : decode cX9_is 46 = .ok (.aload_n 3, 1) := by decide +kernel
theorem dX9_is_47 : decode cX9_is 47 = .ok (.getfield 96, 3) := by decide +kernel
theorem dX9_is_50 : decode cX9_is 50 = .ok (.goto 7, 3) := by decide +kernel
theorem dX9_is_53 : decode cX9_is 53 = .ok (.aload_n 3, 1) := by decide +kernel
theorem dX9_is_54 : decode cX9_is 54 = .ok (.getfield 100, 3) := by decide +kernel
theorem dX9_is_57 : decode cX9_is 57 = .ok (.iload_n 1, 1) := by decide +kernel
theorem dX9_is_58 : decode cX9_is 58 = .ok (.invokestatic 103, 3) := by decide +kernel
theorem dX9_is_61 : decode cX9_is 61 = .ok (.ireturn, 1) := by decide +kernel
theorem dX9_follows_0 : decode cX9_follows 0 = .ok (.aload_n 0, 1) := by decide +kernel
theorem dX9_follows_1 : decode cX9_follows 1 = .ok (.invokevirtual 83, 3) := by decide +kernel
theorem dX9_follows_4 : decode cX9_follows 4 = .ok (.astore_n 3, 1) := by decide +kernel
theorem dX9_follows_5 : decode cX9_follows 5 = .ok (.iload_n 1, 1) := by decide +kernel
theorem dX9_follows_6 : decode cX9_follows 6 = .ok (.ifCond .lt 23, 3) := by decide +kernel
theorem dX9_follows_9 : decode cX9_follows 9 = .ok (.iload_n 1, 1) := by decide +kernel
theorem dX9_follows_10 : decode cX9_follows 10 = .ok (.aload_n 3, 1) := by decide +kernel
theorem dX9_follows_11 : decode cX9_follows 11 = .ok (.getfield 86, 3) := by decide +kernel
theorem dX9_follows_14 : decode cX9_follows 14 = .ok (.if_icmp .ge 15, 3) := by decide +kernel
theorem dX9_follows_17 : decode cX9_follows 17 = .ok (.iload_n 2, 1) := by decide +kernel
theorem dX9_follows_18 : decode cX9_follows 18 = .ok (.ifCond .lt 11, 3) := by decide +kernel
theorem dX9_follows_21 : decode cX9_follows 21 = .ok (.iload_n 2, 1) := by decide +kernel
theorem dX9_follows_22 : decode cX9_follows 22 = .ok (.aload_n 3, 1) := by decide +kernel
theorem dX9_follows_23 : decode cX9_follows 23 = .ok (.getfield 86, 3) := by decide +kernel
theorem dX9_follows_26 : decode cX9_follows 26 = .ok (.if_icmp .lt 11, 3) := by decide +kernel
theorem dX9_follows_29 : decode cX9_follows 29 = .ok (.new 93, 3) := by decide +kernel
theorem dX9_follows_32 : decode cX9_follows 32 = .ok (.dup, 1) := by decide +kernel
theorem dX9_follows_33 : decode cX9_follows 33 = .ok (.invokespecial 95, 3) := by decide +kernel
theorem dX9_follows_36 : decode cX9_follows 36 = .ok (.athrow, 1) := by decide +kernel
theorem dX9_follows_37 : decode cX9_follows 37 = .ok (.aload_n 3, 1) := by decide +kernel
theorem dX9_follows_38 : decode cX9_follows 38 = .ok (.getfield 107, 3) := by decide +kernel
theorem dX9_follows_41 : decode cX9_follows 41 = .ok (.iload_n 1, 1) := by decide +kernel
theorem dX9_follows_42 : decode cX9_follows 42 = .ok (.laload, 1) := by decide +kernel
theorem dX9_follows_43 : decode cX9_follows 43 = .ok (.iload_n 2, 1) := by decide +kernel
theorem dX9_follows_44 : decode cX9_follows 44 = .ok (.invokestatic 103, 3) := by decide +kernel
theorem dX9_follows_47 : decode cX9_follows 47 = .ok (.ireturn, 1) := by decide +kernel
theorem dX9_has_0 : decode cX9_has 0 = .ok (.aload_n 0, 1) := by decide +kernel
theorem dX9_has_1 : decode cX9_has 1 = .ok (.invokevirtual 83, 3) := by decide +kernel
theorem dX9_has_4 : decode cX9_has 4 = .ok (.astore_n 3, 1) := by decide +kernel
theorem dX9_has_5 : decode cX9_has 5 = .ok (.iload_n 1, 1) := by decide +kernel
theorem dX9_has_6 : decode cX9_has 6 = .ok (.ifCond .lt 21, 3) := by decide +kernel
theorem dX9_has_9 : decode cX9_has 9 = .ok (.iload_n 1, 1) := by decide +kernel
theorem dX9_has_10 : decode cX9_has 10 = .ok (.aload_n 3, 1) := by decide +kernel
theorem dX9_has_11 : decode cX9_has 11 = .ok (.getfield 86, 3) := by decide +kernel
theorem dX9_has_14 : decode cX9_has 14 = .ok (.if_icmp .ge 13, 3) := by decide +kernel
theorem dX9_has_17 : decode cX9_has 17 = .ok (.iload_n 2, 1) := by decide +kernel
theorem dX9_has_18 : decode cX9_has 18 = .ok (.ifCond .lt 9, 3) := by decide +kernel
theorem dX9_has_21 : decode cX9_has 21 = .ok (.iload_n 2, 1) := by decide +kernel
theorem dX9_has_22 : decode cX9_has 22 = .ok (.bipush 36, 2) := by decide +kernel
theorem dX9_has_24 : decode cX9_has 24 = .ok (.if_icmp .lt 11, 3) := by decide +kernel
theorem dX9_has_27 : decode cX9_has 27 = .ok (.new 93, 3) := by decide +kernel
theorem dX9_has_30 : decode cX9_has 30 = .ok (.dup, 1) := by decide +kernel
theorem dX9_has_31 : decode cX9_has 31 = .ok (.invokespecial 95, 3) := by decide +kernel
theorem dX9_has_34 : decode cX9_has 34 = .ok (.athrow, 1) := by decide +kernel
theorem dX9_has_35 : decode cX9_has 35 = .ok (.aload_n 3, 1) := by decide +kernel
theorem dX9_has_36 : decode cX9_has 36 = .ok (.getfield 111, 3) := by decide +kernel
theorem dX9_has_39 : decode cX9_has 39 = .ok (.iload_n 1, 1) := by decide +kernel
theorem dX9_has_40 : decode cX9_has 40 = .ok (.laload, 1) := by decide +kernel
theorem dX9_has_41 : decode cX9_has 41 = .ok (.iload_n 2, 1) := by decide +kernel
theorem dX9_has_42 : decode cX9_has 42 = .ok (.invokestatic 103, 3) := by decide +kernel
theorem dX9_has_45 : decode cX9_has 45 = .ok (.ireturn, 1) := by decide +kernel
theorem dX9_feed_0 : decode cX9_feed 0 = .ok (.iload_n 3, 1) := by decide +kernel
theorem dX9_feed_1 : decode cX9_feed 1 = .ok (.iconst 1, 1) := by decide +kernel
theorem dX9_feed_2 : decode cX9_feed 2 = .ok (.if_icmp .lt 17, 3) := by decide +kernel
theorem dX9_feed_5 : decode cX9_feed 5 = .ok (.iload_n 3, 1) := by decide +kernel
theorem dX9_feed_6 : decode cX9_feed 6 = .ok (.bipush 8, 2) := by decide +kernel
theorem dX9_feed_8 : decode cX9_feed 8 = .ok (.if_icmp .gt 11, 3) := by decide +kernel
theorem dX9_feed_11 : decode cX9_feed 11 = .ok (.lload_n 1, 1) := by decide +kernel
theorem dX9_feed_12 : decode cX9_feed 12 = .ok (.iload_n 3, 1) := by decide +kernel
theorem dX9_feed_13 : decode cX9_feed 13 = .ok (.invokestatic 114, 3) := by decide +kernel
theorem dX9_feed_16 : decode cX9_feed 16 = .ok (.ifCond .ne 11, 3) := by decide +kernel
theorem dX9_feed_19 : decode cX9_feed 19 = .ok (.new 51, 3) := by decide +kernel
theorem dX9_feed_22 : decode cX9_feed 22 = .ok (.dup, 1) := by decide +kernel
theorem dX9_feed_23 : decode cX9_feed 23 = .ok (.invokespecial 53, 3) := by decide +kernel
theorem dX9_feed_26 : decode cX9_feed 26 = .ok (.athrow, 1) := by decide +kernel
theorem dX9_feed_27 : decode cX9_feed 27 = .ok (.aload_n 0, 1) := by decide +kernel
theorem dX9_feed_28 : decode cX9_feed 28 = .ok (.getfield 19, 3) := by decide +kernel
theorem dX9_feed_31 : decode cX9_feed 31 = .ok (.getfield 117, 3) := by decide +kernel
theorem dX9_feed_34 : decode cX9_feed 34 = .ok (.iload_n 3, 1) := by decide +kernel
theorem dX9_feed_35 : decode cX9_feed 35 = .ok (.iadd, 1) := by decide +kernel
theorem dX9_feed_36 : decode cX9_feed 36 = .ok (.sipush 200, 3) := by decide +kernel
theorem dX9_feed_39 : decode cX9_feed 39 = .ok (.if_icmp .le 11, 3) := by decide +kernel
theorem dX9_feed_42 : decode cX9_feed 42 = .ok (.new 58, 3) := by decide +kernel
theorem dX9_feed_45 : decode cX9_feed 45 = .ok (.dup, 1) := by decide +kernel
theorem dX9_feed_46 : decode cX9_feed 46 = .ok (.invokespecial 60, 3) := by decide +kernel
theorem dX9_feed_49 : decode cX9_feed 49 = .ok (.athrow, 1) := by decide +kernel
theorem dX9_feed_50 : decode cX9_feed 50 = .ok (.aload_n 0, 1) := by decide +kernel
theorem dX9_feed_51 : decode cX9_feed 51 = .ok (.getfield 19, 3) := by decide +kernel
theorem dX9_feed_54 : decode cX9_feed 54 = .ok (.lload_n 1, 1) := by decide +kernel
theorem dX9_feed_55 : decode cX9_feed 55 = .ok (.iload_n 3, 1) := by decide +kernel
theorem dX9_feed_56 : decode cX9_feed 56 = .ok (.invokevirtual 118, 3) := by decide +kernel
theorem dX9_feed_59 : decode cX9_feed 59 = .ok (.aload_n 0, 1) := by decide +kernel
theorem dX9_feed_60 : decode cX9_feed 60 = .ok (.getfield 19, 3) := by decide +kernel
theorem dX9_feed_63 : decode cX9_feed 63 = .ok (.getfield 117, 3) := by decide +kernel
theorem dX9_feed_66 : decode cX9_feed 66 = .ok (.ireturn, 1) := by decide +kernel
theorem dX9_clear_0 : decode cX9_clear 0 = .ok (.aload_n 0, 1) := by decide +kernel
theorem dX9_clear_1 : decode cX9_clear 1 = .ok (.getfield 19, 3) := by decide +kernel
theorem dX9_clear_4 : decode cX9_clear 4 = .ok (.getfield 117, 3) := by decide +kernel
theorem dX9_clear_7 : decode cX9_clear 7 = .ok (.istore_n 1, 1) := by decide +kernel
theorem dX9_clear_8 : decode cX9_clear 8 = .ok (.aload_n 0, 1) := by decide +kernel
theorem dX9_clear_9 : decode cX9_clear 9 = .ok (.getfield 19, 3) := by decide +kernel
theorem dX9_clear_12 : decode cX9_clear 12 = .ok (.invokevirtual 119, 3) := by decide +kernel
theorem dX9_clear_15 : decode cX9_clear 15 = .ok (.iload_n 1, 1) := by decide +kernel
theorem dX9_clear_16 : decode cX9_clear 16 = .ok (.ireturn, 1) := by decide +kernel
theorem dX9_whole_0 : decode cX9_whole 0 = .ok (.aload_n 0, 1) := by decide +kernel
theorem dX9_whole_1 : decode cX9_whole 1 = .ok (.getfield 19, 3) := by decide +kernel
theorem dX9_whole_4 : decode cX9_whole 4 = .ok (.aload_n 0, 1) := by decide +kernel
theorem dX9_whole_5 : decode cX9_whole 5 = .ok (.invokevirtual 83, 3) := by decide +kernel
theorem dX9_whole_8 : decode cX9_whole 8 = .ok (.invokevirtual 122, 3) := by decide +kernel
theorem dX9_whole_11 : decode cX9_whole 11 = .ok (.ireturn, 1) := by decide +kernel
theorem dX9_finds_0 : decode cX9_finds 0 = .ok (.aload_n 0, 1) := by decide +kernel
theorem dX9_finds_1 : decode cX9_finds 1 = .ok (.getfield 19, 3) := by decide +kernel
theorem dX9_finds_4 : decode cX9_finds 4 = .ok (.aload_n 0, 1) := by decide +kernel
theorem dX9_finds_5 : decode cX9_finds 5 = .ok (.invokevirtual 83, 3) := by decide +kernel
theorem dX9_finds_8 : decode cX9_finds 8 = .ok (.invokevirtual 126, 3) := by decide +kernel
theorem dX9_finds_11 : decode cX9_finds 11 = .ok (.aload_n 0, 1) := by decide +kernel
theorem dX9_finds_12 : decode cX9_finds 12 = .ok (.getfield 19, 3) := by decide +kernel
theorem dX9_finds_15 : decode cX9_finds 15 = .ok (.getfield 130, 3) := by decide +kernel
theorem dX9_finds_18 : decode cX9_finds 18 = .ok (.ireturn, 1) := by decide +kernel
theorem dX9_find_0 : decode cX9_find 0 = .ok (.aload_n 0, 1) := by decide +kernel
theorem dX9_find_1 : decode cX9_find 1 = .ok (.getfield 19, 3) := by decide +kernel
theorem dX9_find_4 : decode cX9_find 4 = .ok (.aload_n 0, 1) := by decide +kernel
theorem dX9_find_5 : decode cX9_find 5 = .ok (.invokevirtual 83, 3) := by decide +kernel
theorem dX9_find_8 : decode cX9_find 8 = .ok (.invokevirtual 126, 3) := by decide +kernel
theorem dX9_find_11 : decode cX9_find 11 = .ok (.iload_n 1, 1) := by decide +kernel
theorem dX9_find_12 : decode cX9_find 12 = .ok (.ifCond .lt 14, 3) := by decide +kernel
theorem dX9_find_15 : decode cX9_find 15 = .ok (.iload_n 1, 1) := by decide +kernel
theorem dX9_find_16 : decode cX9_find 16 = .ok (.aload_n 0, 1) := by decide +kernel
theorem dX9_find_17 : decode cX9_find 17 = .ok (.getfield 19, 3) := by decide +kernel
theorem dX9_find_20 : decode cX9_find 20 = .ok (.getfield 130, 3) := by decide +kernel
theorem dX9_find_23 : decode cX9_find 23 = .ok (.if_icmp .lt 11, 3) := by decide +kernel
theorem dX9_find_26 : decode cX9_find 26 = .ok (.new 93, 3) := by decide +kernel
theorem dX9_find_29 : decode cX9_find 29 = .ok (.dup, 1) := by decide +kernel
theorem dX9_find_30 : decode cX9_find 30 = .ok (.invokespecial 95, 3) := by decide +kernel
theorem dX9_find_33 : decode cX9_find 33 = .ok (.athrow, 1) := by decide +kernel
theorem dX9_find_34 : decode cX9_find 34 = .ok (.iload_n 2, 1) := by decide +kernel
theorem dX9_find_35 : decode cX9_find 35 = .ok (.ifCond .eq 15, 3) := by decide +kernel
theorem dX9_find_38 : decode cX9_find 38 = .ok (.aload_n 0, 1) := by decide +kernel
theorem dX9_find_39 : decode cX9_find 39 = .ok (.getfield 19, 3) := by decide +kernel
theorem dX9_find_42 : decode cX9_find 42 = .ok (.getfield 133, 3) := by decide +kernel
theorem dX9_find_45 : decode cX9_find 45 = .ok (.iload_n 1, 1) := by decide +kernel
theorem dX9_find_46 : decode cX9_find 46 = .ok (.iaload, 1) := by decide +kernel
theorem dX9_find_47 : decode cX9_find 47 = .ok (.goto 12, 3) := by decide +kernel
theorem dX9_find_50 : decode cX9_find 50 = .ok (.aload_n 0, 1) := by decide +kernel
theorem dX9_find_51 : decode cX9_find 51 = .ok (.getfield 19, 3) := by decide +kernel
theorem dX9_find_54 : decode cX9_find 54 = .ok (.getfield 137, 3) := by decide +kernel
theorem dX9_find_57 : decode cX9_find 57 = .ok (.iload_n 1, 1) := by decide +kernel
theorem dX9_find_58 : decode cX9_find 58 = .ok (.iaload, 1) := by decide +kernel
theorem dX9_find_59 : decode cX9_find 59 = .ok (.ireturn, 1) := by decide +kernel
theorem dX9_states_0 : decode cX9_states 0 = .ok (.aload_n 0, 1) := by decide +kernel
theorem dX9_states_1 : decode cX9_states 1 = .ok (.aload_n 0, 1) := by decide +kernel
theorem dX9_states_2 : decode cX9_states 2 = .ok (.invokevirtual 83, 3) := by decide +kernel
theorem dX9_states_5 : decode cX9_states 5 = .ok (.invokevirtual 140, 3) := by decide +kernel
theorem dX9_states_8 : decode cX9_states 8 = .ok (.getfield 144, 3) := by decide +kernel
theorem dX9_states_11 : decode cX9_states 11 = .ok (.ireturn, 1) := by decide +kernel
theorem dX9_next_0 : decode cX9_next 0 = .ok (.aload_n 0, 1) := by decide +kernel
theorem dX9_next_1 : decode cX9_next 1 = .ok (.aload_n 0, 1) := by decide +kernel
theorem dX9_next_2 : decode cX9_next 2 = .ok (.invokevirtual 83, 3) := by decide +kernel
theorem dX9_next_5 : decode cX9_next 5 = .ok (.invokevirtual 140, 3) := by decide +kernel
theorem dX9_next_8 : decode cX9_next 8 = .ok (.astore_n 3, 1) := by decide +kernel
theorem dX9_next_9 : decode cX9_next 9 = .ok (.iload_n 1, 1) := by decide +kernel
theorem dX9_next_10 : decode cX9_next 10 = .ok (.ifCond .lt 21, 3) := by decide +kernel
theorem dX9_next_13 : decode cX9_next 13 = .ok (.iload_n 1, 1) := by decide +kernel
theorem dX9_next_14 : decode cX9_next 14 = .ok (.aload_n 3, 1) := by decide +kernel
theorem dX9_next_15 : decode cX9_next 15 = .ok (.getfield 144, 3) := by decide +kernel
theorem dX9_next_18 : decode cX9_next 18 = .ok (.if_icmp .ge 13, 3) := by decide +kernel
theorem dX9_next_21 : decode cX9_next 21 = .ok (.iload_n 2, 1) := by decide +kernel
theorem dX9_next_22 : decode cX9_next 22 = .ok (.ifCond .lt 9, 3) := by decide +kernel
theorem dX9_next_25 : decode cX9_next 25 = .ok (.iload_n 2, 1) := by decide +kernel
theorem dX9_next_26 : decode cX9_next 26 = .ok (.bipush 36, 2) := by decide +kernel
theorem dX9_next_28 : decode cX9_next 28 = .ok (.if_icmp .lt 11, 3) := by decide +kernel
theorem dX9_next_31 : decode cX9_next 31 = .ok (.new 93, 3) := by decide +kernel
theorem dX9_next_34 : decode cX9_next 34 = .ok (.dup, 1) := by decide +kernel
theorem dX9_next_35 : decode cX9_next 35 = .ok (.invokespecial 95, 3) := by decide +kernel
theorem dX9_next_38 : decode cX9_next 38 = .ok (.athrow, 1) := by decide +kernel
theorem dX9_next_39 : decode cX9_next 39 = .ok (.aload_n 3, 1) := by decide +kernel
theorem dX9_next_40 : decode cX9_next 40 = .ok (.iload_n 1, 1) := by decide +kernel
theorem dX9_next_41 : decode cX9_next 41 = .ok (.iload_n 2, 1) := by decide +kernel
theorem dX9_next_42 : decode cX9_next 42 = .ok (.invokevirtual 147, 3) := by decide +kernel
theorem dX9_next_45 : decode cX9_next 45 = .ok (.ireturn, 1) := by decide +kernel
theorem dX9_good_0 : decode cX9_good 0 = .ok (.aload_n 0, 1) := by decide +kernel
theorem dX9_good_1 : decode cX9_good 1 = .ok (.aload_n 0, 1) := by decide +kernel
theorem dX9_good_2 : decode cX9_good 2 = .ok (.invokevirtual 83, 3) := by decide +kernel
theorem dX9_good_5 : decode cX9_good 5 = .ok (.invokevirtual 140, 3) := by decide +kernel
theorem dX9_good_8 : decode cX9_good 8 = .ok (.astore_n 2, 1) := by decide +kernel
theorem dX9_good_9 : decode cX9_good 9 = .ok (.iload_n 1, 1) := by decide +kernel
theorem dX9_good_10 : decode cX9_good 10 = .ok (.ifCond .lt 11, 3) := by decide +kernel
theorem dX9_good_13 : decode cX9_good 13 = .ok (.iload_n 1, 1) := by decide +kernel
theorem dX9_good_14 : decode cX9_good 14 = .ok (.aload_n 2, 1) := by decide +kernel
theorem dX9_good_15 : decode cX9_good 15 = .ok (.getfield 144, 3) := by decide +kernel
theorem dX9_good_18 : decode cX9_good 18 = .ok (.if_icmp .lt 11, 3) := by decide +kernel
theorem dX9_good_21 : decode cX9_good 21 = .ok (.new 93, 3) := by decide +kernel
theorem dX9_good_24 : decode cX9_good 24 = .ok (.dup, 1) := by decide +kernel
theorem dX9_good_25 : decode cX9_good 25 = .ok (.invokespecial 95, 3) := by decide +kernel
theorem dX9_good_28 : decode cX9_good 28 = .ok (.athrow, 1) := by decide +kernel
theorem dX9_good_29 : decode cX9_good 29 = .ok (.aload_n 2, 1) := by decide +kernel
theorem dX9_good_30 : decode cX9_good 30 = .ok (.getfield 151, 3) := by decide +kernel
theorem dX9_good_33 : decode cX9_good 33 = .ok (.iload_n 1, 1) := by decide +kernel
theorem dX9_good_34 : decode cX9_good 34 = .ok (.baload, 1) := by decide +kernel
theorem dX9_good_35 : decode cX9_good 35 = .ok (.ireturn, 1) := by decide +kernel
theorem dX9_classes_0 : decode cX9_classes 0 = .ok (.aload_n 0, 1) := by decide +kernel
theorem dX9_classes_1 : decode cX9_classes 1 = .ok (.aload_n 0, 1) := by decide +kernel
theorem dX9_classes_2 : decode cX9_classes 2 = .ok (.invokevirtual 83, 3) := by decide +kernel
theorem dX9_classes_5 : decode cX9_classes 5 = .ok (.invokevirtual 140, 3) := by decide +kernel
theorem dX9_classes_8 : decode cX9_classes 8 = .ok (.astore_n 1, 1) := by decide +kernel
theorem dX9_classes_9 : decode cX9_classes 9 = .ok (.aload_n 1, 1) := by decide +kernel
theorem dX9_classes_10 : decode cX9_classes 10 = .ok (.getfield 155, 3) := by decide +kernel
theorem dX9_classes_13 : decode cX9_classes 13 = .ok (.ifCond .eq 5, 3) := by decide +kernel
theorem dX9_classes_16 : decode cX9_classes 16 = .ok (.iconst (-1), 1) := by decide +kernel
theorem dX9_classes_17 : decode cX9_classes 17 = .ok (.ireturn, 1) := by decide +kernel
theorem dX9_classes_18 : decode cX9_classes 18 = .ok (.aload_n 1, 1) := by decide +kernel
theorem dX9_classes_19 : decode cX9_classes 19 = .ok (.getfield 158, 3) := by decide +kernel
theorem dX9_classes_22 : decode cX9_classes 22 = .ok (.iconst (-1), 1) := by decide +kernel
theorem dX9_classes_23 : decode cX9_classes 23 = .ok (.if_icmp .ne 19, 3) := by decide +kernel
theorem dX9_classes_26 : decode cX9_classes 26 = .ok (.aload_n 1, 1) := by decide +kernel
theorem dX9_classes_27 : decode cX9_classes 27 = .ok (.aload_n 0, 1) := by decide +kernel
theorem dX9_classes_28 : decode cX9_classes 28 = .ok (.getfield 33, 3) := by decide +kernel
theorem dX9_classes_31 : decode cX9_classes 31 = .ok (.aload_n 1, 1) := by decide +kernel
theorem dX9_classes_32 : decode cX9_classes 32 = .ok (.aload_n 0, 1) := by decide +kernel
theorem dX9_classes_33 : decode cX9_classes 33 = .ok (.getfield 26, 3) := by decide +kernel
theorem dX9_classes_36 : decode cX9_classes 36 = .ok (.invokevirtual 161, 3) := by decide +kernel
theorem dX9_classes_39 : decode cX9_classes 39 = .ok (.putfield 158, 3) := by decide +kernel
theorem dX9_classes_42 : decode cX9_classes 42 = .ok (.aload_n 1, 1) := by decide +kernel
theorem dX9_classes_43 : decode cX9_classes 43 = .ok (.getfield 158, 3) := by decide +kernel
theorem dX9_classes_46 : decode cX9_classes 46 = .ok (.ireturn, 1) := by decide +kernel
theorem dX9_keep_0 : decode cX9_keep 0 = .ok (.aload_n 0, 1) := by decide +kernel
theorem dX9_keep_1 : decode cX9_keep 1 = .ok (.aload_n 0, 1) := by decide +kernel
theorem dX9_keep_2 : decode cX9_keep 2 = .ok (.invokevirtual 83, 3) := by decide +kernel
theorem dX9_keep_5 : decode cX9_keep 5 = .ok (.putfield 165, 3) := by decide +kernel
theorem dX9_keep_8 : decode cX9_keep 8 = .ok (.return_, 1) := by decide +kernel
theorem dX9_differ_0 : decode cX9_differ 0 = .ok (.aload_n 0, 1) := by decide +kernel
theorem dX9_differ_1 : decode cX9_differ 1 = .ok (.invokevirtual 83, 3) := by decide +kernel
theorem dX9_differ_4 : decode cX9_differ 4 = .ok (.astore_n 1, 1) := by decide +kernel
theorem dX9_differ_5 : decode cX9_differ 5 = .ok (.aload_n 0, 1) := by decide +kernel
theorem dX9_differ_6 : decode cX9_differ 6 = .ok (.getfield 165, 3) := by decide +kernel
theorem dX9_differ_9 : decode cX9_differ 9 = .ok (.ifnonnull 11, 3) := by decide +kernel
theorem dX9_differ_12 : decode cX9_differ 12 = .ok (.new 58, 3) := by decide +kernel
theorem dX9_differ_15 : decode cX9_differ 15 = .ok (.dup, 1) := by decide +kernel
theorem dX9_differ_16 : decode cX9_differ 16 = .ok (.invokespecial 60, 3) := by decide +kernel
theorem dX9_differ_19 : decode cX9_differ 19 = .ok (.athrow, 1) := by decide +kernel
theorem dX9_differ_20 : decode cX9_differ 20 = .ok (.aload_n 0, 1) := by decide +kernel
theorem dX9_differ_21 : decode cX9_differ 21 = .ok (.getfield 40, 3) := by decide +kernel
theorem dX9_differ_24 : decode cX9_differ 24 = .ok (.aload_n 0, 1) := by decide +kernel
theorem dX9_differ_25 : decode cX9_differ 25 = .ok (.aload_n 1, 1) := by decide +kernel
theorem dX9_differ_26 : decode cX9_differ 26 = .ok (.invokevirtual 140, 3) := by decide +kernel
theorem dX9_differ_29 : decode cX9_differ 29 = .ok (.aload_n 0, 1) := by decide +kernel
theorem dX9_differ_30 : decode cX9_differ 30 = .ok (.aload_n 0, 1) := by decide +kernel
theorem dX9_differ_31 : decode cX9_differ 31 = .ok (.getfield 165, 3) := by decide +kernel
theorem dX9_differ_34 : decode cX9_differ 34 = .ok (.invokevirtual 140, 3) := by decide +kernel
theorem dX9_differ_37 : decode cX9_differ 37 = .ok (.invokevirtual 168, 3) := by decide +kernel
theorem dX9_differ_40 : decode cX9_differ 40 = .ok (.ireturn, 1) := by decide +kernel
theorem dX9_letter_0 : decode cX9_letter 0 = .ok (.iload_n 1, 1) := by decide +kernel
theorem dX9_letter_1 : decode cX9_letter 1 = .ok (.ifCond .lt 14, 3) := by decide +kernel
theorem dX9_letter_4 : decode cX9_letter 4 = .ok (.iload_n 1, 1) := by decide +kernel
theorem dX9_letter_5 : decode cX9_letter 5 = .ok (.aload_n 0, 1) := by decide +kernel
theorem dX9_letter_6 : decode cX9_letter 6 = .ok (.getfield 40, 3) := by decide +kernel
theorem dX9_letter_9 : decode cX9_letter 9 = .ok (.getfield 172, 3) := by decide +kernel
theorem dX9_letter_12 : decode cX9_letter 12 = .ok (.if_icmp .lt 11, 3) := by decide +kernel
theorem dX9_letter_15 : decode cX9_letter 15 = .ok (.new 93, 3) := by decide +kernel
theorem dX9_letter_18 : decode cX9_letter 18 = .ok (.dup, 1) := by decide +kernel
theorem dX9_letter_19 : decode cX9_letter 19 = .ok (.invokespecial 95, 3) := by decide +kernel
theorem dX9_letter_22 : decode cX9_letter 22 = .ok (.athrow, 1) := by decide +kernel
theorem dX9_letter_23 : decode cX9_letter 23 = .ok (.aload_n 0, 1) := by decide +kernel
theorem dX9_letter_24 : decode cX9_letter 24 = .ok (.getfield 40, 3) := by decide +kernel
theorem dX9_letter_27 : decode cX9_letter 27 = .ok (.getfield 175, 3) := by decide +kernel
theorem dX9_letter_30 : decode cX9_letter 30 = .ok (.iload_n 1, 1) := by decide +kernel
theorem dX9_letter_31 : decode cX9_letter 31 = .ok (.iaload, 1) := by decide +kernel
theorem dX9_letter_32 : decode cX9_letter 32 = .ok (.ireturn, 1) := by decide +kernel
theorem dX9_thePattern_0 : decode cX9_thePattern 0 = .ok (.aload_n 0, 1) := by decide +kernel
theorem dX9_thePattern_1 : decode cX9_thePattern 1 = .ok (.getfield 73, 3) := by decide +kernel
theorem dX9_thePattern_4 : decode cX9_thePattern 4 = .ok (.ifnonnull 11, 3) := by decide +kernel
theorem dX9_thePattern_7 : decode cX9_thePattern 7 = .ok (.new 58, 3) := by decide +kernel
theorem dX9_thePattern_10 : decode cX9_thePattern 10 = .ok (.dup, 1) := by decide +kernel
theorem dX9_thePattern_11 : decode cX9_thePattern 11 = .ok (.invokespecial 60, 3) := by decide +kernel
theorem dX9_thePattern_14 : decode cX9_thePattern 14 = .ok (.athrow, 1) := by decide +kernel
theorem dX9_thePattern_15 : decode cX9_thePattern 15 = .ok (.aload_n 0, 1) := by decide +kernel
theorem dX9_thePattern_16 : decode cX9_thePattern 16 = .ok (.getfield 73, 3) := by decide +kernel
theorem dX9_thePattern_19 : decode cX9_thePattern 19 = .ok (.areturn, 1) := by decide +kernel
theorem dX9_freePattern_0 : decode cX9_freePattern 0 = .ok (.iconst 0, 1) := by decide +kernel
theorem dX9_freePattern_1 : decode cX9_freePattern 1 = .ok (.istore_n 1, 1) := by decide +kernel
theorem dX9_freePattern_2 : decode cX9_freePattern 2 = .ok (.iconst 0, 1) := by decide +kernel
theorem dX9_freePattern_3 : decode cX9_freePattern 3 = .ok (.istore_n 2, 1) := by decide +kernel
theorem dX9_freePattern_4 : decode cX9_freePattern 4 = .ok (.iload_n 2, 1) := by decide +kernel
theorem dX9_freePattern_5 : decode cX9_freePattern 5 = .ok (.aload_n 0, 1) := by decide +kernel
theorem dX9_freePattern_6 : decode cX9_freePattern 6 = .ok (.getfield 47, 3) := by decide +kernel
theorem dX9_freePattern_9 : decode cX9_freePattern 9 = .ok (.arraylength, 1) := by decide +kernel
theorem dX9_freePattern_10 : decode cX9_freePattern 10 = .ok (.if_icmp .ge 37, 3) := by decide +kernel
theorem dX9_freePattern_13 : decode cX9_freePattern 13 = .ok (.aload_n 0, 1) := by decide +kernel
theorem dX9_freePattern_14 : decode cX9_freePattern 14 = .ok (.getfield 47, 3) := by decide +kernel
theorem dX9_freePattern_17 : decode cX9_freePattern 17 = .ok (.iload_n 2, 1) := by decide +kernel
theorem dX9_freePattern_18 : decode cX9_freePattern 18 = .ok (.aaload, 1) := by decide +kernel
theorem dX9_freePattern_19 : decode cX9_freePattern 19 = .ok (.aload_n 0, 1) := by decide +kernel
theorem dX9_freePattern_20 : decode cX9_freePattern 20 = .ok (.getfield 73, 3) := by decide +kernel
theorem dX9_freePattern_23 : decode cX9_freePattern 23 = .ok (.if_acmp .eq 18, 3) := by decide +kernel
theorem dX9_freePattern_26 : decode cX9_freePattern 26 = .ok (.aload_n 0, 1) := by decide +kernel
theorem dX9_freePattern_27 : decode cX9_freePattern 27 = .ok (.getfield 47, 3) := by decide +kernel
theorem dX9_freePattern_30 : decode cX9_freePattern 30 = .ok (.iload_n 2, 1) := by decide +kernel
theorem dX9_freePattern_31 : decode cX9_freePattern 31 = .ok (.aaload, 1) := by decide +kernel
theorem dX9_freePattern_32 : decode cX9_freePattern 32 = .ok (.aload_n 0, 1) := by decide +kernel
theorem dX9_freePattern_33 : decode cX9_freePattern 33 = .ok (.getfield 165, 3) := by decide +kernel
theorem dX9_freePattern_36 : decode cX9_freePattern 36 = .ok (.if_acmp .eq 5, 3) := by decide +kernel
theorem dX9_freePattern_39 : decode cX9_freePattern 39 = .ok (.iload_n 2, 1) := by decide +kernel
theorem dX9_freePattern_40 : decode cX9_freePattern 40 = .ok (.istore_n 1, 1) := by decide +kernel
theorem dX9_freePattern_41 : decode cX9_freePattern 41 = .ok (.iinc 2 1, 3) := by decide +kernel
theorem dX9_freePattern_44 : decode cX9_freePattern 44 = .ok (.goto (-40), 3) := by decide +kernel
theorem dX9_freePattern_47 : decode cX9_freePattern 47 = .ok (.aload_n 0, 1) := by decide +kernel
theorem dX9_freePattern_48 : decode cX9_freePattern 48 = .ok (.getfield 47, 3) := by decide +kernel
theorem dX9_freePattern_51 : decode cX9_freePattern 51 = .ok (.iload_n 1, 1) := by decide +kernel
theorem dX9_freePattern_52 : decode cX9_freePattern 52 = .ok (.aaload, 1) := by decide +kernel
theorem dX9_freePattern_53 : decode cX9_freePattern 53 = .ok (.areturn, 1) := by decide +kernel
theorem dX9_automatonOf_0 : decode cX9_automatonOf 0 = .ok (.aload_n 1, 1) := by decide +kernel
theorem dX9_automatonOf_1 : decode cX9_automatonOf 1 = .ok (.getfield 178, 3) := by decide +kernel
theorem dX9_automatonOf_4 : decode cX9_automatonOf 4 = .ok (.astore_n 2, 1) := by decide +kernel
theorem dX9_automatonOf_5 : decode cX9_automatonOf 5 = .ok (.aload_n 2, 1) := by decide +kernel
theorem dX9_automatonOf_6 : decode cX9_automatonOf 6 = .ok (.getfield 182, 3) := by decide +kernel
theorem dX9_automatonOf_9 : decode cX9_automatonOf 9 = .ok (.ifCond .ne 12, 3) := by decide +kernel
theorem dX9_automatonOf_12 : decode cX9_automatonOf 12 = .ok (.aload_n 2, 1) := by decide +kernel
theorem dX9_automatonOf_13 : decode cX9_automatonOf 13 = .ok (.aload_n 1, 1) := by decide +kernel
theorem dX9_automatonOf_14 : decode cX9_automatonOf 14 = .ok (.aload_n 0, 1) := by decide +kernel
theorem dX9_automatonOf_15 : decode cX9_automatonOf 15 = .ok (.getfield 26, 3) := by decide +kernel
theorem dX9_automatonOf_18 : decode cX9_automatonOf 18 = .ok (.invokevirtual 185, 3) := by decide +kernel
theorem dX9_automatonOf_21 : decode cX9_automatonOf 21 = .ok (.aload_n 2, 1) := by decide +kernel
theorem dX9_automatonOf_22 : decode cX9_automatonOf 22 = .ok (.areturn, 1) := by decide +kernel
theorem dX9_byteOf_0 : decode cX9_byteOf 0 = .ok (.lload_n 0, 1) := by decide +kernel
theorem dX9_byteOf_1 : decode cX9_byteOf 1 = .ok (.bipush 8, 2) := by decide +kernel
theorem dX9_byteOf_3 : decode cX9_byteOf 3 = .ok (.iload_n 2, 1) := by decide +kernel
theorem dX9_byteOf_4 : decode cX9_byteOf 4 = .ok (.imul, 1) := by decide +kernel
theorem dX9_byteOf_5 : decode cX9_byteOf 5 = .ok (.lushr, 1) := by decide +kernel
theorem dX9_byteOf_6 : decode cX9_byteOf 6 = .ok (.l2i, 1) := by decide +kernel
theorem dX9_byteOf_7 : decode cX9_byteOf 7 = .ok (.sipush 255, 3) := by decide +kernel
theorem dX9_byteOf_10 : decode cX9_byteOf 10 = .ok (.iand, 1) := by decide +kernel
theorem dX9_byteOf_11 : decode cX9_byteOf 11 = .ok (.ireturn, 1) := by decide +kernel
theorem dX9_letterOf_0 : decode cX9_letterOf 0 = .ok (.iload_n 0, 1) := by decide +kernel
theorem dX9_letterOf_1 : decode cX9_letterOf 1 = .ok (.bipush 97, 2) := by decide +kernel
theorem dX9_letterOf_3 : decode cX9_letterOf 3 = .ok (.if_icmp .lt 14, 3) := by decide +kernel
theorem dX9_letterOf_6 : decode cX9_letterOf 6 = .ok (.iload_n 0, 1) := by decide +kernel
theorem dX9_letterOf_7 : decode cX9_letterOf 7 = .ok (.bipush 122, 2) := by decide +kernel
theorem dX9_letterOf_9 : decode cX9_letterOf 9 = .ok (.if_icmp .gt 8, 3) := by decide +kernel
theorem dX9_letterOf_12 : decode cX9_letterOf 12 = .ok (.iload_n 0, 1) := by decide +kernel
theorem dX9_letterOf_13 : decode cX9_letterOf 13 = .ok (.bipush 97, 2) := by decide +kernel
theorem dX9_letterOf_15 : decode cX9_letterOf 15 = .ok (.isub, 1) := by decide +kernel
theorem dX9_letterOf_16 : decode cX9_letterOf 16 = .ok (.ireturn, 1) := by decide +kernel
theorem dX9_letterOf_17 : decode cX9_letterOf 17 = .ok (.iload_n 0, 1) := by decide +kernel
theorem dX9_letterOf_18 : decode cX9_letterOf 18 = .ok (.bipush 48, 2) := by decide +kernel
theorem dX9_letterOf_20 : decode cX9_letterOf 20 = .ok (.if_icmp .lt 17, 3) := by decide +kernel
theorem dX9_letterOf_23 : decode cX9_letterOf 23 = .ok (.iload_n 0, 1) := by decide +kernel
theorem dX9_letterOf_24 : decode cX9_letterOf 24 = .ok (.bipush 57, 2) := by decide +kernel
theorem dX9_letterOf_26 : decode cX9_letterOf 26 = .ok (.if_icmp .gt 11, 3) := by decide +kernel
theorem dX9_letterOf_29 : decode cX9_letterOf 29 = .ok (.iload_n 0, 1) := by decide +kernel
theorem dX9_letterOf_30 : decode cX9_letterOf 30 = .ok (.bipush 48, 2) := by decide +kernel
theorem dX9_letterOf_32 : decode cX9_letterOf 32 = .ok (.isub, 1) := by decide +kernel
theorem dX9_letterOf_33 : decode cX9_letterOf 33 = .ok (.bipush 26, 2) := by decide +kernel
theorem dX9_letterOf_35 : decode cX9_letterOf 35 = .ok (.iadd, 1) := by decide +kernel
theorem dX9_letterOf_36 : decode cX9_letterOf 36 = .ok (.ireturn, 1) := by decide +kernel
theorem dX9_letterOf_37 : decode cX9_letterOf 37 = .ok (.iconst (-1), 1) := by decide +kernel
theorem dX9_letterOf_38 : decode cX9_letterOf 38 = .ok (.ireturn, 1) := by decide +kernel
theorem dX9_allLetters_0 : decode cX9_allLetters 0 = .ok (.iconst 0, 1) := by decide +kernel
theorem dX9_allLetters_1 : decode cX9_allLetters 1 = .ok (.istore_n 3, 1) := by decide +kernel
theorem dX9_allLetters_2 : decode cX9_allLetters 2 = .ok (.iload_n 3, 1) := by decide +kernel
theorem dX9_allLetters_3 : decode cX9_allLetters 3 = .ok (.iload_n 2, 1) := by decide +kernel
theorem dX9_allLetters_4 : decode cX9_allLetters 4 = .ok (.if_icmp .ge 23, 3) := by decide +kernel
theorem dX9_allLetters_7 : decode cX9_allLetters 7 = .ok (.lload_n 0, 1) := by decide +kernel
theorem dX9_allLetters_8 : decode cX9_allLetters 8 = .ok (.iload_n 3, 1) := by decide +kernel
theorem dX9_allLetters_9 : decode cX9_allLetters 9 = .ok (.invokestatic 189, 3) := by decide +kernel
theorem dX9_allLetters_12 : decode cX9_allLetters 12 = .ok (.invokestatic 193, 3) := by decide +kernel
theorem dX9_allLetters_15 : decode cX9_allLetters 15 = .ok (.iconst (-1), 1) := by decide +kernel
theorem dX9_allLetters_16 : decode cX9_allLetters 16 = .ok (.if_icmp .ne 5, 3) := by decide +kernel
theorem dX9_allLetters_19 : decode cX9_allLetters 19 = .ok (.iconst 0, 1) := by decide +kernel
theorem dX9_allLetters_20 : decode cX9_allLetters 20 = .ok (.ireturn, 1) := by decide +kernel
theorem dX9_allLetters_21 : decode cX9_allLetters 21 = .ok (.iinc 3 1, 3) := by decide +kernel
theorem dX9_allLetters_24 : decode cX9_allLetters 24 = .ok (.goto (-22), 3) := by decide +kernel
theorem dX9_allLetters_27 : decode cX9_allLetters 27 = .ok (.iconst 1, 1) := by decide +kernel
theorem dX9_allLetters_28 : decode cX9_allLetters 28 = .ok (.ireturn, 1) := by decide +kernel
theorem dX9_holds_0 : decode cX9_holds 0 = .ok (.lload_n 0, 1) := by decide +kernel
theorem dX9_holds_1 : decode cX9_holds 1 = .ok (.iload_n 2, 1) := by decide +kernel
theorem dX9_holds_2 : decode cX9_holds 2 = .ok (.lushr, 1) := by decide +kernel
theorem dX9_holds_3 : decode cX9_holds 3 = .ok (.lconst 1, 1) := by decide +kernel
theorem dX9_holds_4 : decode cX9_holds 4 = .ok (.land, 1) := by decide +kernel
theorem dX9_holds_5 : decode cX9_holds 5 = .ok (.lconst 0, 1) := by decide +kernel
theorem dX9_holds_6 : decode cX9_holds 6 = .ok (.lcmp, 1) := by decide +kernel
theorem dX9_holds_7 : decode cX9_holds 7 = .ok (.ifCond .eq 7, 3) := by decide +kernel
theorem dX9_holds_10 : decode cX9_holds 10 = .ok (.iconst 1, 1) := by decide +kernel
theorem dX9_holds_11 : decode cX9_holds 11 = .ok (.goto 4, 3) := by decide +kernel
theorem dX9_holds_14 : decode cX9_holds 14 = .ok (.iconst 0, 1) := by decide +kernel
theorem dX9_holds_15 : decode cX9_holds 15 = .ok (.ireturn, 1) := by decide +kernel
theorem dX10_init_0 : decode cX10_init 0 = .ok (.aload_n 0, 1) := by decide +kernel
theorem dX10_init_1 : decode cX10_init 1 = .ok (.invokespecial 1, 3) := by decide +kernel
theorem dX10_init_4 : decode cX10_init 4 = .ok (.aload_n 0, 1) := by decide +kernel
theorem dX10_init_5 : decode cX10_init 5 = .ok (.sipush 200, 3) := by decide +kernel
theorem dX10_init_8 : decode cX10_init 8 = .ok (.newarray .int, 2) := by decide +kernel
theorem dX10_init_10 : decode cX10_init 10 = .ok (.putfield 7, 3) := by decide +kernel
theorem dX10_init_13 : decode cX10_init 13 = .ok (.aload_n 0, 1) := by decide +kernel
theorem dX10_init_14 : decode cX10_init 14 = .ok (.sipush 200, 3) := by decide +kernel
theorem dX10_init_17 : decode cX10_init 17 = .ok (.newarray .int, 2) := by decide +kernel
theorem dX10_init_19 : decode cX10_init 19 = .ok (.putfield 13, 3) := by decide +kernel
theorem dX10_init_22 : decode cX10_init 22 = .ok (.aload_n 0, 1) := by decide +kernel
theorem dX10_init_23 : decode cX10_init 23 = .ok (.iconst (-1), 1) := by decide +kernel
theorem dX10_init_24 : decode cX10_init 24 = .ok (.putfield 16, 3) := by decide +kernel
theorem dX10_init_27 : decode cX10_init 27 = .ok (.aload_n 0, 1) := by decide +kernel
theorem dX10_init_28 : decode cX10_init 28 = .ok (.iconst 3, 1) := by decide +kernel
theorem dX10_init_29 : decode cX10_init 29 = .ok (.newarray .boolean, 2) := by decide +kernel
theorem dX10_init_31 : decode cX10_init 31 = .ok (.putfield 20, 3) := by decide +kernel
theorem dX10_init_34 : decode cX10_init 34 = .ok (.aload_n 0, 1) := by decide +kernel
theorem dX10_init_35 : decode cX10_init 35 = .ok (.iconst 3, 1) := by decide +kernel
theorem dX10_init_36 : decode cX10_init 36 = .ok (.newarray .int, 2) := by decide +kernel
theorem dX10_init_38 : decode cX10_init 38 = .ok (.putfield 24, 3) := by decide +kernel
theorem dX10_init_41 : decode cX10_init 41 = .ok (.aload_n 0, 1) := by decide +kernel
theorem dX10_init_42 : decode cX10_init 42 = .ok (.iconst 3, 1) := by decide +kernel
theorem dX10_init_43 : decode cX10_init 43 = .ok (.newarray .boolean, 2) := by decide +kernel
theorem dX10_init_45 : decode cX10_init 45 = .ok (.putfield 27, 3) := by decide +kernel
theorem dX10_init_48 : decode cX10_init 48 = .ok (.aload_n 0, 1) := by decide +kernel
theorem dX10_init_49 : decode cX10_init 49 = .ok (.iconst 3, 1) := by decide +kernel
theorem dX10_init_50 : decode cX10_init 50 = .ok (.newarray .long, 2) := by decide +kernel
theorem dX10_init_52 : decode cX10_init 52 = .ok (.putfield 30, 3) := by decide +kernel
theorem dX10_init_55 : decode cX10_init 55 = .ok (.aload_n 0, 1) := by decide +kernel
theorem dX10_init_56 : decode cX10_init 56 = .ok (.iconst 3, 1) := by decide +kernel
theorem dX10_init_57 : decode cX10_init 57 = .ok (.newarray .long, 2) := by decide +kernel
theorem dX10_init_59 : decode cX10_init 59 = .ok (.putfield 34, 3) := by decide +kernel
theorem dX10_init_62 : decode cX10_init 62 = .ok (.aload_n 0, 1) := by decide +kernel
theorem dX10_init_63 : decode cX10_init 63 = .ok (.sipush 180, 3) := by decide +kernel
theorem dX10_init_66 : decode cX10_init 66 = .ok (.newarray .long, 2) := by decide +kernel
theorem dX10_init_68 : decode cX10_init 68 = .ok (.putfield 37, 3) := by decide +kernel
theorem dX10_init_71 : decode cX10_init 71 = .ok (.aload_n 0, 1) := by decide +kernel
theorem dX10_init_72 : decode cX10_init 72 = .ok (.sipush 180, 3) := by decide +kernel
theorem dX10_init_75 : decode cX10_init 75 = .ok (.newarray .long, 2) := by decide +kernel
theorem dX10_init_77 : decode cX10_init 77 = .ok (.putfield 40, 3) := by decide +kernel
theorem dX10_init_80 : decode cX10_init 80 = .ok (.aload_n 0, 1) := by decide +kernel
theorem dX10_init_81 : decode cX10_init 81 = .ok (.bipush 10, 2) := by decide +kernel
theorem dX10_init_83 : decode cX10_init 83 = .ok (.newarray .boolean, 2) := by decide +kernel
theorem dX10_init_85 : decode cX10_init 85 = .ok (.putfield 43, 3) := by decide +kernel
theorem dX10_init_88 : decode cX10_init 88 = .ok (.aload_n 0, 1) := by decide +kernel
theorem dX10_init_89 : decode cX10_init 89 = .ok (.bipush 10, 2) := by decide +kernel
theorem dX10_init_91 : decode cX10_init 91 = .ok (.newarray .long, 2) := by decide +kernel
theorem dX10_init_93 : decode cX10_init 93 = .ok (.putfield 46, 3) := by decide +kernel
theorem dX10_init_96 : decode cX10_init 96 = .ok (.aload_n 0, 1) := by decide +kernel
theorem dX10_init_97 : decode cX10_init 97 = .ok (.bipush 10, 2) := by decide +kernel
theorem dX10_init_99 : decode cX10_init 99 = .ok (.newarray .long, 2) := by decide +kernel
theorem dX10_init_101 : decode cX10_init 101 = .ok (.putfield 49, 3) := by decide +kernel
theorem dX10_init_104 : decode cX10_init 104 = .ok (.aload_n 0, 1) := by decide +kernel
theorem dX10_init_105 : decode cX10_init 105 = .ok (.bipush 10, 2) := by decide +kernel
theorem dX10_init_107 : decode cX10_init 107 = .ok (.newarray .boolean, 2) := by decide +kernel
theorem dX10_init_109 : decode cX10_init 109 = .ok (.putfield 52, 3) := by decide +kernel
theorem dX10_init_112 : decode cX10_init 112 = .ok (.aload_n 0, 1) := by decide +kernel
theorem dX10_init_113 : decode cX10_init 113 = .ok (.bipush 10, 2) := by decide +kernel
theorem dX10_init_115 : decode cX10_init 115 = .ok (.newarray .int, 2) := by decide +kernel
theorem dX10_init_117 : decode cX10_init 117 = .ok (.putfield 55, 3) := by decide +kernel
theorem dX10_init_120 : decode cX10_init 120 = .ok (.aload_n 0, 1) := by decide +kernel
theorem dX10_init_121 : decode cX10_init 121 = .ok (.bipush 10, 2) := by decide +kernel
theorem dX10_init_123 : decode cX10_init 123 = .ok (.newarray .boolean, 2) := by decide +kernel
theorem dX10_init_125 : decode cX10_init 125 = .ok (.putfield 58, 3) := by decide +kernel
theorem dX10_init_128 : decode cX10_init 128 = .ok (.aload_n 0, 1) := by decide +kernel
theorem dX10_init_129 : decode cX10_init 129 = .ok (.bipush 10, 2) := by decide +kernel
theorem dX10_init_131 : decode cX10_init 131 = .ok (.newarray .long, 2) := by decide +kernel
theorem dX10_init_133 : decode cX10_init 133 = .ok (.putfield 61, 3) := by decide +kernel
theorem dX10_init_136 : decode cX10_init 136 = .ok (.aload_n 0, 1) := by decide +kernel
theorem dX10_init_137 : decode cX10_init 137 = .ok (.bipush 10, 2) := by decide +kernel
theorem dX10_init_139 : decode cX10_init 139 = .ok (.newarray .long, 2) := by decide +kernel
theorem dX10_init_141 : decode cX10_init 141 = .ok (.putfield 64, 3) := by decide +kernel
theorem dX10_init_144 : decode cX10_init 144 = .ok (.aload_n 0, 1) := by decide +kernel
theorem dX10_init_145 : decode cX10_init 145 = .ok (.bipush 10, 2) := by decide +kernel
theorem dX10_init_147 : decode cX10_init 147 = .ok (.newarray .boolean, 2) := by decide +kernel
theorem dX10_init_149 : decode cX10_init 149 = .ok (.putfield 67, 3) := by decide +kernel
theorem dX10_init_152 : decode cX10_init 152 = .ok (.aload_n 0, 1) := by decide +kernel
theorem dX10_init_153 : decode cX10_init 153 = .ok (.bipush 10, 2) := by decide +kernel
theorem dX10_init_155 : decode cX10_init 155 = .ok (.newarray .long, 2) := by decide +kernel
theorem dX10_init_157 : decode cX10_init 157 = .ok (.putfield 70, 3) := by decide +kernel
theorem dX10_init_160 : decode cX10_init 160 = .ok (.aload_n 0, 1) := by decide +kernel
theorem dX10_init_161 : decode cX10_init 161 = .ok (.bipush 10, 2) := by decide +kernel
theorem dX10_init_163 : decode cX10_init 163 = .ok (.newarray .long, 2) := by decide +kernel
theorem dX10_init_165 : decode cX10_init 165 = .ok (.putfield 73, 3) := by decide +kernel
theorem dX10_init_168 : decode cX10_init 168 = .ok (.aload_n 0, 1) := by decide +kernel
theorem dX10_init_169 : decode cX10_init 169 = .ok (.bipush 10, 2) := by decide +kernel
theorem dX10_init_171 : decode cX10_init 171 = .ok (.newarray .int, 2) := by decide +kernel
theorem dX10_init_173 : decode cX10_init 173 = .ok (.putfield 76, 3) := by decide +kernel
theorem dX10_init_176 : decode cX10_init 176 = .ok (.aload_n 0, 1) := by decide +kernel
theorem dX10_init_177 : decode cX10_init 177 = .ok (.bipush 60, 2) := by decide +kernel
theorem dX10_init_179 : decode cX10_init 179 = .ok (.newarray .long, 2) := by decide +kernel
theorem dX10_init_181 : decode cX10_init 181 = .ok (.putfield 79, 3) := by decide +kernel
theorem dX10_init_184 : decode cX10_init 184 = .ok (.aload_n 0, 1) := by decide +kernel
theorem dX10_init_185 : decode cX10_init 185 = .ok (.sipush 600, 3) := by decide +kernel
theorem dX10_init_188 : decode cX10_init 188 = .ok (.newarray .long, 2) := by decide +kernel
theorem dX10_init_190 : decode cX10_init 190 = .ok (.putfield 82, 3) := by decide +kernel
theorem dX10_init_193 : decode cX10_init 193 = .ok (.aload_n 0, 1) := by decide +kernel
theorem dX10_init_194 : decode cX10_init 194 = .ok (.sipush 21600, 3) := by decide +kernel
theorem dX10_init_197 : decode cX10_init 197 = .ok (.newarray .int, 2) := by decide +kernel
theorem dX10_init_199 : decode cX10_init 199 = .ok (.putfield 85, 3) := by decide +kernel
theorem dX10_init_202 : decode cX10_init 202 = .ok (.aload_n 0, 1) := by decide +kernel
theorem dX10_init_203 : decode cX10_init 203 = .ok (.iconst 2, 1) := by decide +kernel
theorem dX10_init_204 : decode cX10_init 204 = .ok (.newarray .int, 2) := by decide +kernel
theorem dX10_init_206 : decode cX10_init 206 = .ok (.putfield 88, 3) := by decide +kernel
theorem dX10_init_209 : decode cX10_init 209 = .ok (.aload_n 0, 1) := by decide +kernel
theorem dX10_init_210 : decode cX10_init 210 = .ok (.iconst 2, 1) := by decide +kernel
theorem dX10_init_211 : decode cX10_init 211 = .ok (.newarray .boolean, 2) := by decide +kernel
theorem dX10_init_213 : decode cX10_init 213 = .ok (.putfield 91, 3) := by decide +kernel
theorem dX10_init_216 : decode cX10_init 216 = .ok (.aload_n 0, 1) := by decide +kernel
theorem dX10_init_217 : decode cX10_init 217 = .ok (.ldc 94, 2) := by decide +kernel
theorem dX10_init_219 : decode cX10_init 219 = .ok (.newarray .boolean, 2) := by decide +kernel
theorem dX10_init_221 : decode cX10_init 221 = .ok (.putfield 95, 3) := by decide +kernel
theorem dX10_init_224 : decode cX10_init 224 = .ok (.aload_n 0, 1) := by decide +kernel
theorem dX10_init_225 : decode cX10_init 225 = .ok (.ldc 94, 2) := by decide +kernel
theorem dX10_init_227 : decode cX10_init 227 = .ok (.newarray .int, 2) := by decide +kernel
theorem dX10_init_229 : decode cX10_init 229 = .ok (.putfield 98, 3) := by decide +kernel
theorem dX10_init_232 : decode cX10_init 232 = .ok (.aload_n 0, 1) := by decide +kernel
theorem dX10_init_233 : decode cX10_init 233 = .ok (.ldc 94, 2) := by decide +kernel
theorem dX10_init_235 : decode cX10_init 235 = .ok (.newarray .int, 2) := by decide +kernel
theorem dX10_init_237 : decode cX10_init 237 = .ok (.putfield 101, 3) := by decide +kernel
theorem dX10_init_240 : decode cX10_init 240 = .ok (.aload_n 0, 1) := by decide +kernel
theorem dX10_init_241 : decode cX10_init 241 = .ok (.ldc 94, 2) := by decide +kernel
theorem dX10_init_243 : decode cX10_init 243 = .ok (.newarray .int, 2) := by decide +kernel
theorem dX10_init_245 : decode cX10_init 245 = .ok (.putfield 104, 3) := by decide +kernel
theorem dX10_init_248 : decode cX10_init 248 = .ok (.aload_n 0, 1) := by decide +kernel
theorem dX10_init_249 : decode cX10_init 249 = .ok (.ldc 94, 2) := by decide +kernel
theorem dX10_init_251 : decode cX10_init 251 = .ok (.newarray .int, 2) := by decide +kernel
theorem dX10_init_253 : decode cX10_init 253 = .ok (.putfield 107, 3) := by decide +kernel
theorem dX10_init_256 : decode cX10_init 256 = .ok (.aload_n 0, 1) := by decide +kernel
theorem dX10_init_257 : decode cX10_init 257 = .ok (.sipush 200, 3) := by decide +kernel
theorem dX10_init_260 : decode cX10_init 260 = .ok (.newarray .int, 2) := by decide +kernel
theorem dX10_init_262 : decode cX10_init 262 = .ok (.putfield 110, 3) := by decide +kernel
theorem dX10_init_265 : decode cX10_init 265 = .ok (.aload_n 0, 1) := by decide +kernel
theorem dX10_init_266 : decode cX10_init 266 = .ok (.sipush 200, 3) := by decide +kernel
theorem dX10_init_269 : decode cX10_init 269 = .ok (.newarray .int, 2) := by decide +kernel
theorem dX10_init_271 : decode cX10_init 271 = .ok (.putfield 113, 3) := by decide +kernel
theorem dX10_init_274 : decode cX10_init 274 = .ok (.return_, 1) := by decide +kernel
theorem dX10_thrown_0 : decode cX10_thrown 0 = .ok (.aload_n 0, 1) := by decide +kernel
theorem dX10_thrown_1 : decode cX10_thrown 1 = .ok (.getfield 116, 3) := by decide +kernel
theorem dX10_thrown_4 : decode cX10_thrown 4 = .ok (.ireturn, 1) := by decide +kernel
theorem dX10_letterOf_0 : decode cX10_letterOf 0 = .ok (.iload_n 0, 1) := by decide +kernel
theorem dX10_letterOf_1 : decode cX10_letterOf 1 = .ok (.bipush 97, 2) := by decide +kernel
theorem dX10_letterOf_3 : decode cX10_letterOf 3 = .ok (.if_icmp .lt 16, 3) := by decide +kernel
theorem dX10_letterOf_6 : decode cX10_letterOf 6 = .ok (.iload_n 0, 1) := by decide +kernel
theorem dX10_letterOf_7 : decode cX10_letterOf 7 = .ok (.bipush 122, 2) := by decide +kernel
theorem dX10_letterOf_9 : decode cX10_letterOf 9 = .ok (.if_icmp .gt 10, 3) := by decide +kernel
theorem dX10_letterOf_12 : decode cX10_letterOf 12 = .ok (.iload_n 0, 1) := by decide +kernel
theorem dX10_letterOf_13 : decode cX10_letterOf 13 = .ok (.bipush 97, 2) := by decide +kernel
theorem dX10_letterOf_15 : decode cX10_letterOf 15 = .ok (.isub, 1) := by decide +kernel
theorem dX10_letterOf_16 : decode cX10_letterOf 16 = .ok (.goto 26, 3) := by decide +kernel
theorem dX10_letterOf_19 : decode cX10_letterOf 19 = .ok (.iload_n 0, 1) := by decide +kernel
theorem dX10_letterOf_20 : decode cX10_letterOf 20 = .ok (.bipush 48, 2) := by decide +kernel
theorem dX10_letterOf_22 : decode cX10_letterOf 22 = .ok (.if_icmp .lt 19, 3) := by decide +kernel
theorem dX10_letterOf_25 : decode cX10_letterOf 25 = .ok (.iload_n 0, 1) := by decide +kernel
theorem dX10_letterOf_26 : decode cX10_letterOf 26 = .ok (.bipush 57, 2) := by decide +kernel
theorem dX10_letterOf_28 : decode cX10_letterOf 28 = .ok (.if_icmp .gt 13, 3) := by decide +kernel
theorem dX10_letterOf_31 : decode cX10_letterOf 31 = .ok (.iload_n 0, 1) := by decide +kernel
theorem dX10_letterOf_32 : decode cX10_letterOf 32 = .ok (.bipush 48, 2) := by decide +kernel
theorem dX10_letterOf_34 : decode cX10_letterOf 34 = .ok (.isub, 1) := by decide +kernel
theorem dX10_letterOf_35 : decode cX10_letterOf 35 = .ok (.bipush 26, 2) := by decide +kernel
theorem dX10_letterOf_37 : decode cX10_letterOf 37 = .ok (.iadd, 1) := by decide +kernel
theorem dX10_letterOf_38 : decode cX10_letterOf 38 = .ok (.goto 4, 3) := by decide +kernel
theorem dX10_letterOf_41 : decode cX10_letterOf 41 = .ok (.iconst (-1), 1) := by decide +kernel
theorem dX10_letterOf_42 : decode cX10_letterOf 42 = .ok (.ireturn, 1) := by decide +kernel
theorem dX10_hasBit_0 : decode cX10_hasBit 0 = .ok (.lload_n 0, 1) := by decide +kernel
theorem dX10_hasBit_1 : decode cX10_hasBit 1 = .ok (.iload_n 2, 1) := by decide +kernel
theorem dX10_hasBit_2 : decode cX10_hasBit 2 = .ok (.lshr, 1) := by decide +kernel
theorem dX10_hasBit_3 : decode cX10_hasBit 3 = .ok (.lconst 1, 1) := by decide +kernel
theorem dX10_hasBit_4 : decode cX10_hasBit 4 = .ok (.land, 1) := by decide +kernel
theorem dX10_hasBit_5 : decode cX10_hasBit 5 = .ok (.lconst 1, 1) := by decide +kernel
theorem dX10_hasBit_6 : decode cX10_hasBit 6 = .ok (.lcmp, 1) := by decide +kernel
theorem dX10_hasBit_7 : decode cX10_hasBit 7 = .ok (.ifCond .ne 7, 3) := by decide +kernel
theorem dX10_hasBit_10 : decode cX10_hasBit 10 = .ok (.iconst 1, 1) := by decide +kernel
theorem dX10_hasBit_11 : decode cX10_hasBit 11 = .ok (.goto 4, 3) := by decide +kernel
theorem dX10_hasBit_14 : decode cX10_hasBit 14 = .ok (.iconst 0, 1) := by decide +kernel
theorem dX10_hasBit_15 : decode cX10_hasBit 15 = .ok (.ireturn, 1) := by decide +kernel
theorem dX10_type_0 : decode cX10_type 0 = .ok (.aload_n 0, 1) := by decide +kernel
theorem dX10_type_1 : decode cX10_type 1 = .ok (.iload_n 3, 1) := by decide +kernel
theorem dX10_type_2 : decode cX10_type 2 = .ok (.iconst 1, 1) := by decide +kernel
theorem dX10_type_3 : decode cX10_type 3 = .ok (.if_icmp .lt 9, 3) := by decide +kernel
theorem dX10_type_6 : decode cX10_type 6 = .ok (.iload_n 3, 1) := by decide +kernel
theorem dX10_type_7 : decode cX10_type 7 = .ok (.bipush 8, 2) := by decide +kernel
theorem dX10_type_9 : decode cX10_type 9 = .ok (.if_icmp .le 7, 3) := by decide +kernel
theorem dX10_type_12 : decode cX10_type 12 = .ok (.iconst 1, 1) := by decide +kernel
theorem dX10_type_13 : decode cX10_type 13 = .ok (.goto 20, 3) := by decide +kernel
theorem dX10_type_16 : decode cX10_type 16 = .ok (.aload_n 0, 1) := by decide +kernel
theorem dX10_type_17 : decode cX10_type 17 = .ok (.getfield 119, 3) := by decide +kernel
theorem dX10_type_20 : decode cX10_type 20 = .ok (.iload_n 3, 1) := by decide +kernel
theorem dX10_type_21 : decode cX10_type 21 = .ok (.iadd, 1) := by decide +kernel
theorem dX10_type_22 : decode cX10_type 22 = .ok (.sipush 200, 3) := by decide +kernel
theorem dX10_type_25 : decode cX10_type 25 = .ok (.if_icmp .le 7, 3) := by decide +kernel
theorem dX10_type_28 : decode cX10_type 28 = .ok (.iconst 2, 1) := by decide +kernel
theorem dX10_type_29 : decode cX10_type 29 = .ok (.goto 4, 3) := by decide +kernel
theorem dX10_type_32 : decode cX10_type 32 = .ok (.iconst 0, 1) := by decide +kernel
theorem dX10_type_33 : decode cX10_type 33 = .ok (.putfield 116, 3) := by decide +kernel
theorem dX10_type_36 : decode cX10_type 36 = .ok (.aload_n 0, 1) := by decide +kernel
theorem dX10_type_37 : decode cX10_type 37 = .ok (.getfield 116, 3) := by decide +kernel
theorem dX10_type_40 : decode cX10_type 40 = .ok (.ifCond .le 5, 3) := by decide +kernel
theorem dX10_type_43 : decode cX10_type 43 = .ok (.iconst 0, 1) := by decide +kernel
theorem dX10_type_44 : decode cX10_type 44 = .ok (.ireturn, 1) := by decide +kernel
theorem dX10_type_45 : decode cX10_type 45 = .ok (.iconst 0, 1) := by decide +kernel
theorem dX10_type_46 : decode cX10_type 46 = .ok (.istore 4, 2) := by decide +kernel
theorem dX10_type_48 : decode cX10_type 48 = .ok (.iload 4, 2) := by decide +kernel
theorem dX10_type_50 : decode cX10_type 50 = .ok (.iload_n 3, 1) := by decide +kernel
theorem dX10_type_51 : decode cX10_type 51 = .ok (.if_icmp .ge 40, 3) := by decide +kernel
theorem dX10_type_54 : decode cX10_type 54 = .ok (.aload_n 0, 1) := by decide +kernel
theorem dX10_type_55 : decode cX10_type 55 = .ok (.getfield 7, 3) := by decide +kernel
theorem dX10_type_58 : decode cX10_type 58 = .ok (.aload_n 0, 1) := by decide +kernel
theorem dX10_type_59 : decode cX10_type 59 = .ok (.getfield 119, 3) := by decide +kernel
theorem dX10_type_62 : decode cX10_type 62 = .ok (.lload_n 1, 1) := by decide +kernel
theorem dX10_type_63 : decode cX10_type 63 = .ok (.bipush 8, 2) := by decide +kernel
theorem dX10_type_65 : decode cX10_type 65 = .ok (.iload 4, 2) := by decide +kernel
theorem dX10_type_67 : decode cX10_type 67 = .ok (.imul, 1) := by decide +kernel
theorem dX10_type_68 : decode cX10_type 68 = .ok (.lshr, 1) := by decide +kernel
theorem dX10_type_69 : decode cX10_type 69 = .ok (.ldc2_w 122, 3) := by decide +kernel
theorem dX10_type_72 : decode cX10_type 72 = .ok (.land, 1) := by decide +kernel
theorem dX10_type_73 : decode cX10_type 73 = .ok (.l2i, 1) := by decide +kernel
theorem dX10_type_74 : decode cX10_type 74 = .ok (.iastore, 1) := by decide +kernel
theorem dX10_type_75 : decode cX10_type 75 = .ok (.aload_n 0, 1) := by decide +kernel
theorem dX10_type_76 : decode cX10_type 76 = .ok (.dup, 1) := by decide +kernel
theorem dX10_type_77 : decode cX10_type 77 = .ok (.getfield 119, 3) := by decide +kernel
theorem dX10_type_80 : decode cX10_type 80 = .ok (.iconst 1, 1) := by decide +kernel
theorem dX10_type_81 : decode cX10_type 81 = .ok (.iadd, 1) := by decide +kernel
theorem dX10_type_82 : decode cX10_type 82 = .ok (.putfield 119, 3) := by decide +kernel
theorem dX10_type_85 : decode cX10_type 85 = .ok (.iinc 4 1, 3) := by decide +kernel
theorem dX10_type_88 : decode cX10_type 88 = .ok (.goto (-40), 3) := by decide +kernel
theorem dX10_type_91 : decode cX10_type 91 = .ok (.aload_n 0, 1) := by decide +kernel
theorem dX10_type_92 : decode cX10_type 92 = .ok (.getfield 119, 3) := by decide +kernel
theorem dX10_type_95 : decode cX10_type 95 = .ok (.ireturn, 1) := by decide +kernel
theorem dX10_fail_0 : decode cX10_fail 0 = .ok (.aload_n 0, 1) := by decide +kernel
theorem dX10_fail_1 : decode cX10_fail 1 = .ok (.getfield 124, 3) := by decide +kernel
theorem dX10_fail_4 : decode cX10_fail 4 = .ok (.ifCond .ne 13, 3) := by decide +kernel
theorem dX10_fail_7 : decode cX10_fail 7 = .ok (.aload_n 0, 1) := by decide +kernel
theorem dX10_fail_8 : decode cX10_fail 8 = .ok (.iload_n 1, 1) := by decide +kernel
theorem dX10_fail_9 : decode cX10_fail 9 = .ok (.putfield 124, 3) := by decide +kernel
theorem dX10_fail_12 : decode cX10_fail 12 = .ok (.aload_n 0, 1) := by decide +kernel
theorem dX10_fail_13 : decode cX10_fail 13 = .ok (.iload_n 2, 1) := by decide +kernel
theorem dX10_fail_14 : decode cX10_fail 14 = .ok (.putfield 16, 3) := by decide +kernel
theorem dX10_fail_17 : decode cX10_fail 17 = .ok (.return_, 1) := by decide +kernel
theorem dX10_here_0 : decode cX10_here 0 = .ok (.aload_n 0, 1) := by decide +kernel
theorem dX10_here_1 : decode cX10_here 1 = .ok (.getfield 127, 3) := by decide +kernel
theorem dX10_here_4 : decode cX10_here 4 = .ok (.aload_n 0, 1) := by decide +kernel
theorem dX10_here_5 : decode cX10_here 5 = .ok (.getfield 119, 3) := by decide +kernel
theorem dX10_here_8 : decode cX10_here 8 = .ok (.if_icmp .ge 15, 3) := by decide +kernel
theorem dX10_here_11 : decode cX10_here 11 = .ok (.aload_n 0, 1) := by decide +kernel
theorem dX10_here_12 : decode cX10_here 12 = .ok (.getfield 7, 3) := by decide +kernel
theorem dX10_here_15 : decode cX10_here 15 = .ok (.aload_n 0, 1) := by decide +kernel
theorem dX10_here_16 : decode cX10_here 16 = .ok (.getfield 127, 3) := by decide +kernel
theorem dX10_here_19 : decode cX10_here 19 = .ok (.iaload, 1) := by decide +kernel
theorem dX10_here_20 : decode cX10_here 20 = .ok (.goto 4, 3) := by decide +kernel
theorem dX10_here_23 : decode cX10_here 23 = .ok (.iconst (-1), 1) := by decide +kernel
theorem dX10_here_24 : decode cX10_here 24 = .ok (.ireturn, 1) := by decide +kernel
theorem dX10_failHere_0 : decode cX10_failHere 0 = .ok (.aload_n 0, 1) := by decide +kernel
theorem dX10_failHere_1 : decode cX10_failHere 1 = .ok (.aload_n 0, 1) := by decide +kernel
theorem dX10_failHere_2 : decode cX10_failHere 2 = .ok (.getfield 127, 3) := by decide +kernel
theorem dX10_failHere_5 : decode cX10_failHere 5 = .ok (.aload_n 0, 1) := by decide +kernel
theorem dX10_failHere_6 : decode cX10_failHere 6 = .ok (.getfield 119, 3) := by decide +kernel
theorem dX10_failHere_9 : decode cX10_failHere 9 = .ok (.if_icmp .ge 7, 3) := by decide +kernel
theorem dX10_failHere_12 : decode cX10_failHere 12 = .ok (.iconst 1, 1) := by decide +kernel
theorem dX10_failHere_13 : decode cX10_failHere 13 = .ok (.goto 4, 3) := by decide +kernel
theorem dX10_failHere_16 : decode cX10_failHere 16 = .ok (.iconst 2, 1) := by decide +kernel
theorem dX10_failHere_17 : decode cX10_failHere 17 = .ok (.aload_n 0, 1) := by decide +kernel
theorem dX10_failHere_18 : decode cX10_failHere 18 = .ok (.getfield 127, 3) := by decide +kernel
theorem dX10_failHere_21 : decode cX10_failHere 21 = .ok (.invokevirtual 130, 3) := by decide +kernel
theorem dX10_failHere_24 : decode cX10_failHere 24 = .ok (.return_, 1) := by decide +kernel
theorem dX10_beginRow_0 : decode cX10_beginRow 0 = .ok (.aload_n 0, 1) := by decide +kernel
theorem dX10_beginRow_1 : decode cX10_beginRow 1 = .ok (.getfield 43, 3) := by decide +kernel
theorem dX10_beginRow_4 : decode cX10_beginRow 4 = .ok (.aload_n 0, 1) := by decide +kernel
theorem dX10_beginRow_5 : decode cX10_beginRow 5 = .ok (.getfield 134, 3) := by decide +kernel
theorem dX10_beginRow_8 : decode cX10_beginRow 8 = .ok (.iconst 1, 1) := by decide +kernel
theorem dX10_beginRow_9 : decode cX10_beginRow 9 = .ok (.bastore, 1) := by decide +kernel
theorem dX10_beginRow_10 : decode cX10_beginRow 10 = .ok (.aload_n 0, 1) := by decide +kernel
theorem dX10_beginRow_11 : decode cX10_beginRow 11 = .ok (.getfield 46, 3) := by decide +kernel
theorem dX10_beginRow_14 : decode cX10_beginRow 14 = .ok (.aload_n 0, 1) := by decide +kernel
theorem dX10_beginRow_15 : decode cX10_beginRow 15 = .ok (.getfield 134, 3) := by decide +kernel
theorem dX10_beginRow_18 : decode cX10_beginRow 18 = .ok (.lconst 0, 1) := by decide +kernel
theorem dX10_beginRow_19 : decode cX10_beginRow 19 = .ok (.lastore, 1) := by decide +kernel
theorem dX10_beginRow_20 : decode cX10_beginRow 20 = .ok (.aload_n 0, 1) := by decide +kernel
theorem dX10_beginRow_21 : decode cX10_beginRow 21 = .ok (.getfield 49, 3) := by decide +kernel
theorem dX10_beginRow_24 : decode cX10_beginRow 24 = .ok (.aload_n 0, 1) := by decide +kernel
theorem dX10_beginRow_25 : decode cX10_beginRow 25 = .ok (.getfield 134, 3) := by decide +kernel
theorem dX10_beginRow_28 : decode cX10_beginRow 28 = .ok (.lconst 0, 1) := by decide +kernel
theorem dX10_beginRow_29 : decode cX10_beginRow 29 = .ok (.lastore, 1) := by decide +kernel
theorem dX10_beginRow_30 : decode cX10_beginRow 30 = .ok (.aload_n 0, 1) := by decide +kernel
theorem dX10_beginRow_31 : decode cX10_beginRow 31 = .ok (.getfield 52, 3) := by decide +kernel
theorem dX10_beginRow_34 : decode cX10_beginRow 34 = .ok (.aload_n 0, 1) := by decide +kernel
theorem dX10_beginRow_35 : decode cX10_beginRow 35 = .ok (.getfield 134, 3) := by decide +kernel
theorem dX10_beginRow_38 : decode cX10_beginRow 38 = .ok (.iconst 0, 1) := by decide +kernel
theorem dX10_beginRow_39 : decode cX10_beginRow 39 = .ok (.bastore, 1) := by decide +kernel
theorem dX10_beginRow_40 : decode cX10_beginRow 40 = .ok (.return_, 1) := by decide +kernel
theorem dX10_beginChoices_0 : decode cX10_beginChoices 0 = .ok (.aload_n 0, 1) := by decide +kernel
theorem dX10_beginChoices_1 : decode cX10_beginChoices 1 = .ok (.getfield 67, 3) := by decide +kernel
theorem dX10_beginChoices_4 : decode cX10_beginChoices 4 = .ok (.aload_n 0, 1) := by decide +kernel
theorem dX10_beginChoices_5 : decode cX10_beginChoices 5 = .ok (.getfield 134, 3) := by decide +kernel
theorem dX10_beginChoices_8 : decode cX10_beginChoices 8 = .ok (.iconst 0, 1) := by decide +kernel
theorem dX10_beginChoices_9 : decode cX10_beginChoices 9 = .ok (.bastore, 1) := by decide +kernel
theorem dX10_beginChoices_10 : decode cX10_beginChoices 10 = .ok (.aload_n 0, 1) := by decide +kernel
theorem dX10_beginChoices_11 : decode cX10_beginChoices 11 = .ok (.getfield 70, 3) := by decide +kernel
theorem dX10_beginChoices_14 : decode cX10_beginChoices 14 = .ok (.aload_n 0, 1) := by decide +kernel
theorem dX10_beginChoices_15 : decode cX10_beginChoices 15 = .ok (.getfield 134, 3) := by decide +kernel
theorem dX10_beginChoices_18 : decode cX10_beginChoices 18 = .ok (.lconst 0, 1) := by decide +kernel
theorem dX10_beginChoices_19 : decode cX10_beginChoices 19 = .ok (.lastore, 1) := by decide +kernel
theorem dX10_beginChoices_20 : decode cX10_beginChoices 20 = .ok (.aload_n 0, 1) := by decide +kernel
theorem dX10_beginChoices_21 : decode cX10_beginChoices 21 = .ok (.getfield 73, 3) := by decide +kernel
theorem dX10_beginChoices_24 : decode cX10_beginChoices 24 = .ok (.aload_n 0, 1) := by decide +kernel
theorem dX10_beginChoices_25 : decode cX10_beginChoices 25 = .ok (.getfield 134, 3) := by decide +kernel
theorem dX10_beginChoices_28 : decode cX10_beginChoices 28 = .ok (.lconst 0, 1) := by decide +kernel
theorem dX10_beginChoices_29 : decode cX10_beginChoices 29 = .ok (.lastore, 1) := by decide +kernel
theorem dX10_beginChoices_30 : decode cX10_beginChoices 30 = .ok (.aload_n 0, 1) := by decide +kernel
theorem dX10_beginChoices_31 : decode cX10_beginChoices 31 = .ok (.getfield 76, 3) := by decide +kernel
theorem dX10_beginChoices_34 : decode cX10_beginChoices 34 = .ok (.aload_n 0, 1) := by decide +kernel
theorem dX10_beginChoices_35 : decode cX10_beginChoices 35 = .ok (.getfield 134, 3) := by decide +kernel
theorem dX10_beginChoices_38 : decode cX10_beginChoices 38 = .ok (.aload_n 0, 1) := by decide +kernel
theorem dX10_beginChoices_39 : decode cX10_beginChoices 39 = .ok (.getfield 137, 3) := by decide +kernel
theorem dX10_beginChoices_42 : decode cX10_beginChoices 42 = .ok (.iastore, 1) := by decide +kernel
theorem dX10_beginChoices_43 : decode cX10_beginChoices 43 = .ok (.aload_n 0, 1) := by decide +kernel
theorem dX10_beginChoices_44 : decode cX10_beginChoices 44 = .ok (.invokevirtual 140, 3) := by decide +kernel
theorem dX10_beginChoices_47 : decode cX10_beginChoices 47 = .ok (.return_, 1) := by decide +kernel
theorem dX10_link_0 : decode cX10_link 0 = .ok (.iconst 0, 1) := by decide +kernel
theorem dX10_link_1 : decode cX10_link 1 = .ok (.istore 5, 2) := by decide +kernel
theorem dX10_link_3 : decode cX10_link 3 = .ok (.iload 5, 2) := by decide +kernel
theorem dX10_link_5 : decode cX10_link 5 = .ok (.aload_n 0, 1) := by decide +kernel
theorem dX10_link_6 : decode cX10_link 6 = .ok (.getfield 137, 3) := by decide +kernel
theorem dX10_link_9 : decode cX10_link 9 = .ok (.if_icmp .ge 40, 3) := by decide +kernel
theorem dX10_link_12 : decode cX10_link 12 = .ok (.lload_n 1, 1) := by decide +kernel
theorem dX10_link_13 : decode cX10_link 13 = .ok (.iload 5, 2) := by decide +kernel
theorem dX10_link_15 : decode cX10_link 15 = .ok (.invokestatic 143, 3) := by decide +kernel
theorem dX10_link_18 : decode cX10_link 18 = .ok (.ifCond .eq 25, 3) := by decide +kernel
theorem dX10_link_21 : decode cX10_link 21 = .ok (.aload_n 0, 1) := by decide +kernel
theorem dX10_link_22 : decode cX10_link 22 = .ok (.getfield 37, 3) := by decide +kernel
theorem dX10_link_25 : decode cX10_link 25 = .ok (.bipush 120, 2) := by decide +kernel
theorem dX10_link_27 : decode cX10_link 27 = .ok (.iload 5, 2) := by decide +kernel
theorem dX10_link_29 : decode cX10_link 29 = .ok (.iadd, 1) := by decide +kernel
theorem dX10_link_30 : decode cX10_link 30 = .ok (.aload_n 0, 1) := by decide +kernel
theorem dX10_link_31 : decode cX10_link 31 = .ok (.getfield 37, 3) := by decide +kernel
theorem dX10_link_34 : decode cX10_link 34 = .ok (.bipush 120, 2) := by decide +kernel
theorem dX10_link_36 : decode cX10_link 36 = .ok (.iload 5, 2) := by decide +kernel
theorem dX10_link_38 : decode cX10_link 38 = .ok (.iadd, 1) := by decide +kernel
theorem dX10_link_39 : decode cX10_link 39 = .ok (.laload, 1) := by decide +kernel
theorem dX10_link_40 : decode cX10_link 40 = .ok (.lload_n 3, 1) := by decide +kernel
theorem dX10_link_41 : decode cX10_link 41 = .ok (.lor, 1) := by decide +kernel
theorem dX10_link_42 : decode cX10_link 42 = .ok (.lastore, 1) := by decide +kernel
theorem dX10_link_43 : decode cX10_link 43 = .ok (.iinc 5 1, 3) := by decide +kernel
theorem dX10_link_46 : decode cX10_link 46 = .ok (.goto (-43), 3) := by decide +kernel
theorem dX10_link_49 : decode cX10_link 49 = .ok (.return_, 1) := by decide +kernel
theorem dX10_joinPart_0 : decode cX10_joinPart 0 = .ok (.aload_n 0, 1) := by decide +kernel
theorem dX10_joinPart_1 : decode cX10_joinPart 1 = .ok (.getfield 134, 3) := by decide +kernel
theorem dX10_joinPart_4 : decode cX10_joinPart 4 = .ok (.istore_n 1, 1) := by decide +kernel
theorem dX10_joinPart_5 : decode cX10_joinPart 5 = .ok (.aload_n 0, 1) := by decide +kernel
theorem dX10_joinPart_6 : decode cX10_joinPart 6 = .ok (.getfield 52, 3) := by decide +kernel
theorem dX10_joinPart_9 : decode cX10_joinPart 9 = .ok (.iload_n 1, 1) := by decide +kernel
theorem dX10_joinPart_10 : decode cX10_joinPart 10 = .ok (.baload, 1) := by decide +kernel
theorem dX10_joinPart_11 : decode cX10_joinPart 11 = .ok (.ifCond .ne 4, 3) := by decide +kernel
theorem dX10_joinPart_14 : decode cX10_joinPart 14 = .ok (.return_, 1) := by decide +kernel
theorem dX10_joinPart_15 : decode cX10_joinPart 15 = .ok (.aload_n 0, 1) := by decide +kernel
theorem dX10_joinPart_16 : decode cX10_joinPart 16 = .ok (.aload_n 0, 1) := by decide +kernel
theorem dX10_joinPart_17 : decode cX10_joinPart 17 = .ok (.getfield 49, 3) := by decide +kernel
theorem dX10_joinPart_20 : decode cX10_joinPart 20 = .ok (.iload_n 1, 1) := by decide +kernel
theorem dX10_joinPart_21 : decode cX10_joinPart 21 = .ok (.laload, 1) := by decide +kernel
theorem dX10_joinPart_22 : decode cX10_joinPart 22 = .ok (.aload_n 0, 1) := by decide +kernel
theorem dX10_joinPart_23 : decode cX10_joinPart 23 = .ok (.getfield 61, 3) := by decide +kernel
theorem dX10_joinPart_26 : decode cX10_joinPart 26 = .ok (.iload_n 1, 1) := by decide +kernel
theorem dX10_joinPart_27 : decode cX10_joinPart 27 = .ok (.laload, 1) := by decide +kernel
theorem dX10_joinPart_28 : decode cX10_joinPart 28 = .ok (.invokevirtual 147, 3) := by decide +kernel
theorem dX10_joinPart_31 : decode cX10_joinPart 31 = .ok (.aload_n 0, 1) := by decide +kernel
theorem dX10_joinPart_32 : decode cX10_joinPart 32 = .ok (.getfield 46, 3) := by decide +kernel
theorem dX10_joinPart_35 : decode cX10_joinPart 35 = .ok (.iload_n 1, 1) := by decide +kernel
theorem dX10_joinPart_36 : decode cX10_joinPart 36 = .ok (.aload_n 0, 1) := by decide +kernel
theorem dX10_joinPart_37 : decode cX10_joinPart 37 = .ok (.getfield 43, 3) := by decide +kernel
theorem dX10_joinPart_40 : decode cX10_joinPart 40 = .ok (.iload_n 1, 1) := by decide +kernel
theorem dX10_joinPart_41 : decode cX10_joinPart 41 = .ok (.baload, 1) := by decide +kernel
theorem dX10_joinPart_42 : decode cX10_joinPart 42 = .ok (.ifCond .eq 19, 3) := by decide +kernel
theorem dX10_joinPart_45 : decode cX10_joinPart 45 = .ok (.aload_n 0, 1) := by decide +kernel
theorem dX10_joinPart_46 : decode cX10_joinPart 46 = .ok (.getfield 46, 3) := by decide +kernel
theorem dX10_joinPart_49 : decode cX10_joinPart 49 = .ok (.iload_n 1, 1) := by decide +kernel
theorem dX10_joinPart_50 : decode cX10_joinPart 50 = .ok (.laload, 1) := by decide +kernel
theorem dX10_joinPart_51 : decode cX10_joinPart 51 = .ok (.aload_n 0, 1) := by decide +kernel
theorem dX10_joinPart_52 : decode cX10_joinPart 52 = .ok (.getfield 61, 3) := by decide +kernel
theorem dX10_joinPart_55 : decode cX10_joinPart 55 = .ok (.iload_n 1, 1) := by decide +kernel
theorem dX10_joinPart_56 : decode cX10_joinPart 56 = .ok (.laload, 1) := by decide +kernel
theorem dX10_joinPart_57 : decode cX10_joinPart 57 = .ok (.lor, 1) := by decide +kernel
theorem dX10_joinPart_58 : decode cX10_joinPart 58 = .ok (.goto 9, 3) := by decide +kernel
theorem dX10_joinPart_61 : decode cX10_joinPart 61 = .ok (.aload_n 0, 1) := by decide +kernel
theorem dX10_joinPart_62 : decode cX10_joinPart 62 = .ok (.getfield 46, 3) := by decide +kernel
theorem dX10_joinPart_65 : decode cX10_joinPart 65 = .ok (.iload_n 1, 1) := by decide +kernel
theorem dX10_joinPart_66 : decode cX10_joinPart 66 = .ok (.laload, 1) := by decide +kernel
theorem dX10_joinPart_67 : decode cX10_joinPart 67 = .ok (.lastore, 1) := by decide +kernel
theorem dX10_joinPart_68 : decode cX10_joinPart 68 = .ok (.aload_n 0, 1) := by decide +kernel
theorem dX10_joinPart_69 : decode cX10_joinPart 69 = .ok (.getfield 49, 3) := by decide +kernel
theorem dX10_joinPart_72 : decode cX10_joinPart 72 = .ok (.iload_n 1, 1) := by decide +kernel
theorem dX10_joinPart_73 : decode cX10_joinPart 73 = .ok (.aload_n 0, 1) := by decide +kernel
theorem dX10_joinPart_74 : decode cX10_joinPart 74 = .ok (.getfield 58, 3) := by decide +kernel
theorem dX10_joinPart_77 : decode cX10_joinPart 77 = .ok (.iload_n 1, 1) := by decide +kernel
theorem dX10_joinPart_78 : decode cX10_joinPart 78 = .ok (.baload, 1) := by decide +kernel
theorem dX10_joinPart_79 : decode cX10_joinPart 79 = .ok (.ifCond .eq 19, 3) := by decide +kernel
theorem dX10_joinPart_82 : decode cX10_joinPart 82 = .ok (.aload_n 0, 1) := by decide +kernel
theorem dX10_joinPart_83 : decode cX10_joinPart 83 = .ok (.getfield 49, 3) := by decide +kernel
theorem dX10_joinPart_86 : decode cX10_joinPart 86 = .ok (.iload_n 1, 1) := by decide +kernel
theorem dX10_joinPart_87 : decode cX10_joinPart 87 = .ok (.laload, 1) := by decide +kernel
theorem dX10_joinPart_88 : decode cX10_joinPart 88 = .ok (.aload_n 0, 1) := by decide +kernel
theorem dX10_joinPart_89 : decode cX10_joinPart 89 = .ok (.getfield 64, 3) := by decide +kernel
theorem dX10_joinPart_92 : decode cX10_joinPart 92 = .ok (.iload_n 1, 1) := by decide +kernel
theorem dX10_joinPart_93 : decode cX10_joinPart 93 = .ok (.laload, 1) := by decide +kernel
theorem dX10_joinPart_94 : decode cX10_joinPart 94 = .ok (.lor, 1) := by decide +kernel
theorem dX10_joinPart_95 : decode cX10_joinPart 95 = .ok (.goto 9, 3) := by decide +kernel
theorem dX10_joinPart_98 : decode cX10_joinPart 98 = .ok (.aload_n 0, 1) := by decide +kernel
theorem dX10_joinPart_99 : decode cX10_joinPart 99 = .ok (.getfield 64, 3) := by decide +kernel
theorem dX10_joinPart_102 : decode cX10_joinPart 102 = .ok (.iload_n 1, 1) := by decide +kernel
theorem dX10_joinPart_103 : decode cX10_joinPart 103 = .ok (.laload, 1) := by decide +kernel
theorem dX10_joinPart_104 : decode cX10_joinPart 104 = .ok (.lastore, 1) := by decide +kernel
theorem dX10_joinPart_105 : decode cX10_joinPart 105 = .ok (.aload_n 0, 1) := by decide +kernel
theorem dX10_joinPart_106 : decode cX10_joinPart 106 = .ok (.getfield 43, 3) := by decide +kernel
theorem dX10_joinPart_109 : decode cX10_joinPart 109 = .ok (.iload_n 1, 1) := by decide +kernel
theorem dX10_joinPart_110 : decode cX10_joinPart 110 = .ok (.aload_n 0, 1) := by decide +kernel
theorem dX10_joinPart_111 : decode cX10_joinPart 111 = .ok (.getfield 43, 3) := by decide +kernel
theorem dX10_joinPart_114 : decode cX10_joinPart 114 = .ok (.iload_n 1, 1) := by decide +kernel
theorem dX10_joinPart_115 : decode cX10_joinPart 115 = .ok (.baload, 1) := by decide +kernel
theorem dX10_joinPart_116 : decode cX10_joinPart 116 = .ok (.ifCond .eq 16, 3) := by decide +kernel
theorem dX10_joinPart_119 : decode cX10_joinPart 119 = .ok (.aload_n 0, 1) := by decide +kernel
theorem dX10_joinPart_120 : decode cX10_joinPart 120 = .ok (.getfield 58, 3) := by decide +kernel
theorem dX10_joinPart_123 : decode cX10_joinPart 123 = .ok (.iload_n 1, 1) := by decide +kernel
theorem dX10_joinPart_124 : decode cX10_joinPart 124 = .ok (.baload, 1) := by decide +kernel
theorem dX10_joinPart_125 : decode cX10_joinPart 125 = .ok (.ifCond .eq 7, 3) := by decide +kernel
theorem dX10_joinPart_128 : decode cX10_joinPart 128 = .ok (.iconst 1, 1) := by decide +kernel
theorem dX10_joinPart_129 : decode cX10_joinPart 129 = .ok (.goto 4, 3) := by decide +kernel
theorem dX10_joinPart_132 : decode cX10_joinPart 132 = .ok (.iconst 0, 1) := by decide +kernel
theorem dX10_joinPart_133 : decode cX10_joinPart 133 = .ok (.bastore, 1) := by decide +kernel
theorem dX10_joinPart_134 : decode cX10_joinPart 134 = .ok (.aload_n 0, 1) := by decide +kernel
theorem dX10_joinPart_135 : decode cX10_joinPart 135 = .ok (.getfield 52, 3) := by decide +kernel
theorem dX10_joinPart_138 : decode cX10_joinPart 138 = .ok (.iload_n 1, 1) := by decide +kernel
theorem dX10_joinPart_139 : decode cX10_joinPart 139 = .ok (.iconst 0, 1) := by decide +kernel
theorem dX10_joinPart_140 : decode cX10_joinPart 140 = .ok (.bastore, 1) := by decide +kernel
theorem dX10_joinPart_141 : decode cX10_joinPart 141 = .ok (.return_, 1) := by decide +kernel
theorem dX10_endRow_0 : decode cX10_endRow 0 = .ok (.aload_n 0, 1) := by decide +kernel
theorem dX10_endRow_1 : decode cX10_endRow 1 = .ok (.invokevirtual 151, 3) := by decide +kernel
theorem dX10_endRow_4 : decode cX10_endRow 4 = .ok (.aload_n 0, 1) := by decide +kernel
theorem dX10_endRow_5 : decode cX10_endRow 5 = .ok (.getfield 67, 3) := by decide +kernel
theorem dX10_endRow_8 : decode cX10_endRow 8 = .ok (.aload_n 0, 1) := by decide +kernel
theorem dX10_endRow_9 : decode cX10_endRow 9 = .ok (.getfield 134, 3) := by decide +kernel
theorem dX10_endRow_12 : decode cX10_endRow 12 = .ok (.aload_n 0, 1) := by decide +kernel
theorem dX10_endRow_13 : decode cX10_endRow 13 = .ok (.getfield 67, 3) := by decide +kernel
theorem dX10_endRow_16 : decode cX10_endRow 16 = .ok (.aload_n 0, 1) := by decide +kernel
theorem dX10_endRow_17 : decode cX10_endRow 17 = .ok (.getfield 134, 3) := by decide +kernel
theorem dX10_endRow_20 : decode cX10_endRow 20 = .ok (.baload, 1) := by decide +kernel
theorem dX10_endRow_21 : decode cX10_endRow 21 = .ok (.ifCond .ne 15, 3) := by decide +kernel
theorem dX10_endRow_24 : decode cX10_endRow 24 = .ok (.aload_n 0, 1) := by decide +kernel
theorem dX10_endRow_25 : decode cX10_endRow 25 = .ok (.getfield 43, 3) := by decide +kernel
theorem dX10_endRow_28 : decode cX10_endRow 28 = .ok (.aload_n 0, 1) := by decide +kernel
theorem dX10_endRow_29 : decode cX10_endRow 29 = .ok (.getfield 134, 3) := by decide +kernel
theorem dX10_endRow_32 : decode cX10_endRow 32 = .ok (.baload, 1) := by decide +kernel
theorem dX10_endRow_33 : decode cX10_endRow 33 = .ok (.ifCond .eq 7, 3) := by decide +kernel
theorem dX10_endRow_36 : decode cX10_endRow 36 = .ok (.iconst 1, 1) := by decide +kernel
theorem dX10_endRow_37 : decode cX10_endRow 37 = .ok (.goto 4, 3) := by decide +kernel
theorem dX10_endRow_40 : decode cX10_endRow 40 = .ok (.iconst 0, 1) := by decide +kernel
theorem dX10_endRow_41 : decode cX10_endRow 41 = .ok (.bastore, 1) := by decide +kernel
theorem dX10_endRow_42 : decode cX10_endRow 42 = .ok (.aload_n 0, 1) := by decide +kernel
theorem dX10_endRow_43 : decode cX10_endRow 43 = .ok (.getfield 70, 3) := by decide +kernel
theorem dX10_endRow_46 : decode cX10_endRow 46 = .ok (.aload_n 0, 1) := by decide +kernel
theorem dX10_endRow_47 : decode cX10_endRow 47 = .ok (.getfield 134, 3) := by decide +kernel
theorem dX10_endRow_50 : decode cX10_endRow 50 = .ok (.aload_n 0, 1) := by decide +kernel
theorem dX10_endRow_51 : decode cX10_endRow 51 = .ok (.getfield 70, 3) := by decide +kernel
theorem dX10_endRow_54 : decode cX10_endRow 54 = .ok (.aload_n 0, 1) := by decide +kernel
theorem dX10_endRow_55 : decode cX10_endRow 55 = .ok (.getfield 134, 3) := by decide +kernel
theorem dX10_endRow_58 : decode cX10_endRow 58 = .ok (.laload, 1) := by decide +kernel
theorem dX10_endRow_59 : decode cX10_endRow 59 = .ok (.aload_n 0, 1) := by decide +kernel
theorem dX10_endRow_60 : decode cX10_endRow 60 = .ok (.getfield 46, 3) := by decide +kernel
theorem dX10_endRow_63 : decode cX10_endRow 63 = .ok (.aload_n 0, 1) := by decide +kernel
theorem dX10_endRow_64 : decode cX10_endRow 64 = .ok (.getfield 134, 3) := by decide +kernel
theorem dX10_endRow_67 : decode cX10_endRow 67 = .ok (.laload, 1) := by decide +kernel
theorem dX10_endRow_68 : decode cX10_endRow 68 = .ok (.lor, 1) := by decide +kernel
theorem dX10_endRow_69 : decode cX10_endRow 69 = .ok (.lastore, 1) := by decide +kernel
theorem dX10_endRow_70 : decode cX10_endRow 70 = .ok (.aload_n 0, 1) := by decide +kernel
theorem dX10_endRow_71 : decode cX10_endRow 71 = .ok (.getfield 73, 3) := by decide +kernel
theorem dX10_endRow_74 : decode cX10_endRow 74 = .ok (.aload_n 0, 1) := by decide +kernel
theorem dX10_endRow_75 : decode cX10_endRow 75 = .ok (.getfield 134, 3) := by decide +kernel
theorem dX10_endRow_78 : decode cX10_endRow 78 = .ok (.aload_n 0, 1) := by decide +kernel
theorem dX10_endRow_79 : decode cX10_endRow 79 = .ok (.getfield 73, 3) := by decide +kernel
theorem dX10_endRow_82 : decode cX10_endRow 82 = .ok (.aload_n 0, 1) := by decide +kernel
theorem dX10_endRow_83 : decode cX10_endRow 83 = .ok (.getfield 134, 3) := by decide +kernel
theorem dX10_endRow_86 : decode cX10_endRow 86 = .ok (.laload, 1) := by decide +kernel
theorem dX10_endRow_87 : decode cX10_endRow 87 = .ok (.aload_n 0, 1) := by decide +kernel
theorem dX10_endRow_88 : decode cX10_endRow 88 = .ok (.getfield 49, 3) := by decide +kernel
theorem dX10_endRow_91 : decode cX10_endRow 91 = .ok (.aload_n 0, 1) := by decide +kernel
theorem dX10_endRow_92 : decode cX10_endRow 92 = .ok (.getfield 134, 3) := by decide +kernel
theorem dX10_endRow_95 : decode cX10_endRow 95 = .ok (.laload, 1) := by decide +kernel
theorem dX10_endRow_96 : decode cX10_endRow 96 = .ok (.lor, 1) := by decide +kernel
theorem dX10_endRow_97 : decode cX10_endRow 97 = .ok (.lastore, 1) := by decide +kernel
theorem dX10_endRow_98 : decode cX10_endRow 98 = .ok (.return_, 1) := by decide +kernel
theorem dX10_setPart_0 : decode cX10_setPart 0 = .ok (.aload_n 0, 1) := by decide +kernel
theorem dX10_setPart_1 : decode cX10_setPart 1 = .ok (.getfield 52, 3) := by decide +kernel
theorem dX10_setPart_4 : decode cX10_setPart 4 = .ok (.aload_n 0, 1) := by decide +kernel
theorem dX10_setPart_5 : decode cX10_setPart 5 = .ok (.getfield 134, 3) := by decide +kernel
theorem dX10_setPart_8 : decode cX10_setPart 8 = .ok (.iconst 1, 1) := by decide +kernel
theorem dX10_setPart_9 : decode cX10_setPart 9 = .ok (.bastore, 1) := by decide +kernel
theorem dX10_setPart_10 : decode cX10_setPart 10 = .ok (.aload_n 0, 1) := by decide +kernel
theorem dX10_setPart_11 : decode cX10_setPart 11 = .ok (.getfield 55, 3) := by decide +kernel
theorem dX10_setPart_14 : decode cX10_setPart 14 = .ok (.aload_n 0, 1) := by decide +kernel
theorem dX10_setPart_15 : decode cX10_setPart 15 = .ok (.getfield 134, 3) := by decide +kernel
theorem dX10_setPart_18 : decode cX10_setPart 18 = .ok (.iload_n 1, 1) := by decide +kernel
theorem dX10_setPart_19 : decode cX10_setPart 19 = .ok (.iastore, 1) := by decide +kernel
theorem dX10_setPart_20 : decode cX10_setPart 20 = .ok (.aload_n 0, 1) := by decide +kernel
theorem dX10_setPart_21 : decode cX10_setPart 21 = .ok (.getfield 58, 3) := by decide +kernel
theorem dX10_setPart_24 : decode cX10_setPart 24 = .ok (.aload_n 0, 1) := by decide +kernel
theorem dX10_setPart_25 : decode cX10_setPart 25 = .ok (.getfield 134, 3) := by decide +kernel
theorem dX10_setPart_28 : decode cX10_setPart 28 = .ok (.iload_n 2, 1) := by decide +kernel
theorem dX10_setPart_29 : decode cX10_setPart 29 = .ok (.bastore, 1) := by decide +kernel
theorem dX10_setPart_30 : decode cX10_setPart 30 = .ok (.aload_n 0, 1) := by decide +kernel
theorem dX10_setPart_31 : decode cX10_setPart 31 = .ok (.getfield 61, 3) := by decide +kernel
theorem dX10_setPart_34 : decode cX10_setPart 34 = .ok (.aload_n 0, 1) := by decide +kernel
theorem dX10_setPart_35 : decode cX10_setPart 35 = .ok (.getfield 134, 3) := by decide +kernel
theorem dX10_setPart_38 : decode cX10_setPart 38 = .ok (.lload_n 3, 1) := by decide +kernel
theorem dX10_setPart_39 : decode cX10_setPart 39 = .ok (.lastore, 1) := by decide +kernel
theorem dX10_setPart_40 : decode cX10_setPart 40 = .ok (.aload_n 0, 1) := by decide +kernel
theorem dX10_setPart_41 : decode cX10_setPart 41 = .ok (.getfield 64, 3) := by decide +kernel
theorem dX10_setPart_44 : decode cX10_setPart 44 = .ok (.aload_n 0, 1) := by decide +kernel
theorem dX10_setPart_45 : decode cX10_setPart 45 = .ok (.getfield 134, 3) := by decide +kernel
theorem dX10_setPart_48 : decode cX10_setPart 48 = .ok (.lload 5, 2) := by decide +kernel
theorem dX10_setPart_50 : decode cX10_setPart 50 = .ok (.lastore, 1) := by decide +kernel
theorem dX10_setPart_51 : decode cX10_setPart 51 = .ok (.return_, 1) := by decide +kernel
theorem dX10_atom_0 : decode cX10_atom 0 = .ok (.aload_n 0, 1) := by decide +kernel
theorem dX10_atom_1 : decode cX10_atom 1 = .ok (.getfield 137, 3) := by decide +kernel
theorem dX10_atom_4 : decode cX10_atom 4 = .ok (.bipush 60, 2) := by decide +kernel
theorem dX10_atom_6 : decode cX10_atom 6 = .ok (.if_icmp .ne 10, 3) := by decide +kernel
theorem dX10_atom_9 : decode cX10_atom 9 = .ok (.aload_n 0, 1) := by decide +kernel
theorem dX10_atom_10 : decode cX10_atom 10 = .ok (.iconst 4, 1) := by decide +kernel
theorem dX10_atom_11 : decode cX10_atom 11 = .ok (.iload_n 3, 1) := by decide +kernel
theorem dX10_atom_12 : decode cX10_atom 12 = .ok (.invokevirtual 130, 3) := by decide +kernel
theorem dX10_atom_15 : decode cX10_atom 15 = .ok (.return_, 1) := by decide +kernel
theorem dX10_atom_16 : decode cX10_atom 16 = .ok (.aload_n 0, 1) := by decide +kernel
theorem dX10_atom_17 : decode cX10_atom 17 = .ok (.invokevirtual 151, 3) := by decide +kernel
theorem dX10_atom_20 : decode cX10_atom 20 = .ok (.aload_n 0, 1) := by decide +kernel
theorem dX10_atom_21 : decode cX10_atom 21 = .ok (.getfield 40, 3) := by decide +kernel
theorem dX10_atom_24 : decode cX10_atom 24 = .ok (.bipush 120, 2) := by decide +kernel
theorem dX10_atom_26 : decode cX10_atom 26 = .ok (.aload_n 0, 1) := by decide +kernel
theorem dX10_atom_27 : decode cX10_atom 27 = .ok (.getfield 137, 3) := by decide +kernel
theorem dX10_atom_30 : decode cX10_atom 30 = .ok (.iadd, 1) := by decide +kernel
theorem dX10_atom_31 : decode cX10_atom 31 = .ok (.lload_n 1, 1) := by decide +kernel
theorem dX10_atom_32 : decode cX10_atom 32 = .ok (.lastore, 1) := by decide +kernel
theorem dX10_atom_33 : decode cX10_atom 33 = .ok (.aload_n 0, 1) := by decide +kernel
theorem dX10_atom_34 : decode cX10_atom 34 = .ok (.getfield 37, 3) := by decide +kernel
theorem dX10_atom_37 : decode cX10_atom 37 = .ok (.bipush 120, 2) := by decide +kernel
theorem dX10_atom_39 : decode cX10_atom 39 = .ok (.aload_n 0, 1) := by decide +kernel
theorem dX10_atom_40 : decode cX10_atom 40 = .ok (.getfield 137, 3) := by decide +kernel
theorem dX10_atom_43 : decode cX10_atom 43 = .ok (.iadd, 1) := by decide +kernel
theorem dX10_atom_44 : decode cX10_atom 44 = .ok (.lconst 0, 1) := by decide +kernel
theorem dX10_atom_45 : decode cX10_atom 45 = .ok (.lastore, 1) := by decide +kernel
theorem dX10_atom_46 : decode cX10_atom 46 = .ok (.aload_n 0, 1) := by decide +kernel
theorem dX10_atom_47 : decode cX10_atom 47 = .ok (.dup, 1) := by decide +kernel
theorem dX10_atom_48 : decode cX10_atom 48 = .ok (.getfield 137, 3) := by decide +kernel
theorem dX10_atom_51 : decode cX10_atom 51 = .ok (.iconst 1, 1) := by decide +kernel
theorem dX10_atom_52 : decode cX10_atom 52 = .ok (.iadd, 1) := by decide +kernel
theorem dX10_atom_53 : decode cX10_atom 53 = .ok (.putfield 137, 3) := by decide +kernel
theorem dX10_atom_56 : decode cX10_atom 56 = .ok (.aload_n 0, 1) := by decide +kernel
theorem dX10_atom_57 : decode cX10_atom 57 = .ok (.aload_n 0, 1) := by decide +kernel
theorem dX10_atom_58 : decode cX10_atom 58 = .ok (.getfield 137, 3) := by decide +kernel
theorem dX10_atom_61 : decode cX10_atom 61 = .ok (.iconst 1, 1) := by decide +kernel
theorem dX10_atom_62 : decode cX10_atom 62 = .ok (.isub, 1) := by decide +kernel
theorem dX10_atom_63 : decode cX10_atom 63 = .ok (.iconst 0, 1) := by decide +kernel
theorem dX10_atom_64 : decode cX10_atom 64 = .ok (.lconst 1, 1) := by decide +kernel
theorem dX10_atom_65 : decode cX10_atom 65 = .ok (.aload_n 0, 1) := by decide +kernel
theorem dX10_atom_66 : decode cX10_atom 66 = .ok (.getfield 137, 3) := by decide +kernel
theorem dX10_atom_69 : decode cX10_atom 69 = .ok (.iconst 1, 1) := by decide +kernel
theorem dX10_atom_70 : decode cX10_atom 70 = .ok (.isub, 1) := by decide +kernel
theorem dX10_atom_71 : decode cX10_atom 71 = .ok (.lshl, 1) := by decide +kernel
theorem dX10_atom_72 : decode cX10_atom 72 = .ok (.lconst 1, 1) := by decide +kernel
theorem dX10_atom_73 : decode cX10_atom 73 = .ok (.aload_n 0, 1) := by decide +kernel
theorem dX10_atom_74 : decode cX10_atom 74 = .ok (.getfield 137, 3) := by decide +kernel
theorem dX10_atom_77 : decode cX10_atom 77 = .ok (.iconst 1, 1) := by decide +kernel
theorem dX10_atom_78 : decode cX10_atom 78 = .ok (.isub, 1) := by decide +kernel
theorem dX10_atom_79 : decode cX10_atom 79 = .ok (.lshl, 1) := by decide +kernel
theorem dX10_atom_80 : decode cX10_atom 80 = .ok (.invokevirtual 154, 3) := by decide +kernel
theorem dX10_atom_83 : decode cX10_atom 83 = .ok (.return_, 1) := by decide +kernel
theorem dX10_upTo_0 : decode cX10_upTo 0 = .ok (.lconst 0, 1) := by decide +kernel
theorem dX10_upTo_1 : decode cX10_upTo 1 = .ok (.lstore_n 2, 1) := by decide +kernel
theorem dX10_upTo_2 : decode cX10_upTo 2 = .ok (.iload_n 0, 1) := by decide +kernel
theorem dX10_upTo_3 : decode cX10_upTo 3 = .ok (.istore 4, 2) := by decide +kernel
theorem dX10_upTo_5 : decode cX10_upTo 5 = .ok (.iload 4, 2) := by decide +kernel
theorem dX10_upTo_7 : decode cX10_upTo 7 = .ok (.iload_n 1, 1) := by decide +kernel
theorem dX10_upTo_8 : decode cX10_upTo 8 = .ok (.if_icmp .gt 16, 3) := by decide +kernel
theorem dX10_upTo_11 : decode cX10_upTo 11 = .ok (.lload_n 2, 1) := by decide +kernel
theorem dX10_upTo_12 : decode cX10_upTo 12 = .ok (.lconst 1, 1) := by decide +kernel
theorem dX10_upTo_13 : decode cX10_upTo 13 = .ok (.iload 4, 2) := by decide +kernel
theorem dX10_upTo_15 : decode cX10_upTo 15 = .ok (.lshl, 1) := by decide +kernel
theorem dX10_upTo_16 : decode cX10_upTo 16 = .ok (.lor, 1) := by decide +kernel
theorem dX10_upTo_17 : decode cX10_upTo 17 = .ok (.lstore_n 2, 1) := by decide +kernel
theorem dX10_upTo_18 : decode cX10_upTo 18 = .ok (.iinc 4 1, 3) := by decide +kernel
theorem dX10_upTo_21 : decode cX10_upTo 21 = .ok (.goto (-16), 3) := by decide +kernel
theorem dX10_upTo_24 : decode cX10_upTo 24 = .ok (.lload_n 2, 1) := by decide +kernel
theorem dX10_upTo_25 : decode cX10_upTo 25 = .ok (.lreturn, 1) := by decide +kernel
theorem dX10_readSet_0 : decode cX10_readSet 0 = .ok (.aload_n 0, 1) := by decide +kernel
theorem dX10_readSet_1 : decode cX10_readSet 1 = .ok (.getfield 127, 3) := by decide +kernel
theorem dX10_readSet_4 : decode cX10_readSet 4 = .ok (.iconst 1, 1) := by decide +kernel
theorem dX10_readSet_5 : decode cX10_readSet 5 = .ok (.isub, 1) := by decide +kernel
theorem dX10_readSet_6 : decode cX10_readSet 6 = .ok (.istore_n 1, 1) := by decide +kernel
theorem dX10_readSet_7 : decode cX10_readSet 7 = .ok (.aload_n 0, 1) := by decide +kernel
theorem dX10_readSet_8 : decode cX10_readSet 8 = .ok (.invokevirtual 158, 3) := by decide +kernel
theorem dX10_readSet_11 : decode cX10_readSet 11 = .ok (.bipush 94, 2) := by decide +kernel
theorem dX10_readSet_13 : decode cX10_readSet 13 = .ok (.if_icmp .ne 7, 3) := by decide +kernel
theorem dX10_readSet_16 : decode cX10_readSet 16 = .ok (.iconst 1, 1) := by decide +kernel
theorem dX10_readSet_17 : decode cX10_readSet 17 = .ok (.goto 4, 3) := by decide +kernel
theorem dX10_readSet_20 : decode cX10_readSet 20 = .ok (.iconst 0, 1) := by decide +kernel
theorem dX10_readSet_21 : decode cX10_readSet 21 = .ok (.istore_n 2, 1) := by decide +kernel
theorem dX10_readSet_22 : decode cX10_readSet 22 = .ok (.aload_n 0, 1) := by decide +kernel
theorem dX10_readSet_23 : decode cX10_readSet 23 = .ok (.iload_n 2, 1) := by decide +kernel
theorem dX10_readSet_24 : decode cX10_readSet 24 = .ok (.ifCond .eq 12, 3) := by decide +kernel
theorem dX10_readSet_27 : decode cX10_readSet 27 = .ok (.aload_n 0, 1) := by decide +kernel
theorem dX10_readSet_28 : decode cX10_readSet 28 = .ok (.getfield 127, 3) := by decide +kernel
theorem dX10_readSet_31 : decode cX10_readSet 31 = .ok (.iconst 1, 1) := by decide +kernel
theorem dX10_readSet_32 : decode cX10_readSet 32 = .ok (.iadd, 1) := by decide +kernel
theorem dX10_readSet_33 : decode cX10_readSet 33 = .ok (.goto 7, 3) := by decide +kernel
theorem dX10_readSet_36 : decode cX10_readSet 36 = .ok (.aload_n 0, 1) := by decide +kernel
theorem dX10_readSet_37 : decode cX10_readSet 37 = .ok (.getfield 127, 3) := by decide +kernel
theorem dX10_readSet_40 : decode cX10_readSet 40 = .ok (.putfield 127, 3) := by decide +kernel
theorem dX10_readSet_43 : decode cX10_readSet 43 = .ok (.lconst 0, 1) := by decide +kernel
theorem dX10_readSet_44 : decode cX10_readSet 44 = .ok (.lstore_n 3, 1) := by decide +kernel
theorem dX10_readSet_45 : decode cX10_readSet 45 = .ok (.iconst 0, 1) := by decide +kernel
theorem dX10_readSet_46 : decode cX10_readSet 46 = .ok (.istore 5, 2) := by decide +kernel
theorem dX10_readSet_48 : decode cX10_readSet 48 = .ok (.iconst 1, 1) := by decide +kernel
theorem dX10_readSet_49 : decode cX10_readSet 49 = .ok (.istore 6, 2) := by decide +kernel
theorem dX10_readSet_51 : decode cX10_readSet 51 = .ok (.iload 6, 2) := by decide +kernel
theorem dX10_readSet_53 : decode cX10_readSet 53 = .ok (.ifCond .eq 173, 3) := by decide +kernel
theorem dX10_readSet_56 : decode cX10_readSet 56 = .ok (.aload_n 0, 1) := by decide +kernel
theorem dX10_readSet_57 : decode cX10_readSet 57 = .ok (.getfield 124, 3) := by decide +kernel
theorem dX10_readSet_60 : decode cX10_readSet 60 = .ok (.ifCond .ne 166, 3) := by decide +kernel
theorem dX10_readSet_63 : decode cX10_readSet 63 = .ok (.aload_n 0, 1) := by decide +kernel
theorem dX10_readSet_64 : decode cX10_readSet 64 = .ok (.invokevirtual 158, 3) := by decide +kernel
theorem dX10_readSet_67 : decode cX10_readSet 67 = .ok (.invokestatic 162, 3) := by decide +kernel
theorem dX10_readSet_70 : decode cX10_readSet 70 = .ok (.istore 7, 2) := by decide +kernel
theorem dX10_readSet_72 : decode cX10_readSet 72 = .ok (.iload 7, 2) := by decide +kernel
theorem dX10_readSet_74 : decode cX10_readSet 74 = .ok (.ifCond .lt 115, 3) := by decide +kernel
theorem dX10_readSet_77 : decode cX10_readSet 77 = .ok (.aload_n 0, 1) := by decide +kernel
theorem dX10_readSet_78 : decode cX10_readSet 78 = .ok (.getfield 127, 3) := by decide +kernel
theorem dX10_readSet_81 : decode cX10_readSet 81 = .ok (.istore 8, 2) := by decide +kernel
theorem dX10_readSet_83 : decode cX10_readSet 83 = .ok (.aload_n 0, 1) := by decide +kernel
theorem dX10_readSet_84 : decode cX10_readSet 84 = .ok (.dup, 1) := by decide +kernel
theorem dX10_readSet_85 : decode cX10_readSet 85 = .ok (.getfield 127, 3) := by decide +kernel
theorem dX10_readSet_88 : decode cX10_readSet 88 = .ok (.iconst 1, 1) := by decide +kernel
theorem dX10_readSet_89 : decode cX10_readSet 89 = .ok (.iadd, 1) := by decide +kernel
theorem dX10_readSet_90 : decode cX10_readSet 90 = .ok (.putfield 127, 3) := by decide +kernel
theorem dX10_readSet_93 : decode cX10_readSet 93 = .ok (.iload 7, 2) := by decide +kernel
theorem dX10_readSet_95 : decode cX10_readSet 95 = .ok (.istore 9, 2) := by decide +kernel
theorem dX10_readSet_97 : decode cX10_readSet 97 = .ok (.aload_n 0, 1) := by decide +kernel
theorem dX10_readSet_98 : decode cX10_readSet 98 = .ok (.invokevirtual 158, 3) := by decide +kernel
theorem dX10_readSet_101 : decode cX10_readSet 101 = .ok (.bipush 45, 2) := by decide +kernel
theorem dX10_readSet_103 : decode cX10_readSet 103 = .ok (.if_icmp .ne 59, 3) := by decide +kernel
theorem dX10_readSet_106 : decode cX10_readSet 106 = .ok (.aload_n 0, 1) := by decide +kernel
theorem dX10_readSet_107 : decode cX10_readSet 107 = .ok (.dup, 1) := by decide +kernel
theorem dX10_readSet_108 : decode cX10_readSet 108 = .ok (.getfield 127, 3) := by decide +kernel
theorem dX10_readSet_111 : decode cX10_readSet 111 = .ok (.iconst 1, 1) := by decide +kernel
theorem dX10_readSet_112 : decode cX10_readSet 112 = .ok (.iadd, 1) := by decide +kernel
theorem dX10_readSet_113 : decode cX10_readSet 113 = .ok (.putfield 127, 3) := by decide +kernel
theorem dX10_readSet_116 : decode cX10_readSet 116 = .ok (.aload_n 0, 1) := by decide +kernel
theorem dX10_readSet_117 : decode cX10_readSet 117 = .ok (.invokevirtual 158, 3) := by decide +kernel
theorem dX10_readSet_120 : decode cX10_readSet 120 = .ok (.invokestatic 162, 3) := by decide +kernel
theorem dX10_readSet_123 : decode cX10_readSet 123 = .ok (.istore 9, 2) := by decide +kernel
theorem dX10_readSet_125 : decode cX10_readSet 125 = .ok (.iload 9, 2) := by decide +kernel
theorem dX10_readSet_127 : decode cX10_readSet 127 = .ok (.ifCond .ge 10, 3) := by decide +kernel
theorem dX10_readSet_130 : decode cX10_readSet 130 = .ok (.aload_n 0, 1) := by decide +kernel
theorem dX10_readSet_131 : decode cX10_readSet 131 = .ok (.invokevirtual 166, 3) := by decide +kernel
theorem dX10_readSet_134 : decode cX10_readSet 134 = .ok (.goto 18, 3) := by decide +kernel
theorem dX10_readSet_137 : decode cX10_readSet 137 = .ok (.iload 9, 2) := by decide +kernel
theorem dX10_readSet_139 : decode cX10_readSet 139 = .ok (.iload 7, 2) := by decide +kernel
theorem dX10_readSet_141 : decode cX10_readSet 141 = .ok (.if_icmp .ge 11, 3) := by decide +kernel
theorem dX10_readSet_144 : decode cX10_readSet 144 = .ok (.aload_n 0, 1) := by decide +kernel
theorem dX10_readSet_145 : decode cX10_readSet 145 = .ok (.bipush 6, 2) := by decide +kernel
theorem dX10_readSet_147 : decode cX10_readSet 147 = .ok (.iload 8, 2) := by decide +kernel
theorem dX10_readSet_149 : decode cX10_readSet 149 = .ok (.invokevirtual 130, 3) := by decide +kernel
theorem dX10_readSet_152 : decode cX10_readSet 152 = .ok (.aload_n 0, 1) := by decide +kernel
theorem dX10_readSet_153 : decode cX10_readSet 153 = .ok (.dup, 1) := by decide +kernel
theorem dX10_readSet_154 : decode cX10_readSet 154 = .ok (.getfield 127, 3) := by decide +kernel
theorem dX10_readSet_157 : decode cX10_readSet 157 = .ok (.iconst 1, 1) := by decide +kernel
theorem dX10_readSet_158 : decode cX10_readSet 158 = .ok (.iadd, 1) := by decide +kernel
theorem dX10_readSet_159 : decode cX10_readSet 159 = .ok (.putfield 127, 3) := by decide +kernel
theorem dX10_readSet_162 : decode cX10_readSet 162 = .ok (.aload_n 0, 1) := by decide +kernel
theorem dX10_readSet_163 : decode cX10_readSet 163 = .ok (.getfield 124, 3) := by decide +kernel
theorem dX10_readSet_166 : decode cX10_readSet 166 = .ok (.ifCond .ne 15, 3) := by decide +kernel
theorem dX10_readSet_169 : decode cX10_readSet 169 = .ok (.lload_n 3, 1) := by decide +kernel
theorem dX10_readSet_170 : decode cX10_readSet 170 = .ok (.iload 7, 2) := by decide +kernel
theorem dX10_readSet_172 : decode cX10_readSet 172 = .ok (.iload 9, 2) := by decide +kernel
theorem dX10_readSet_174 : decode cX10_readSet 174 = .ok (.invokestatic 169, 3) := by decide +kernel
theorem dX10_readSet_177 : decode cX10_readSet 177 = .ok (.lor, 1) := by decide +kernel
theorem dX10_readSet_178 : decode cX10_readSet 178 = .ok (.goto 4, 3) := by decide +kernel
theorem dX10_readSet_181 : decode cX10_readSet 181 = .ok (.lload_n 3, 1) := by decide +kernel
theorem dX10_readSet_182 : decode cX10_readSet 182 = .ok (.lstore_n 3, 1) := by decide +kernel
theorem dX10_readSet_183 : decode cX10_readSet 183 = .ok (.iconst 1, 1) := by decide +kernel
theorem dX10_readSet_184 : decode cX10_readSet 184 = .ok (.istore 5, 2) := by decide +kernel
theorem dX10_readSet_186 : decode cX10_readSet 186 = .ok (.goto 37, 3) := by decide +kernel
theorem dX10_readSet_189 : decode cX10_readSet 189 = .ok (.aload_n 0, 1) := by decide +kernel
theorem dX10_readSet_190 : decode cX10_readSet 190 = .ok (.invokevirtual 158, 3) := by decide +kernel
theorem dX10_readSet_193 : decode cX10_readSet 193 = .ok (.bipush 93, 2) := by decide +kernel
theorem dX10_readSet_195 : decode cX10_readSet 195 = .ok (.if_icmp .ne 24, 3) := by decide +kernel
theorem dX10_readSet_198 : decode cX10_readSet 198 = .ok (.iload 5, 2) := by decide +kernel
theorem dX10_readSet_200 : decode cX10_readSet 200 = .ok (.ifCond .eq 19, 3) := by decide +kernel
theorem dX10_readSet_203 : decode cX10_readSet 203 = .ok (.aload_n 0, 1) := by decide +kernel
theorem dX10_readSet_204 : decode cX10_readSet 204 = .ok (.dup, 1) := by decide +kernel
theorem dX10_readSet_205 : decode cX10_readSet 205 = .ok (.getfield 127, 3) := by decide +kernel
theorem dX10_readSet_208 : decode cX10_readSet 208 = .ok (.iconst 1, 1) := by decide +kernel
theorem dX10_readSet_209 : decode cX10_readSet 209 = .ok (.iadd, 1) := by decide +kernel
theorem dX10_readSet_210 : decode cX10_readSet 210 = .ok (.putfield 127, 3) := by decide +kernel
theorem dX10_readSet_213 : decode cX10_readSet 213 = .ok (.iconst 0, 1) := by decide +kernel
theorem dX10_readSet_214 : decode cX10_readSet 214 = .ok (.istore 6, 2) := by decide +kernel
theorem dX10_readSet_216 : decode cX10_readSet 216 = .ok (.goto 7, 3) := by decide +kernel
theorem dX10_readSet_219 : decode cX10_readSet 219 = .ok (.aload_n 0, 1) := by decide +kernel
theorem dX10_readSet_220 : decode cX10_readSet 220 = .ok (.invokevirtual 166, 3) := by decide +kernel
theorem dX10_readSet_223 : decode cX10_readSet 223 = .ok (.goto (-172), 3) := by decide +kernel
theorem dX10_readSet_226 : decode cX10_readSet 226 = .ok (.aload_n 0, 1) := by decide +kernel
theorem dX10_readSet_227 : decode cX10_readSet 227 = .ok (.getfield 124, 3) := by decide +kernel
theorem dX10_readSet_230 : decode cX10_readSet 230 = .ok (.ifCond .ne 28, 3) := by decide +kernel
theorem dX10_readSet_233 : decode cX10_readSet 233 = .ok (.aload_n 0, 1) := by decide +kernel
theorem dX10_readSet_234 : decode cX10_readSet 234 = .ok (.iload_n 2, 1) := by decide +kernel
theorem dX10_readSet_235 : decode cX10_readSet 235 = .ok (.ifCond .eq 18, 3) := by decide +kernel
theorem dX10_readSet_238 : decode cX10_readSet 238 = .ok (.iconst 0, 1) := by decide +kernel
theorem dX10_readSet_239 : decode cX10_readSet 239 = .ok (.bipush 35, 2) := by decide +kernel
theorem dX10_readSet_241 : decode cX10_readSet 241 = .ok (.invokestatic 169, 3) := by decide +kernel
theorem dX10_readSet_244 : decode cX10_readSet 244 = .ok (.lload_n 3, 1) := by decide +kernel
theorem dX10_readSet_245 : decode cX10_readSet 245 = .ok (.ldc2_w 173, 3) := by decide +kernel
theorem dX10_readSet_248 : decode cX10_readSet 248 = .ok (.lxor, 1) := by decide +kernel
theorem dX10_readSet_249 : decode cX10_readSet 249 = .ok (.land, 1) := by decide +kernel
theorem dX10_readSet_250 : decode cX10_readSet 250 = .ok (.goto 4, 3) := by decide +kernel
theorem dX10_readSet_253 : decode cX10_readSet 253 = .ok (.lload_n 3, 1) := by decide +kernel
theorem dX10_readSet_254 : decode cX10_readSet 254 = .ok (.iload_n 1, 1) := by decide +kernel
theorem dX10_readSet_255 : decode cX10_readSet 255 = .ok (.invokevirtual 175, 3) := by decide +kernel
theorem dX10_readSet_258 : decode cX10_readSet 258 = .ok (.return_, 1) := by decide +kernel
theorem dX10_digit_0 : decode cX10_digit 0 = .ok (.aload_n 0, 1) := by decide +kernel
theorem dX10_digit_1 : decode cX10_digit 1 = .ok (.invokevirtual 158, 3) := by decide +kernel
theorem dX10_digit_4 : decode cX10_digit 4 = .ok (.istore_n 1, 1) := by decide +kernel
theorem dX10_digit_5 : decode cX10_digit 5 = .ok (.iload_n 1, 1) := by decide +kernel
theorem dX10_digit_6 : decode cX10_digit 6 = .ok (.bipush 48, 2) := by decide +kernel
theorem dX10_digit_8 : decode cX10_digit 8 = .ok (.if_icmp .lt 9, 3) := by decide +kernel
theorem dX10_digit_11 : decode cX10_digit 11 = .ok (.iload_n 1, 1) := by decide +kernel
theorem dX10_digit_12 : decode cX10_digit 12 = .ok (.bipush 57, 2) := by decide +kernel
theorem dX10_digit_14 : decode cX10_digit 14 = .ok (.if_icmp .le 7, 3) := by decide +kernel
theorem dX10_digit_17 : decode cX10_digit 17 = .ok (.aload_n 0, 1) := by decide +kernel
theorem dX10_digit_18 : decode cX10_digit 18 = .ok (.invokevirtual 166, 3) := by decide +kernel
theorem dX10_digit_21 : decode cX10_digit 21 = .ok (.aload_n 0, 1) := by decide +kernel
theorem dX10_digit_22 : decode cX10_digit 22 = .ok (.dup, 1) := by decide +kernel
theorem dX10_digit_23 : decode cX10_digit 23 = .ok (.getfield 127, 3) := by decide +kernel
theorem dX10_digit_26 : decode cX10_digit 26 = .ok (.iconst 1, 1) := by decide +kernel
theorem dX10_digit_27 : decode cX10_digit 27 = .ok (.iadd, 1) := by decide +kernel
theorem dX10_digit_28 : decode cX10_digit 28 = .ok (.putfield 127, 3) := by decide +kernel
theorem dX10_digit_31 : decode cX10_digit 31 = .ok (.iload_n 1, 1) := by decide +kernel
theorem dX10_digit_32 : decode cX10_digit 32 = .ok (.bipush 48, 2) := by decide +kernel
theorem dX10_digit_34 : decode cX10_digit 34 = .ok (.isub, 1) := by decide +kernel
theorem dX10_digit_35 : decode cX10_digit 35 = .ok (.ireturn, 1) := by decide +kernel
theorem dX10_readTimes_0 : decode cX10_readTimes 0 = .ok (.aload_n 0, 1) := by decide +kernel
theorem dX10_readTimes_1 : decode cX10_readTimes 1 = .ok (.getfield 127, 3) := by decide +kernel
theorem dX10_readTimes_4 : decode cX10_readTimes 4 = .ok (.iconst 1, 1) := by decide +kernel
theorem dX10_readTimes_5 : decode cX10_readTimes 5 = .ok (.isub, 1) := by decide +kernel
theorem dX10_readTimes_6 : decode cX10_readTimes 6 = .ok (.istore_n 1, 1) := by decide +kernel
theorem dX10_readTimes_7 : decode cX10_readTimes 7 = .ok (.aload_n 0, 1) := by decide +kernel
theorem dX10_readTimes_8 : decode cX10_readTimes 8 = .ok (.invokevirtual 179, 3) := by decide +kernel
theorem dX10_readTimes_11 : decode cX10_readTimes 11 = .ok (.istore_n 2, 1) := by decide +kernel
theorem dX10_readTimes_12 : decode cX10_readTimes 12 = .ok (.iload_n 2, 1) := by decide +kernel
theorem dX10_readTimes_13 : decode cX10_readTimes 13 = .ok (.istore_n 3, 1) := by decide +kernel
theorem dX10_readTimes_14 : decode cX10_readTimes 14 = .ok (.aload_n 0, 1) := by decide +kernel
theorem dX10_readTimes_15 : decode cX10_readTimes 15 = .ok (.getfield 124, 3) := by decide +kernel
theorem dX10_readTimes_18 : decode cX10_readTimes 18 = .ok (.ifCond .ne 27, 3) := by decide +kernel
theorem dX10_readTimes_21 : decode cX10_readTimes 21 = .ok (.aload_n 0, 1) := by decide +kernel
theorem dX10_readTimes_22 : decode cX10_readTimes 22 = .ok (.invokevirtual 158, 3) := by decide +kernel
theorem dX10_readTimes_25 : decode cX10_readTimes 25 = .ok (.bipush 44, 2) := by decide +kernel
theorem dX10_readTimes_27 : decode cX10_readTimes 27 = .ok (.if_icmp .ne 18, 3) := by decide +kernel
theorem dX10_readTimes_30 : decode cX10_readTimes 30 = .ok (.aload_n 0, 1) := by decide +kernel
theorem dX10_readTimes_31 : decode cX10_readTimes 31 = .ok (.dup, 1) := by decide +kernel
theorem dX10_readTimes_32 : decode cX10_readTimes 32 = .ok (.getfield 127, 3) := by decide +kernel
theorem dX10_readTimes_35 : decode cX10_readTimes 35 = .ok (.iconst 1, 1) := by decide +kernel
theorem dX10_readTimes_36 : decode cX10_readTimes 36 = .ok (.iadd, 1) := by decide +kernel
theorem dX10_readTimes_37 : decode cX10_readTimes 37 = .ok (.putfield 127, 3) := by decide +kernel
theorem dX10_readTimes_40 : decode cX10_readTimes 40 = .ok (.aload_n 0, 1) := by decide +kernel
theorem dX10_readTimes_41 : decode cX10_readTimes 41 = .ok (.invokevirtual 179, 3) := by decide +kernel
theorem dX10_readTimes_44 : decode cX10_readTimes 44 = .ok (.istore_n 3, 1) := by decide +kernel
theorem dX10_readTimes_45 : decode cX10_readTimes 45 = .ok (.aload_n 0, 1) := by decide +kernel
theorem dX10_readTimes_46 : decode cX10_readTimes 46 = .ok (.getfield 124, 3) := by decide +kernel
theorem dX10_readTimes_49 : decode cX10_readTimes 49 = .ok (.ifCond .ne 16, 3) := by decide +kernel
theorem dX10_readTimes_52 : decode cX10_readTimes 52 = .ok (.aload_n 0, 1) := by decide +kernel
theorem dX10_readTimes_53 : decode cX10_readTimes 53 = .ok (.invokevirtual 158, 3) := by decide +kernel
theorem dX10_readTimes_56 : decode cX10_readTimes 56 = .ok (.bipush 125, 2) := by decide +kernel
theorem dX10_readTimes_58 : decode cX10_readTimes 58 = .ok (.if_icmp .eq 7, 3) := by decide +kernel
theorem dX10_readTimes_61 : decode cX10_readTimes 61 = .ok (.aload_n 0, 1) := by decide +kernel
theorem dX10_readTimes_62 : decode cX10_readTimes 62 = .ok (.invokevirtual 166, 3) := by decide +kernel
theorem dX10_readTimes_65 : decode cX10_readTimes 65 = .ok (.aload_n 0, 1) := by decide +kernel
theorem dX10_readTimes_66 : decode cX10_readTimes 66 = .ok (.dup, 1) := by decide +kernel
theorem dX10_readTimes_67 : decode cX10_readTimes 67 = .ok (.getfield 127, 3) := by decide +kernel
theorem dX10_readTimes_70 : decode cX10_readTimes 70 = .ok (.iconst 1, 1) := by decide +kernel
theorem dX10_readTimes_71 : decode cX10_readTimes 71 = .ok (.iadd, 1) := by decide +kernel
theorem dX10_readTimes_72 : decode cX10_readTimes 72 = .ok (.putfield 127, 3) := by decide +kernel
theorem dX10_readTimes_75 : decode cX10_readTimes 75 = .ok (.aload_n 0, 1) := by decide +kernel
theorem dX10_readTimes_76 : decode cX10_readTimes 76 = .ok (.getfield 124, 3) := by decide +kernel
theorem dX10_readTimes_79 : decode cX10_readTimes 79 = .ok (.ifCond .ne 23, 3) := by decide +kernel
theorem dX10_readTimes_82 : decode cX10_readTimes 82 = .ok (.iload_n 2, 1) := by decide +kernel
theorem dX10_readTimes_83 : decode cX10_readTimes 83 = .ok (.iload_n 3, 1) := by decide +kernel
theorem dX10_readTimes_84 : decode cX10_readTimes 84 = .ok (.if_icmp .gt 12, 3) := by decide +kernel
theorem dX10_readTimes_87 : decode cX10_readTimes 87 = .ok (.iload_n 3, 1) := by decide +kernel
theorem dX10_readTimes_88 : decode cX10_readTimes 88 = .ok (.iconst 5, 1) := by decide +kernel
theorem dX10_readTimes_89 : decode cX10_readTimes 89 = .ok (.if_icmp .gt 7, 3) := by decide +kernel
theorem dX10_readTimes_92 : decode cX10_readTimes 92 = .ok (.iload_n 3, 1) := by decide +kernel
theorem dX10_readTimes_93 : decode cX10_readTimes 93 = .ok (.ifCond .ne 9, 3) := by decide +kernel
theorem dX10_readTimes_96 : decode cX10_readTimes 96 = .ok (.aload_n 0, 1) := by decide +kernel
theorem dX10_readTimes_97 : decode cX10_readTimes 97 = .ok (.iconst 3, 1) := by decide +kernel
theorem dX10_readTimes_98 : decode cX10_readTimes 98 = .ok (.iload_n 1, 1) := by decide +kernel
theorem dX10_readTimes_99 : decode cX10_readTimes 99 = .ok (.invokevirtual 130, 3) := by decide +kernel
theorem dX10_readTimes_102 : decode cX10_readTimes 102 = .ok (.aload_n 0, 1) := by decide +kernel
theorem dX10_readTimes_103 : decode cX10_readTimes 103 = .ok (.getfield 137, 3) := by decide +kernel
theorem dX10_readTimes_106 : decode cX10_readTimes 106 = .ok (.aload_n 0, 1) := by decide +kernel
theorem dX10_readTimes_107 : decode cX10_readTimes 107 = .ok (.getfield 55, 3) := by decide +kernel
theorem dX10_readTimes_110 : decode cX10_readTimes 110 = .ok (.aload_n 0, 1) := by decide +kernel
theorem dX10_readTimes_111 : decode cX10_readTimes 111 = .ok (.getfield 134, 3) := by decide +kernel
theorem dX10_readTimes_114 : decode cX10_readTimes 114 = .ok (.iaload, 1) := by decide +kernel
theorem dX10_readTimes_115 : decode cX10_readTimes 115 = .ok (.isub, 1) := by decide +kernel
theorem dX10_readTimes_116 : decode cX10_readTimes 116 = .ok (.istore 4, 2) := by decide +kernel
theorem dX10_readTimes_118 : decode cX10_readTimes 118 = .ok (.aload_n 0, 1) := by decide +kernel
theorem dX10_readTimes_119 : decode cX10_readTimes 119 = .ok (.getfield 124, 3) := by decide +kernel
theorem dX10_readTimes_122 : decode cX10_readTimes 122 = .ok (.ifCond .ne 25, 3) := by decide +kernel
theorem dX10_readTimes_125 : decode cX10_readTimes 125 = .ok (.aload_n 0, 1) := by decide +kernel
theorem dX10_readTimes_126 : decode cX10_readTimes 126 = .ok (.getfield 137, 3) := by decide +kernel
theorem dX10_readTimes_129 : decode cX10_readTimes 129 = .ok (.iload_n 3, 1) := by decide +kernel
theorem dX10_readTimes_130 : decode cX10_readTimes 130 = .ok (.iconst 1, 1) := by decide +kernel
theorem dX10_readTimes_131 : decode cX10_readTimes 131 = .ok (.isub, 1) := by decide +kernel
theorem dX10_readTimes_132 : decode cX10_readTimes 132 = .ok (.iload 4, 2) := by decide +kernel
theorem dX10_readTimes_134 : decode cX10_readTimes 134 = .ok (.imul, 1) := by decide +kernel
theorem dX10_readTimes_135 : decode cX10_readTimes 135 = .ok (.iadd, 1) := by decide +kernel
theorem dX10_readTimes_136 : decode cX10_readTimes 136 = .ok (.bipush 60, 2) := by decide +kernel
theorem dX10_readTimes_138 : decode cX10_readTimes 138 = .ok (.if_icmp .le 9, 3) := by decide +kernel
theorem dX10_readTimes_141 : decode cX10_readTimes 141 = .ok (.aload_n 0, 1) := by decide +kernel
theorem dX10_readTimes_142 : decode cX10_readTimes 142 = .ok (.iconst 4, 1) := by decide +kernel
theorem dX10_readTimes_143 : decode cX10_readTimes 143 = .ok (.iload_n 1, 1) := by decide +kernel
theorem dX10_readTimes_144 : decode cX10_readTimes 144 = .ok (.invokevirtual 130, 3) := by decide +kernel
theorem dX10_readTimes_147 : decode cX10_readTimes 147 = .ok (.aload_n 0, 1) := by decide +kernel
theorem dX10_readTimes_148 : decode cX10_readTimes 148 = .ok (.getfield 124, 3) := by decide +kernel
theorem dX10_readTimes_151 : decode cX10_readTimes 151 = .ok (.ifCond .ne 11, 3) := by decide +kernel
theorem dX10_readTimes_154 : decode cX10_readTimes 154 = .ok (.aload_n 0, 1) := by decide +kernel
theorem dX10_readTimes_155 : decode cX10_readTimes 155 = .ok (.iload_n 2, 1) := by decide +kernel
theorem dX10_readTimes_156 : decode cX10_readTimes 156 = .ok (.iload_n 3, 1) := by decide +kernel
theorem dX10_readTimes_157 : decode cX10_readTimes 157 = .ok (.iload 4, 2) := by decide +kernel
theorem dX10_readTimes_159 : decode cX10_readTimes 159 = .ok (.invokevirtual 182, 3) := by decide +kernel
theorem dX10_readTimes_162 : decode cX10_readTimes 162 = .ok (.return_, 1) := by decide +kernel
theorem dX10_times_0 : decode cX10_times 0 = .ok (.aload_n 0, 1) := by decide +kernel
theorem dX10_times_1 : decode cX10_times 1 = .ok (.getfield 134, 3) := by decide +kernel
theorem dX10_times_4 : decode cX10_times 4 = .ok (.istore 4, 2) := by decide +kernel
theorem dX10_times_6 : decode cX10_times 6 = .ok (.aload_n 0, 1) := by decide +kernel
theorem dX10_times_7 : decode cX10_times 7 = .ok (.getfield 55, 3) := by decide +kernel
theorem dX10_times_10 : decode cX10_times 10 = .ok (.iload 4, 2) := by decide +kernel
theorem dX10_times_12 : decode cX10_times 12 = .ok (.iaload, 1) := by decide +kernel
theorem dX10_times_13 : decode cX10_times 13 = .ok (.istore 5, 2) := by decide +kernel
theorem dX10_times_15 : decode cX10_times 15 = .ok (.iconst 0, 1) := by decide +kernel
theorem dX10_times_16 : decode cX10_times 16 = .ok (.istore 6, 2) := by decide +kernel
theorem dX10_times_18 : decode cX10_times 18 = .ok (.iload 6, 2) := by decide +kernel
theorem dX10_times_20 : decode cX10_times 20 = .ok (.iload_n 3, 1) := by decide +kernel
theorem dX10_times_21 : decode cX10_times 21 = .ok (.if_icmp .ge 29, 3) := by decide +kernel
theorem dX10_times_24 : decode cX10_times 24 = .ok (.aload_n 0, 1) := by decide +kernel
theorem dX10_times_25 : decode cX10_times 25 = .ok (.getfield 79, 3) := by decide +kernel
theorem dX10_times_28 : decode cX10_times 28 = .ok (.iload 6, 2) := by decide +kernel
theorem dX10_times_30 : decode cX10_times 30 = .ok (.aload_n 0, 1) := by decide +kernel
theorem dX10_times_31 : decode cX10_times 31 = .ok (.getfield 37, 3) := by decide +kernel
theorem dX10_times_34 : decode cX10_times 34 = .ok (.bipush 120, 2) := by decide +kernel
theorem dX10_times_36 : decode cX10_times 36 = .ok (.iload 5, 2) := by decide +kernel
theorem dX10_times_38 : decode cX10_times 38 = .ok (.iadd, 1) := by decide +kernel
theorem dX10_times_39 : decode cX10_times 39 = .ok (.iload 6, 2) := by decide +kernel
theorem dX10_times_41 : decode cX10_times 41 = .ok (.iadd, 1) := by decide +kernel
theorem dX10_times_42 : decode cX10_times 42 = .ok (.laload, 1) := by decide +kernel
theorem dX10_times_43 : decode cX10_times 43 = .ok (.lastore, 1) := by decide +kernel
theorem dX10_times_44 : decode cX10_times 44 = .ok (.iinc 6 1, 3) := by decide +kernel
theorem dX10_times_47 : decode cX10_times 47 = .ok (.goto (-29), 3) := by decide +kernel
theorem dX10_times_50 : decode cX10_times 50 = .ok (.aload_n 0, 1) := by decide +kernel
theorem dX10_times_51 : decode cX10_times 51 = .ok (.getfield 58, 3) := by decide +kernel
theorem dX10_times_54 : decode cX10_times 54 = .ok (.iload 4, 2) := by decide +kernel
theorem dX10_times_56 : decode cX10_times 56 = .ok (.baload, 1) := by decide +kernel
theorem dX10_times_57 : decode cX10_times 57 = .ok (.istore 6, 2) := by decide +kernel
theorem dX10_times_59 : decode cX10_times 59 = .ok (.aload_n 0, 1) := by decide +kernel
theorem dX10_times_60 : decode cX10_times 60 = .ok (.getfield 61, 3) := by decide +kernel
theorem dX10_times_63 : decode cX10_times 63 = .ok (.iload 4, 2) := by decide +kernel
theorem dX10_times_65 : decode cX10_times 65 = .ok (.laload, 1) := by decide +kernel
theorem dX10_times_66 : decode cX10_times 66 = .ok (.lstore 7, 2) := by decide +kernel
theorem dX10_times_68 : decode cX10_times 68 = .ok (.aload_n 0, 1) := by decide +kernel
theorem dX10_times_69 : decode cX10_times 69 = .ok (.getfield 64, 3) := by decide +kernel
theorem dX10_times_72 : decode cX10_times 72 = .ok (.iload 4, 2) := by decide +kernel
theorem dX10_times_74 : decode cX10_times 74 = .ok (.laload, 1) := by decide +kernel
theorem dX10_times_75 : decode cX10_times 75 = .ok (.lstore 9, 2) := by decide +kernel
theorem dX10_times_77 : decode cX10_times 77 = .ok (.iconst 1, 1) := by decide +kernel
theorem dX10_times_78 : decode cX10_times 78 = .ok (.istore 11, 2) := by decide +kernel
theorem dX10_times_80 : decode cX10_times 80 = .ok (.lconst 0, 1) := by decide +kernel
theorem dX10_times_81 : decode cX10_times 81 = .ok (.lstore 12, 2) := by decide +kernel
theorem dX10_times_83 : decode cX10_times 83 = .ok (.lconst 0, 1) := by decide +kernel
theorem dX10_times_84 : decode cX10_times 84 = .ok (.lstore 14, 2) := by decide +kernel
theorem dX10_times_86 : decode cX10_times 86 = .ok (.iconst 0, 1) := by decide +kernel
theorem dX10_times_87 : decode cX10_times 87 = .ok (.istore 16, 2) := by decide +kernel
theorem dX10_times_89 : decode cX10_times 89 = .ok (.iload 16, 2) := by decide +kernel
theorem dX10_times_91 : decode cX10_times 91 = .ok (.iload_n 2, 1) := by decide +kernel
theorem dX10_times_92 : decode cX10_times 92 = .ok (.if_icmp .ge 189, 3) := by decide +kernel
theorem dX10_times_95 : decode cX10_times 95 = .ok (.iload 16, 2) := by decide +kernel
theorem dX10_times_97 : decode cX10_times 97 = .ok (.iload_n 3, 1) := by decide +kernel
theorem dX10_times_98 : decode cX10_times 98 = .ok (.imul, 1) := by decide +kernel
theorem dX10_times_99 : decode cX10_times 99 = .ok (.istore 17, 2) := by decide +kernel
theorem dX10_times_101 : decode cX10_times 101 = .ok (.iconst 0, 1) := by decide +kernel
theorem dX10_times_102 : decode cX10_times 102 = .ok (.istore 18, 2) := by decide +kernel
theorem dX10_times_104 : decode cX10_times 104 = .ok (.iload 18, 2) := by decide +kernel
theorem dX10_times_106 : decode cX10_times 106 = .ok (.iload_n 3, 1) := by decide +kernel
theorem dX10_times_107 : decode cX10_times 107 = .ok (.if_icmp .ge 79, 3) := by decide +kernel
theorem dX10_times_110 : decode cX10_times 110 = .ok (.iload 16, 2) := by decide +kernel
theorem dX10_times_112 : decode cX10_times 112 = .ok (.ifCond .le 74, 3) := by decide +kernel
theorem dX10_times_115 : decode cX10_times 115 = .ok (.aload_n 0, 1) := by decide +kernel
theorem dX10_times_116 : decode cX10_times 116 = .ok (.getfield 40, 3) := by decide +kernel
theorem dX10_times_119 : decode cX10_times 119 = .ok (.bipush 120, 2) := by decide +kernel
theorem dX10_times_121 : decode cX10_times 121 = .ok (.iload 5, 2) := by decide +kernel
theorem dX10_times_123 : decode cX10_times 123 = .ok (.iadd, 1) := by decide +kernel
theorem dX10_times_124 : decode cX10_times 124 = .ok (.iload 17, 2) := by decide +kernel
theorem dX10_times_126 : decode cX10_times 126 = .ok (.iadd, 1) := by decide +kernel
theorem dX10_times_127 : decode cX10_times 127 = .ok (.iload 18, 2) := by decide +kernel
theorem dX10_times_129 : decode cX10_times 129 = .ok (.iadd, 1) := by decide +kernel
theorem dX10_times_130 : decode cX10_times 130 = .ok (.aload_n 0, 1) := by decide +kernel
theorem dX10_times_131 : decode cX10_times 131 = .ok (.getfield 40, 3) := by decide +kernel
theorem dX10_times_134 : decode cX10_times 134 = .ok (.bipush 120, 2) := by decide +kernel
theorem dX10_times_136 : decode cX10_times 136 = .ok (.iload 5, 2) := by decide +kernel
theorem dX10_times_138 : decode cX10_times 138 = .ok (.iadd, 1) := by decide +kernel
theorem dX10_times_139 : decode cX10_times 139 = .ok (.iload 18, 2) := by decide +kernel
theorem dX10_times_141 : decode cX10_times 141 = .ok (.iadd, 1) := by decide +kernel
theorem dX10_times_142 : decode cX10_times 142 = .ok (.laload, 1) := by decide +kernel
theorem dX10_times_143 : decode cX10_times 143 = .ok (.lastore, 1) := by decide +kernel
theorem dX10_times_144 : decode cX10_times 144 = .ok (.aload_n 0, 1) := by decide +kernel
theorem dX10_times_145 : decode cX10_times 145 = .ok (.getfield 37, 3) := by decide +kernel
theorem dX10_times_148 : decode cX10_times 148 = .ok (.bipush 120, 2) := by decide +kernel
theorem dX10_times_150 : decode cX10_times 150 = .ok (.iload 5, 2) := by decide +kernel
theorem dX10_times_152 : decode cX10_times 152 = .ok (.iadd, 1) := by decide +kernel
theorem dX10_times_153 : decode cX10_times 153 = .ok (.iload 17, 2) := by decide +kernel
theorem dX10_times_155 : decode cX10_times 155 = .ok (.iadd, 1) := by decide +kernel
theorem dX10_times_156 : decode cX10_times 156 = .ok (.iload 18, 2) := by decide +kernel
theorem dX10_times_158 : decode cX10_times 158 = .ok (.iadd, 1) := by decide +kernel
theorem dX10_times_159 : decode cX10_times 159 = .ok (.aload_n 0, 1) := by decide +kernel
theorem dX10_times_160 : decode cX10_times 160 = .ok (.getfield 79, 3) := by decide +kernel
theorem dX10_times_163 : decode cX10_times 163 = .ok (.iload 18, 2) := by decide +kernel
theorem dX10_times_165 : decode cX10_times 165 = .ok (.laload, 1) := by decide +kernel
theorem dX10_times_166 : decode cX10_times 166 = .ok (.iload 17, 2) := by decide +kernel
theorem dX10_times_168 : decode cX10_times 168 = .ok (.lshl, 1) := by decide +kernel
theorem dX10_times_169 : decode cX10_times 169 = .ok (.lastore, 1) := by decide +kernel
theorem dX10_times_170 : decode cX10_times 170 = .ok (.aload_n 0, 1) := by decide +kernel
theorem dX10_times_171 : decode cX10_times 171 = .ok (.dup, 1) := by decide +kernel
theorem dX10_times_172 : decode cX10_times 172 = .ok (.getfield 137, 3) := by decide +kernel
theorem dX10_times_175 : decode cX10_times 175 = .ok (.iconst 1, 1) := by decide +kernel
theorem dX10_times_176 : decode cX10_times 176 = .ok (.iadd, 1) := by decide +kernel
theorem dX10_times_177 : decode cX10_times 177 = .ok (.putfield 137, 3) := by decide +kernel
theorem dX10_times_180 : decode cX10_times 180 = .ok (.iinc 18 1, 3) := by decide +kernel
theorem dX10_times_183 : decode cX10_times 183 = .ok (.goto (-79), 3) := by decide +kernel
theorem dX10_times_186 : decode cX10_times 186 = .ok (.aload_n 0, 1) := by decide +kernel
theorem dX10_times_187 : decode cX10_times 187 = .ok (.lload 14, 2) := by decide +kernel
theorem dX10_times_189 : decode cX10_times 189 = .ok (.lload 7, 2) := by decide +kernel
theorem dX10_times_191 : decode cX10_times 191 = .ok (.iload 17, 2) := by decide +kernel
theorem dX10_times_193 : decode cX10_times 193 = .ok (.lshl, 1) := by decide +kernel
theorem dX10_times_194 : decode cX10_times 194 = .ok (.invokevirtual 147, 3) := by decide +kernel
theorem dX10_times_197 : decode cX10_times 197 = .ok (.iload 11, 2) := by decide +kernel
theorem dX10_times_199 : decode cX10_times 199 = .ok (.ifCond .eq 14, 3) := by decide +kernel
theorem dX10_times_202 : decode cX10_times 202 = .ok (.lload 12, 2) := by decide +kernel
theorem dX10_times_204 : decode cX10_times 204 = .ok (.lload 7, 2) := by decide +kernel
theorem dX10_times_206 : decode cX10_times 206 = .ok (.iload 17, 2) := by decide +kernel
theorem dX10_times_208 : decode cX10_times 208 = .ok (.lshl, 1) := by decide +kernel
theorem dX10_times_209 : decode cX10_times 209 = .ok (.lor, 1) := by decide +kernel
theorem dX10_times_210 : decode cX10_times 210 = .ok (.goto 5, 3) := by decide +kernel
theorem dX10_times_213 : decode cX10_times 213 = .ok (.lload 12, 2) := by decide +kernel
theorem dX10_times_215 : decode cX10_times 215 = .ok (.lstore 12, 2) := by decide +kernel
theorem dX10_times_217 : decode cX10_times 217 = .ok (.iload 6, 2) := by decide +kernel
theorem dX10_times_219 : decode cX10_times 219 = .ok (.ifCond .ne 9, 3) := by decide +kernel
theorem dX10_times_222 : decode cX10_times 222 = .ok (.iload 16, 2) := by decide +kernel
theorem dX10_times_224 : decode cX10_times 224 = .ok (.iload_n 1, 1) := by decide +kernel
theorem dX10_times_225 : decode cX10_times 225 = .ok (.if_icmp .lt 7, 3) := by decide +kernel
theorem dX10_times_228 : decode cX10_times 228 = .ok (.iconst 1, 1) := by decide +kernel
theorem dX10_times_229 : decode cX10_times 229 = .ok (.goto 4, 3) := by decide +kernel
theorem dX10_times_232 : decode cX10_times 232 = .ok (.iconst 0, 1) := by decide +kernel
theorem dX10_times_233 : decode cX10_times 233 = .ok (.istore 18, 2) := by decide +kernel
theorem dX10_times_235 : decode cX10_times 235 = .ok (.iload 18, 2) := by decide +kernel
theorem dX10_times_237 : decode cX10_times 237 = .ok (.ifCond .eq 14, 3) := by decide +kernel
theorem dX10_times_240 : decode cX10_times 240 = .ok (.lload 14, 2) := by decide +kernel
theorem dX10_times_242 : decode cX10_times 242 = .ok (.lload 9, 2) := by decide +kernel
theorem dX10_times_244 : decode cX10_times 244 = .ok (.iload 17, 2) := by decide +kernel
theorem dX10_times_246 : decode cX10_times 246 = .ok (.lshl, 1) := by decide +kernel
theorem dX10_times_247 : decode cX10_times 247 = .ok (.lor, 1) := by decide +kernel
theorem dX10_times_248 : decode cX10_times 248 = .ok (.goto 8, 3) := by decide +kernel
theorem dX10_times_251 : decode cX10_times 251 = .ok (.lload 9, 2) := by decide +kernel
theorem dX10_times_253 : decode cX10_times 253 = .ok (.iload 17, 2) := by decide +kernel
theorem dX10_times_255 : decode cX10_times 255 = .ok (.lshl, 1) := by decide +kernel
theorem dX10_times_256 : decode cX10_times 256 = .ok (.lstore 14, 2) := by decide +kernel
theorem dX10_times_258 : decode cX10_times 258 = .ok (.iload 11, 2) := by decide +kernel
theorem dX10_times_260 : decode cX10_times 260 = .ok (.ifCond .eq 12, 3) := by decide +kernel
theorem dX10_times_263 : decode cX10_times 263 = .ok (.iload 18, 2) := by decide +kernel
theorem dX10_times_265 : decode cX10_times 265 = .ok (.ifCond .eq 7, 3) := by decide +kernel
theorem dX10_times_268 : decode cX10_times 268 = .ok (.iconst 1, 1) := by decide +kernel
theorem dX10_times_269 : decode cX10_times 269 = .ok (.goto 4, 3) := by decide +kernel
theorem dX10_times_272 : decode cX10_times 272 = .ok (.iconst 0, 1) := by decide +kernel
theorem dX10_times_273 : decode cX10_times 273 = .ok (.istore 11, 2) := by decide +kernel
theorem dX10_times_275 : decode cX10_times 275 = .ok (.iinc 16 1, 3) := by decide +kernel
theorem dX10_times_278 : decode cX10_times 278 = .ok (.goto (-189), 3) := by decide +kernel
theorem dX10_times_281 : decode cX10_times 281 = .ok (.aload_n 0, 1) := by decide +kernel
theorem dX10_times_282 : decode cX10_times 282 = .ok (.iload 5, 2) := by decide +kernel
theorem dX10_times_284 : decode cX10_times 284 = .ok (.iload 11, 2) := by decide +kernel
theorem dX10_times_286 : decode cX10_times 286 = .ok (.lload 12, 2) := by decide +kernel
theorem dX10_times_288 : decode cX10_times 288 = .ok (.lload 14, 2) := by decide +kernel
theorem dX10_times_290 : decode cX10_times 290 = .ok (.invokevirtual 154, 3) := by decide +kernel
theorem dX10_times_293 : decode cX10_times 293 = .ok (.return_, 1) := by decide +kernel
theorem dX10_suffix_0 : decode cX10_suffix 0 = .ok (.aload_n 0, 1) := by decide +kernel
theorem dX10_suffix_1 : decode cX10_suffix 1 = .ok (.getfield 134, 3) := by decide +kernel
theorem dX10_suffix_4 : decode cX10_suffix 4 = .ok (.istore_n 2, 1) := by decide +kernel
theorem dX10_suffix_5 : decode cX10_suffix 5 = .ok (.aload_n 0, 1) := by decide +kernel
theorem dX10_suffix_6 : decode cX10_suffix 6 = .ok (.getfield 52, 3) := by decide +kernel
theorem dX10_suffix_9 : decode cX10_suffix 9 = .ok (.iload_n 2, 1) := by decide +kernel
theorem dX10_suffix_10 : decode cX10_suffix 10 = .ok (.baload, 1) := by decide +kernel
theorem dX10_suffix_11 : decode cX10_suffix 11 = .ok (.ifCond .ne 17, 3) := by decide +kernel
theorem dX10_suffix_14 : decode cX10_suffix 14 = .ok (.aload_n 0, 1) := by decide +kernel
theorem dX10_suffix_15 : decode cX10_suffix 15 = .ok (.iconst 1, 1) := by decide +kernel
theorem dX10_suffix_16 : decode cX10_suffix 16 = .ok (.aload_n 0, 1) := by decide +kernel
theorem dX10_suffix_17 : decode cX10_suffix 17 = .ok (.getfield 127, 3) := by decide +kernel
theorem dX10_suffix_20 : decode cX10_suffix 20 = .ok (.iconst 1, 1) := by decide +kernel
theorem dX10_suffix_21 : decode cX10_suffix 21 = .ok (.isub, 1) := by decide +kernel
theorem dX10_suffix_22 : decode cX10_suffix 22 = .ok (.invokevirtual 130, 3) := by decide +kernel
theorem dX10_suffix_25 : decode cX10_suffix 25 = .ok (.goto 64, 3) := by decide +kernel
theorem dX10_suffix_28 : decode cX10_suffix 28 = .ok (.iload_n 1, 1) := by decide +kernel
theorem dX10_suffix_29 : decode cX10_suffix 29 = .ok (.bipush 123, 2) := by decide +kernel
theorem dX10_suffix_31 : decode cX10_suffix 31 = .ok (.if_icmp .ne 10, 3) := by decide +kernel
theorem dX10_suffix_34 : decode cX10_suffix 34 = .ok (.aload_n 0, 1) := by decide +kernel
theorem dX10_suffix_35 : decode cX10_suffix 35 = .ok (.invokevirtual 186, 3) := by decide +kernel
theorem dX10_suffix_38 : decode cX10_suffix 38 = .ok (.goto 51, 3) := by decide +kernel
theorem dX10_suffix_41 : decode cX10_suffix 41 = .ok (.iload_n 1, 1) := by decide +kernel
theorem dX10_suffix_42 : decode cX10_suffix 42 = .ok (.bipush 63, 2) := by decide +kernel
theorem dX10_suffix_44 : decode cX10_suffix 44 = .ok (.if_icmp .eq 19, 3) := by decide +kernel
theorem dX10_suffix_47 : decode cX10_suffix 47 = .ok (.aload_n 0, 1) := by decide +kernel
theorem dX10_suffix_48 : decode cX10_suffix 48 = .ok (.aload_n 0, 1) := by decide +kernel
theorem dX10_suffix_49 : decode cX10_suffix 49 = .ok (.getfield 64, 3) := by decide +kernel
theorem dX10_suffix_52 : decode cX10_suffix 52 = .ok (.iload_n 2, 1) := by decide +kernel
theorem dX10_suffix_53 : decode cX10_suffix 53 = .ok (.laload, 1) := by decide +kernel
theorem dX10_suffix_54 : decode cX10_suffix 54 = .ok (.aload_n 0, 1) := by decide +kernel
theorem dX10_suffix_55 : decode cX10_suffix 55 = .ok (.getfield 61, 3) := by decide +kernel
theorem dX10_suffix_58 : decode cX10_suffix 58 = .ok (.iload_n 2, 1) := by decide +kernel
theorem dX10_suffix_59 : decode cX10_suffix 59 = .ok (.laload, 1) := by decide +kernel
theorem dX10_suffix_60 : decode cX10_suffix 60 = .ok (.invokevirtual 147, 3) := by decide +kernel
theorem dX10_suffix_63 : decode cX10_suffix 63 = .ok (.aload_n 0, 1) := by decide +kernel
theorem dX10_suffix_64 : decode cX10_suffix 64 = .ok (.getfield 58, 3) := by decide +kernel
theorem dX10_suffix_67 : decode cX10_suffix 67 = .ok (.iload_n 2, 1) := by decide +kernel
theorem dX10_suffix_68 : decode cX10_suffix 68 = .ok (.aload_n 0, 1) := by decide +kernel
theorem dX10_suffix_69 : decode cX10_suffix 69 = .ok (.getfield 58, 3) := by decide +kernel
theorem dX10_suffix_72 : decode cX10_suffix 72 = .ok (.iload_n 2, 1) := by decide +kernel
theorem dX10_suffix_73 : decode cX10_suffix 73 = .ok (.baload, 1) := by decide +kernel
theorem dX10_suffix_74 : decode cX10_suffix 74 = .ok (.ifCond .ne 9, 3) := by decide +kernel
theorem dX10_suffix_77 : decode cX10_suffix 77 = .ok (.iload_n 1, 1) := by decide +kernel
theorem dX10_suffix_78 : decode cX10_suffix 78 = .ok (.bipush 43, 2) := by decide +kernel
theorem dX10_suffix_80 : decode cX10_suffix 80 = .ok (.if_icmp .eq 7, 3) := by decide +kernel
theorem dX10_suffix_83 : decode cX10_suffix 83 = .ok (.iconst 1, 1) := by decide +kernel
theorem dX10_suffix_84 : decode cX10_suffix 84 = .ok (.goto 4, 3) := by decide +kernel
theorem dX10_suffix_87 : decode cX10_suffix 87 = .ok (.iconst 0, 1) := by decide +kernel
theorem dX10_suffix_88 : decode cX10_suffix 88 = .ok (.bastore, 1) := by decide +kernel
theorem dX10_suffix_89 : decode cX10_suffix 89 = .ok (.return_, 1) := by decide +kernel
theorem dX10_close_0 : decode cX10_close 0 = .ok (.aload_n 0, 1) := by decide +kernel
theorem dX10_close_1 : decode cX10_close 1 = .ok (.getfield 134, 3) := by decide +kernel
theorem dX10_close_4 : decode cX10_close 4 = .ok (.ifCond .ne 15, 3) := by decide +kernel
theorem dX10_close_7 : decode cX10_close 7 = .ok (.aload_n 0, 1) := by decide +kernel
theorem dX10_close_8 : decode cX10_close 8 = .ok (.iconst 1, 1) := by decide +kernel
theorem dX10_close_9 : decode cX10_close 9 = .ok (.aload_n 0, 1) := by decide +kernel
theorem dX10_close_10 : decode cX10_close 10 = .ok (.getfield 127, 3) := by decide +kernel
theorem dX10_close_13 : decode cX10_close 13 = .ok (.iconst 1, 1) := by decide +kernel
theorem dX10_close_14 : decode cX10_close 14 = .ok (.isub, 1) := by decide +kernel
theorem dX10_close_15 : decode cX10_close 15 = .ok (.invokevirtual 130, 3) := by decide +kernel
theorem dX10_close_18 : decode cX10_close 18 = .ok (.return_, 1) := by decide +kernel
theorem dX10_close_19 : decode cX10_close 19 = .ok (.aload_n 0, 1) := by decide +kernel
theorem dX10_close_20 : decode cX10_close 20 = .ok (.invokevirtual 189, 3) := by decide +kernel
theorem dX10_close_23 : decode cX10_close 23 = .ok (.aload_n 0, 1) := by decide +kernel
theorem dX10_close_24 : decode cX10_close 24 = .ok (.getfield 67, 3) := by decide +kernel
theorem dX10_close_27 : decode cX10_close 27 = .ok (.aload_n 0, 1) := by decide +kernel
theorem dX10_close_28 : decode cX10_close 28 = .ok (.getfield 134, 3) := by decide +kernel
theorem dX10_close_31 : decode cX10_close 31 = .ok (.baload, 1) := by decide +kernel
theorem dX10_close_32 : decode cX10_close 32 = .ok (.istore_n 1, 1) := by decide +kernel
theorem dX10_close_33 : decode cX10_close 33 = .ok (.aload_n 0, 1) := by decide +kernel
theorem dX10_close_34 : decode cX10_close 34 = .ok (.getfield 70, 3) := by decide +kernel
theorem dX10_close_37 : decode cX10_close 37 = .ok (.aload_n 0, 1) := by decide +kernel
theorem dX10_close_38 : decode cX10_close 38 = .ok (.getfield 134, 3) := by decide +kernel
theorem dX10_close_41 : decode cX10_close 41 = .ok (.laload, 1) := by decide +kernel
theorem dX10_close_42 : decode cX10_close 42 = .ok (.lstore_n 2, 1) := by decide +kernel
theorem dX10_close_43 : decode cX10_close 43 = .ok (.aload_n 0, 1) := by decide +kernel
theorem dX10_close_44 : decode cX10_close 44 = .ok (.getfield 73, 3) := by decide +kernel
theorem dX10_close_47 : decode cX10_close 47 = .ok (.aload_n 0, 1) := by decide +kernel
theorem dX10_close_48 : decode cX10_close 48 = .ok (.getfield 134, 3) := by decide +kernel
theorem dX10_close_51 : decode cX10_close 51 = .ok (.laload, 1) := by decide +kernel
theorem dX10_close_52 : decode cX10_close 52 = .ok (.lstore 4, 2) := by decide +kernel
theorem dX10_close_54 : decode cX10_close 54 = .ok (.aload_n 0, 1) := by decide +kernel
theorem dX10_close_55 : decode cX10_close 55 = .ok (.getfield 76, 3) := by decide +kernel
theorem dX10_close_58 : decode cX10_close 58 = .ok (.aload_n 0, 1) := by decide +kernel
theorem dX10_close_59 : decode cX10_close 59 = .ok (.getfield 134, 3) := by decide +kernel
theorem dX10_close_62 : decode cX10_close 62 = .ok (.iaload, 1) := by decide +kernel
theorem dX10_close_63 : decode cX10_close 63 = .ok (.istore 6, 2) := by decide +kernel
theorem dX10_close_65 : decode cX10_close 65 = .ok (.aload_n 0, 1) := by decide +kernel
theorem dX10_close_66 : decode cX10_close 66 = .ok (.dup, 1) := by decide +kernel
theorem dX10_close_67 : decode cX10_close 67 = .ok (.getfield 134, 3) := by decide +kernel
theorem dX10_close_70 : decode cX10_close 70 = .ok (.iconst 1, 1) := by decide +kernel
theorem dX10_close_71 : decode cX10_close 71 = .ok (.isub, 1) := by decide +kernel
theorem dX10_close_72 : decode cX10_close 72 = .ok (.putfield 134, 3) := by decide +kernel
theorem dX10_close_75 : decode cX10_close 75 = .ok (.aload_n 0, 1) := by decide +kernel
theorem dX10_close_76 : decode cX10_close 76 = .ok (.iload 6, 2) := by decide +kernel
theorem dX10_close_78 : decode cX10_close 78 = .ok (.iload_n 1, 1) := by decide +kernel
theorem dX10_close_79 : decode cX10_close 79 = .ok (.lload_n 2, 1) := by decide +kernel
theorem dX10_close_80 : decode cX10_close 80 = .ok (.lload 4, 2) := by decide +kernel
theorem dX10_close_82 : decode cX10_close 82 = .ok (.invokevirtual 154, 3) := by decide +kernel
theorem dX10_close_85 : decode cX10_close 85 = .ok (.return_, 1) := by decide +kernel
theorem dX10_readOne_0 : decode cX10_readOne 0 = .ok (.aload_n 0, 1) := by decide +kernel
theorem dX10_readOne_1 : decode cX10_readOne 1 = .ok (.invokevirtual 158, 3) := by decide +kernel
theorem dX10_readOne_4 : decode cX10_readOne 4 = .ok (.istore_n 1, 1) := by decide +kernel
theorem dX10_readOne_5 : decode cX10_readOne 5 = .ok (.aload_n 0, 1) := by decide +kernel
theorem dX10_readOne_6 : decode cX10_readOne 6 = .ok (.dup, 1) := by decide +kernel
theorem dX10_readOne_7 : decode cX10_readOne 7 = .ok (.getfield 127, 3) := by decide +kernel
theorem dX10_readOne_10 : decode cX10_readOne 10 = .ok (.iconst 1, 1) := by decide +kernel
theorem dX10_readOne_11 : decode cX10_readOne 11 = .ok (.iadd, 1) := by decide +kernel
theorem dX10_readOne_12 : decode cX10_readOne 12 = .ok (.putfield 127, 3) := by decide +kernel
theorem dX10_readOne_15 : decode cX10_readOne 15 = .ok (.iload_n 1, 1) := by decide +kernel
theorem dX10_readOne_16 : decode cX10_readOne 16 = .ok (.invokestatic 162, 3) := by decide +kernel
theorem dX10_readOne_19 : decode cX10_readOne 19 = .ok (.ifCond .lt 22, 3) := by decide +kernel
theorem dX10_readOne_22 : decode cX10_readOne 22 = .ok (.aload_n 0, 1) := by decide +kernel
theorem dX10_readOne_23 : decode cX10_readOne 23 = .ok (.lconst 1, 1) := by decide +kernel
theorem dX10_readOne_24 : decode cX10_readOne 24 = .ok (.iload_n 1, 1) := by decide +kernel
theorem dX10_readOne_25 : decode cX10_readOne 25 = .ok (.invokestatic 162, 3) := by decide +kernel
theorem dX10_readOne_28 : decode cX10_readOne 28 = .ok (.lshl, 1) := by decide +kernel
theorem dX10_readOne_29 : decode cX10_readOne 29 = .ok (.aload_n 0, 1) := by decide +kernel
theorem dX10_readOne_30 : decode cX10_readOne 30 = .ok (.getfield 127, 3) := by decide +kernel
theorem dX10_readOne_33 : decode cX10_readOne 33 = .ok (.iconst 1, 1) := by decide +kernel
theorem dX10_readOne_34 : decode cX10_readOne 34 = .ok (.isub, 1) := by decide +kernel
theorem dX10_readOne_35 : decode cX10_readOne 35 = .ok (.invokevirtual 175, 3) := by decide +kernel
theorem dX10_readOne_38 : decode cX10_readOne 38 = .ok (.goto 162, 3) := by decide +kernel
theorem dX10_readOne_41 : decode cX10_readOne 41 = .ok (.iload_n 1, 1) := by decide +kernel
theorem dX10_readOne_42 : decode cX10_readOne 42 = .ok (.bipush 46, 2) := by decide +kernel
theorem dX10_readOne_44 : decode cX10_readOne 44 = .ok (.if_icmp .ne 22, 3) := by decide +kernel
theorem dX10_readOne_47 : decode cX10_readOne 47 = .ok (.aload_n 0, 1) := by decide +kernel
theorem dX10_readOne_48 : decode cX10_readOne 48 = .ok (.iconst 0, 1) := by decide +kernel
theorem dX10_readOne_49 : decode cX10_readOne 49 = .ok (.bipush 35, 2) := by decide +kernel
theorem dX10_readOne_51 : decode cX10_readOne 51 = .ok (.invokestatic 169, 3) := by decide +kernel
theorem dX10_readOne_54 : decode cX10_readOne 54 = .ok (.aload_n 0, 1) := by decide +kernel
theorem dX10_readOne_55 : decode cX10_readOne 55 = .ok (.getfield 127, 3) := by decide +kernel
theorem dX10_readOne_58 : decode cX10_readOne 58 = .ok (.iconst 1, 1) := by decide +kernel
theorem dX10_readOne_59 : decode cX10_readOne 59 = .ok (.isub, 1) := by decide +kernel
theorem dX10_readOne_60 : decode cX10_readOne 60 = .ok (.invokevirtual 175, 3) := by decide +kernel
theorem dX10_readOne_63 : decode cX10_readOne 63 = .ok (.goto 137, 3) := by decide +kernel
theorem dX10_readOne_66 : decode cX10_readOne 66 = .ok (.iload_n 1, 1) := by decide +kernel
theorem dX10_readOne_67 : decode cX10_readOne 67 = .ok (.bipush 91, 2) := by decide +kernel
theorem dX10_readOne_69 : decode cX10_readOne 69 = .ok (.if_icmp .ne 10, 3) := by decide +kernel
theorem dX10_readOne_72 : decode cX10_readOne 72 = .ok (.aload_n 0, 1) := by decide +kernel
theorem dX10_readOne_73 : decode cX10_readOne 73 = .ok (.invokevirtual 192, 3) := by decide +kernel
theorem dX10_readOne_76 : decode cX10_readOne 76 = .ok (.goto 124, 3) := by decide +kernel
theorem dX10_readOne_79 : decode cX10_readOne 79 = .ok (.iload_n 1, 1) := by decide +kernel
theorem dX10_readOne_80 : decode cX10_readOne 80 = .ok (.bipush 40, 2) := by decide +kernel
theorem dX10_readOne_82 : decode cX10_readOne 82 = .ok (.if_icmp .ne 45, 3) := by decide +kernel
theorem dX10_readOne_85 : decode cX10_readOne 85 = .ok (.aload_n 0, 1) := by decide +kernel
theorem dX10_readOne_86 : decode cX10_readOne 86 = .ok (.getfield 134, 3) := by decide +kernel
theorem dX10_readOne_89 : decode cX10_readOne 89 = .ok (.bipush 8, 2) := by decide +kernel
theorem dX10_readOne_91 : decode cX10_readOne 91 = .ok (.if_icmp .ne 15, 3) := by decide +kernel
theorem dX10_readOne_94 : decode cX10_readOne 94 = .ok (.aload_n 0, 1) := by decide +kernel
theorem dX10_readOne_95 : decode cX10_readOne 95 = .ok (.iconst 5, 1) := by decide +kernel
theorem dX10_readOne_96 : decode cX10_readOne 96 = .ok (.aload_n 0, 1) := by decide +kernel
theorem dX10_readOne_97 : decode cX10_readOne 97 = .ok (.getfield 127, 3) := by decide +kernel
theorem dX10_readOne_100 : decode cX10_readOne 100 = .ok (.iconst 1, 1) := by decide +kernel
theorem dX10_readOne_101 : decode cX10_readOne 101 = .ok (.isub, 1) := by decide +kernel
theorem dX10_readOne_102 : decode cX10_readOne 102 = .ok (.invokevirtual 130, 3) := by decide +kernel
theorem dX10_readOne_105 : decode cX10_readOne 105 = .ok (.return_, 1) := by decide +kernel
theorem dX10_readOne_106 : decode cX10_readOne 106 = .ok (.aload_n 0, 1) := by decide +kernel
theorem dX10_readOne_107 : decode cX10_readOne 107 = .ok (.invokevirtual 151, 3) := by decide +kernel
theorem dX10_readOne_110 : decode cX10_readOne 110 = .ok (.aload_n 0, 1) := by decide +kernel
theorem dX10_readOne_111 : decode cX10_readOne 111 = .ok (.dup, 1) := by decide +kernel
theorem dX10_readOne_112 : decode cX10_readOne 112 = .ok (.getfield 134, 3) := by decide +kernel
theorem dX10_readOne_115 : decode cX10_readOne 115 = .ok (.iconst 1, 1) := by decide +kernel
theorem dX10_readOne_116 : decode cX10_readOne 116 = .ok (.iadd, 1) := by decide +kernel
theorem dX10_readOne_117 : decode cX10_readOne 117 = .ok (.putfield 134, 3) := by decide +kernel
theorem dX10_readOne_120 : decode cX10_readOne 120 = .ok (.aload_n 0, 1) := by decide +kernel
theorem dX10_readOne_121 : decode cX10_readOne 121 = .ok (.invokevirtual 195, 3) := by decide +kernel
theorem dX10_readOne_124 : decode cX10_readOne 124 = .ok (.goto 76, 3) := by decide +kernel
theorem dX10_readOne_127 : decode cX10_readOne 127 = .ok (.iload_n 1, 1) := by decide +kernel
theorem dX10_readOne_128 : decode cX10_readOne 128 = .ok (.bipush 41, 2) := by decide +kernel
theorem dX10_readOne_130 : decode cX10_readOne 130 = .ok (.if_icmp .ne 10, 3) := by decide +kernel
theorem dX10_readOne_133 : decode cX10_readOne 133 = .ok (.aload_n 0, 1) := by decide +kernel
theorem dX10_readOne_134 : decode cX10_readOne 134 = .ok (.invokevirtual 198, 3) := by decide +kernel
theorem dX10_readOne_137 : decode cX10_readOne 137 = .ok (.goto 63, 3) := by decide +kernel
theorem dX10_readOne_140 : decode cX10_readOne 140 = .ok (.iload_n 1, 1) := by decide +kernel
theorem dX10_readOne_141 : decode cX10_readOne 141 = .ok (.bipush 124, 2) := by decide +kernel
theorem dX10_readOne_143 : decode cX10_readOne 143 = .ok (.if_icmp .ne 14, 3) := by decide +kernel
theorem dX10_readOne_146 : decode cX10_readOne 146 = .ok (.aload_n 0, 1) := by decide +kernel
theorem dX10_readOne_147 : decode cX10_readOne 147 = .ok (.invokevirtual 189, 3) := by decide +kernel
theorem dX10_readOne_150 : decode cX10_readOne 150 = .ok (.aload_n 0, 1) := by decide +kernel
theorem dX10_readOne_151 : decode cX10_readOne 151 = .ok (.invokevirtual 140, 3) := by decide +kernel
theorem dX10_readOne_154 : decode cX10_readOne 154 = .ok (.goto 46, 3) := by decide +kernel
theorem dX10_readOne_157 : decode cX10_readOne 157 = .ok (.iload_n 1, 1) := by decide +kernel
theorem dX10_readOne_158 : decode cX10_readOne 158 = .ok (.bipush 42, 2) := by decide +kernel
theorem dX10_readOne_160 : decode cX10_readOne 160 = .ok (.if_icmp .eq 21, 3) := by decide +kernel
theorem dX10_readOne_163 : decode cX10_readOne 163 = .ok (.iload_n 1, 1) := by decide +kernel
theorem dX10_readOne_164 : decode cX10_readOne 164 = .ok (.bipush 43, 2) := by decide +kernel
theorem dX10_readOne_166 : decode cX10_readOne 166 = .ok (.if_icmp .eq 15, 3) := by decide +kernel
theorem dX10_readOne_169 : decode cX10_readOne 169 = .ok (.iload_n 1, 1) := by decide +kernel
theorem dX10_readOne_170 : decode cX10_readOne 170 = .ok (.bipush 63, 2) := by decide +kernel
theorem dX10_readOne_172 : decode cX10_readOne 172 = .ok (.if_icmp .eq 9, 3) := by decide +kernel
theorem dX10_readOne_175 : decode cX10_readOne 175 = .ok (.iload_n 1, 1) := by decide +kernel
theorem dX10_readOne_176 : decode cX10_readOne 176 = .ok (.bipush 123, 2) := by decide +kernel
theorem dX10_readOne_178 : decode cX10_readOne 178 = .ok (.if_icmp .ne 11, 3) := by decide +kernel
theorem dX10_readOne_181 : decode cX10_readOne 181 = .ok (.aload_n 0, 1) := by decide +kernel
theorem dX10_readOne_182 : decode cX10_readOne 182 = .ok (.iload_n 1, 1) := by decide +kernel
theorem dX10_readOne_183 : decode cX10_readOne 183 = .ok (.invokevirtual 201, 3) := by decide +kernel
theorem dX10_readOne_186 : decode cX10_readOne 186 = .ok (.goto 14, 3) := by decide +kernel
theorem dX10_readOne_189 : decode cX10_readOne 189 = .ok (.aload_n 0, 1) := by decide +kernel
theorem dX10_readOne_190 : decode cX10_readOne 190 = .ok (.iconst 1, 1) := by decide +kernel
theorem dX10_readOne_191 : decode cX10_readOne 191 = .ok (.aload_n 0, 1) := by decide +kernel
theorem dX10_readOne_192 : decode cX10_readOne 192 = .ok (.getfield 127, 3) := by decide +kernel
theorem dX10_readOne_195 : decode cX10_readOne 195 = .ok (.iconst 1, 1) := by decide +kernel
theorem dX10_readOne_196 : decode cX10_readOne 196 = .ok (.isub, 1) := by decide +kernel
theorem dX10_readOne_197 : decode cX10_readOne 197 = .ok (.invokevirtual 130, 3) := by decide +kernel
theorem dX10_readOne_200 : decode cX10_readOne 200 = .ok (.return_, 1) := by decide +kernel
theorem dX10_copy_0 : decode cX10_copy 0 = .ok (.aload_n 0, 1) := by decide +kernel
theorem dX10_copy_1 : decode cX10_copy 1 = .ok (.getfield 20, 3) := by decide +kernel
theorem dX10_copy_4 : decode cX10_copy 4 = .ok (.iload_n 2, 1) := by decide +kernel
theorem dX10_copy_5 : decode cX10_copy 5 = .ok (.iconst 1, 1) := by decide +kernel
theorem dX10_copy_6 : decode cX10_copy 6 = .ok (.bastore, 1) := by decide +kernel
theorem dX10_copy_7 : decode cX10_copy 7 = .ok (.aload_n 0, 1) := by decide +kernel
theorem dX10_copy_8 : decode cX10_copy 8 = .ok (.getfield 24, 3) := by decide +kernel
theorem dX10_copy_11 : decode cX10_copy 11 = .ok (.iload_n 2, 1) := by decide +kernel
theorem dX10_copy_12 : decode cX10_copy 12 = .ok (.aload_n 0, 1) := by decide +kernel
theorem dX10_copy_13 : decode cX10_copy 13 = .ok (.getfield 24, 3) := by decide +kernel
theorem dX10_copy_16 : decode cX10_copy 16 = .ok (.iload_n 1, 1) := by decide +kernel
theorem dX10_copy_17 : decode cX10_copy 17 = .ok (.iaload, 1) := by decide +kernel
theorem dX10_copy_18 : decode cX10_copy 18 = .ok (.iastore, 1) := by decide +kernel
theorem dX10_copy_19 : decode cX10_copy 19 = .ok (.aload_n 0, 1) := by decide +kernel
theorem dX10_copy_20 : decode cX10_copy 20 = .ok (.getfield 27, 3) := by decide +kernel
theorem dX10_copy_23 : decode cX10_copy 23 = .ok (.iload_n 2, 1) := by decide +kernel
theorem dX10_copy_24 : decode cX10_copy 24 = .ok (.aload_n 0, 1) := by decide +kernel
theorem dX10_copy_25 : decode cX10_copy 25 = .ok (.getfield 27, 3) := by decide +kernel
theorem dX10_copy_28 : decode cX10_copy 28 = .ok (.iload_n 1, 1) := by decide +kernel
theorem dX10_copy_29 : decode cX10_copy 29 = .ok (.baload, 1) := by decide +kernel
theorem dX10_copy_30 : decode cX10_copy 30 = .ok (.bastore, 1) := by decide +kernel
theorem dX10_copy_31 : decode cX10_copy 31 = .ok (.aload_n 0, 1) := by decide +kernel
theorem dX10_copy_32 : decode cX10_copy 32 = .ok (.getfield 30, 3) := by decide +kernel
theorem dX10_copy_35 : decode cX10_copy 35 = .ok (.iload_n 2, 1) := by decide +kernel
theorem dX10_copy_36 : decode cX10_copy 36 = .ok (.aload_n 0, 1) := by decide +kernel
theorem dX10_copy_37 : decode cX10_copy 37 = .ok (.getfield 30, 3) := by decide +kernel
theorem dX10_copy_40 : decode cX10_copy 40 = .ok (.iload_n 1, 1) := by decide +kernel
theorem dX10_copy_41 : decode cX10_copy 41 = .ok (.laload, 1) := by decide +kernel
theorem dX10_copy_42 : decode cX10_copy 42 = .ok (.lastore, 1) := by decide +kernel
theorem dX10_copy_43 : decode cX10_copy 43 = .ok (.aload_n 0, 1) := by decide +kernel
theorem dX10_copy_44 : decode cX10_copy 44 = .ok (.getfield 34, 3) := by decide +kernel
theorem dX10_copy_47 : decode cX10_copy 47 = .ok (.iload_n 2, 1) := by decide +kernel
theorem dX10_copy_48 : decode cX10_copy 48 = .ok (.aload_n 0, 1) := by decide +kernel
theorem dX10_copy_49 : decode cX10_copy 49 = .ok (.getfield 34, 3) := by decide +kernel
theorem dX10_copy_52 : decode cX10_copy 52 = .ok (.iload_n 1, 1) := by decide +kernel
theorem dX10_copy_53 : decode cX10_copy 53 = .ok (.laload, 1) := by decide +kernel
theorem dX10_copy_54 : decode cX10_copy 54 = .ok (.lastore, 1) := by decide +kernel
theorem dX10_copy_55 : decode cX10_copy 55 = .ok (.iconst 0, 1) := by decide +kernel
theorem dX10_copy_56 : decode cX10_copy 56 = .ok (.istore_n 3, 1) := by decide +kernel
theorem dX10_copy_57 : decode cX10_copy 57 = .ok (.iload_n 3, 1) := by decide +kernel
theorem dX10_copy_58 : decode cX10_copy 58 = .ok (.bipush 60, 2) := by decide +kernel
theorem dX10_copy_60 : decode cX10_copy 60 = .ok (.if_icmp .ge 53, 3) := by decide +kernel
theorem dX10_copy_63 : decode cX10_copy 63 = .ok (.aload_n 0, 1) := by decide +kernel
theorem dX10_copy_64 : decode cX10_copy 64 = .ok (.getfield 37, 3) := by decide +kernel
theorem dX10_copy_67 : decode cX10_copy 67 = .ok (.bipush 60, 2) := by decide +kernel
theorem dX10_copy_69 : decode cX10_copy 69 = .ok (.iload_n 2, 1) := by decide +kernel
theorem dX10_copy_70 : decode cX10_copy 70 = .ok (.imul, 1) := by decide +kernel
theorem dX10_copy_71 : decode cX10_copy 71 = .ok (.iload_n 3, 1) := by decide +kernel
theorem dX10_copy_72 : decode cX10_copy 72 = .ok (.iadd, 1) := by decide +kernel
theorem dX10_copy_73 : decode cX10_copy 73 = .ok (.aload_n 0, 1) := by decide +kernel
theorem dX10_copy_74 : decode cX10_copy 74 = .ok (.getfield 37, 3) := by decide +kernel
theorem dX10_copy_77 : decode cX10_copy 77 = .ok (.bipush 60, 2) := by decide +kernel
theorem dX10_copy_79 : decode cX10_copy 79 = .ok (.iload_n 1, 1) := by decide +kernel
theorem dX10_copy_80 : decode cX10_copy 80 = .ok (.imul, 1) := by decide +kernel
theorem dX10_copy_81 : decode cX10_copy 81 = .ok (.iload_n 3, 1) := by decide +kernel
theorem dX10_copy_82 : decode cX10_copy 82 = .ok (.iadd, 1) := by decide +kernel
theorem dX10_copy_83 : decode cX10_copy 83 = .ok (.laload, 1) := by decide +kernel
theorem dX10_copy_84 : decode cX10_copy 84 = .ok (.lastore, 1) := by decide +kernel
theorem dX10_copy_85 : decode cX10_copy 85 = .ok (.aload_n 0, 1) := by decide +kernel
theorem dX10_copy_86 : decode cX10_copy 86 = .ok (.getfield 40, 3) := by decide +kernel
theorem dX10_copy_89 : decode cX10_copy 89 = .ok (.bipush 60, 2) := by decide +kernel
theorem dX10_copy_91 : decode cX10_copy 91 = .ok (.iload_n 2, 1) := by decide +kernel
theorem dX10_copy_92 : decode cX10_copy 92 = .ok (.imul, 1) := by decide +kernel
theorem dX10_copy_93 : decode cX10_copy 93 = .ok (.iload_n 3, 1) := by decide +kernel
theorem dX10_copy_94 : decode cX10_copy 94 = .ok (.iadd, 1) := by decide +kernel
theorem dX10_copy_95 : decode cX10_copy 95 = .ok (.aload_n 0, 1) := by decide +kernel
theorem dX10_copy_96 : decode cX10_copy 96 = .ok (.getfield 40, 3) := by decide +kernel
theorem dX10_copy_99 : decode cX10_copy 99 = .ok (.bipush 60, 2) := by decide +kernel
theorem dX10_copy_101 : decode cX10_copy 101 = .ok (.iload_n 1, 1) := by decide +kernel
theorem dX10_copy_102 : decode cX10_copy 102 = .ok (.imul, 1) := by decide +kernel
theorem dX10_copy_103 : decode cX10_copy 103 = .ok (.iload_n 3, 1) := by decide +kernel
theorem dX10_copy_104 : decode cX10_copy 104 = .ok (.iadd, 1) := by decide +kernel
theorem dX10_copy_105 : decode cX10_copy 105 = .ok (.laload, 1) := by decide +kernel
theorem dX10_copy_106 : decode cX10_copy 106 = .ok (.lastore, 1) := by decide +kernel
theorem dX10_copy_107 : decode cX10_copy 107 = .ok (.iinc 3 1, 3) := by decide +kernel
theorem dX10_copy_110 : decode cX10_copy 110 = .ok (.goto (-53), 3) := by decide +kernel
theorem dX10_copy_113 : decode cX10_copy 113 = .ok (.return_, 1) := by decide +kernel
theorem dX10_read_0 : decode cX10_read 0 = .ok (.aload_n 0, 1) := by decide +kernel
theorem dX10_read_1 : decode cX10_read 1 = .ok (.iconst 0, 1) := by decide +kernel
theorem dX10_read_2 : decode cX10_read 2 = .ok (.putfield 116, 3) := by decide +kernel
theorem dX10_read_5 : decode cX10_read 5 = .ok (.aload_n 0, 1) := by decide +kernel
theorem dX10_read_6 : decode cX10_read 6 = .ok (.iconst 0, 1) := by decide +kernel
theorem dX10_read_7 : decode cX10_read 7 = .ok (.putfield 127, 3) := by decide +kernel
theorem dX10_read_10 : decode cX10_read 10 = .ok (.aload_n 0, 1) := by decide +kernel
theorem dX10_read_11 : decode cX10_read 11 = .ok (.iconst 0, 1) := by decide +kernel
theorem dX10_read_12 : decode cX10_read 12 = .ok (.putfield 124, 3) := by decide +kernel
theorem dX10_read_15 : decode cX10_read 15 = .ok (.aload_n 0, 1) := by decide +kernel
theorem dX10_read_16 : decode cX10_read 16 = .ok (.iconst (-1), 1) := by decide +kernel
theorem dX10_read_17 : decode cX10_read 17 = .ok (.putfield 16, 3) := by decide +kernel
theorem dX10_read_20 : decode cX10_read 20 = .ok (.aload_n 0, 1) := by decide +kernel
theorem dX10_read_21 : decode cX10_read 21 = .ok (.iconst 0, 1) := by decide +kernel
theorem dX10_read_22 : decode cX10_read 22 = .ok (.putfield 134, 3) := by decide +kernel
theorem dX10_read_25 : decode cX10_read 25 = .ok (.aload_n 0, 1) := by decide +kernel
theorem dX10_read_26 : decode cX10_read 26 = .ok (.iconst 0, 1) := by decide +kernel
theorem dX10_read_27 : decode cX10_read 27 = .ok (.putfield 137, 3) := by decide +kernel
theorem dX10_read_30 : decode cX10_read 30 = .ok (.aload_n 0, 1) := by decide +kernel
theorem dX10_read_31 : decode cX10_read 31 = .ok (.invokevirtual 195, 3) := by decide +kernel
theorem dX10_read_34 : decode cX10_read 34 = .ok (.aload_n 0, 1) := by decide +kernel
theorem dX10_read_35 : decode cX10_read 35 = .ok (.getfield 127, 3) := by decide +kernel
theorem dX10_read_38 : decode cX10_read 38 = .ok (.aload_n 0, 1) := by decide +kernel
theorem dX10_read_39 : decode cX10_read 39 = .ok (.getfield 119, 3) := by decide +kernel
theorem dX10_read_42 : decode cX10_read 42 = .ok (.if_icmp .ge 17, 3) := by decide +kernel
theorem dX10_read_45 : decode cX10_read 45 = .ok (.aload_n 0, 1) := by decide +kernel
theorem dX10_read_46 : decode cX10_read 46 = .ok (.getfield 124, 3) := by decide +kernel
theorem dX10_read_49 : decode cX10_read 49 = .ok (.ifCond .ne 10, 3) := by decide +kernel
theorem dX10_read_52 : decode cX10_read 52 = .ok (.aload_n 0, 1) := by decide +kernel
theorem dX10_read_53 : decode cX10_read 53 = .ok (.invokevirtual 205, 3) := by decide +kernel
theorem dX10_read_56 : decode cX10_read 56 = .ok (.goto (-22), 3) := by decide +kernel
theorem dX10_read_59 : decode cX10_read 59 = .ok (.aload_n 0, 1) := by decide +kernel
theorem dX10_read_60 : decode cX10_read 60 = .ok (.getfield 134, 3) := by decide +kernel
theorem dX10_read_63 : decode cX10_read 63 = .ok (.ifCond .le 12, 3) := by decide +kernel
theorem dX10_read_66 : decode cX10_read 66 = .ok (.aload_n 0, 1) := by decide +kernel
theorem dX10_read_67 : decode cX10_read 67 = .ok (.iconst 2, 1) := by decide +kernel
theorem dX10_read_68 : decode cX10_read 68 = .ok (.aload_n 0, 1) := by decide +kernel
theorem dX10_read_69 : decode cX10_read 69 = .ok (.getfield 119, 3) := by decide +kernel
theorem dX10_read_72 : decode cX10_read 72 = .ok (.invokevirtual 130, 3) := by decide +kernel
theorem dX10_read_75 : decode cX10_read 75 = .ok (.aload_n 0, 1) := by decide +kernel
theorem dX10_read_76 : decode cX10_read 76 = .ok (.iconst 0, 1) := by decide +kernel
theorem dX10_read_77 : decode cX10_read 77 = .ok (.putfield 119, 3) := by decide +kernel
theorem dX10_read_80 : decode cX10_read 80 = .ok (.aload_n 0, 1) := by decide +kernel
theorem dX10_read_81 : decode cX10_read 81 = .ok (.getfield 124, 3) := by decide +kernel
theorem dX10_read_84 : decode cX10_read 84 = .ok (.ifCond .le 8, 3) := by decide +kernel
theorem dX10_read_87 : decode cX10_read 87 = .ok (.aload_n 0, 1) := by decide +kernel
theorem dX10_read_88 : decode cX10_read 88 = .ok (.getfield 124, 3) := by decide +kernel
theorem dX10_read_91 : decode cX10_read 91 = .ok (.ireturn, 1) := by decide +kernel
theorem dX10_read_92 : decode cX10_read 92 = .ok (.aload_n 0, 1) := by decide +kernel
theorem dX10_read_93 : decode cX10_read 93 = .ok (.invokevirtual 189, 3) := by decide +kernel
theorem dX10_read_96 : decode cX10_read 96 = .ok (.aload_n 0, 1) := by decide +kernel
theorem dX10_read_97 : decode cX10_read 97 = .ok (.getfield 24, 3) := by decide +kernel
theorem dX10_read_100 : decode cX10_read 100 = .ok (.iconst 2, 1) := by decide +kernel
theorem dX10_read_101 : decode cX10_read 101 = .ok (.aload_n 0, 1) := by decide +kernel
theorem dX10_read_102 : decode cX10_read 102 = .ok (.getfield 137, 3) := by decide +kernel
theorem dX10_read_105 : decode cX10_read 105 = .ok (.iastore, 1) := by decide +kernel
theorem dX10_read_106 : decode cX10_read 106 = .ok (.aload_n 0, 1) := by decide +kernel
theorem dX10_read_107 : decode cX10_read 107 = .ok (.getfield 27, 3) := by decide +kernel
theorem dX10_read_110 : decode cX10_read 110 = .ok (.iconst 2, 1) := by decide +kernel
theorem dX10_read_111 : decode cX10_read 111 = .ok (.aload_n 0, 1) := by decide +kernel
theorem dX10_read_112 : decode cX10_read 112 = .ok (.getfield 67, 3) := by decide +kernel
theorem dX10_read_115 : decode cX10_read 115 = .ok (.iconst 0, 1) := by decide +kernel
theorem dX10_read_116 : decode cX10_read 116 = .ok (.baload, 1) := by decide +kernel
theorem dX10_read_117 : decode cX10_read 117 = .ok (.bastore, 1) := by decide +kernel
theorem dX10_read_118 : decode cX10_read 118 = .ok (.aload_n 0, 1) := by decide +kernel
theorem dX10_read_119 : decode cX10_read 119 = .ok (.getfield 30, 3) := by decide +kernel
theorem dX10_read_122 : decode cX10_read 122 = .ok (.iconst 2, 1) := by decide +kernel
theorem dX10_read_123 : decode cX10_read 123 = .ok (.aload_n 0, 1) := by decide +kernel
theorem dX10_read_124 : decode cX10_read 124 = .ok (.getfield 70, 3) := by decide +kernel
theorem dX10_read_127 : decode cX10_read 127 = .ok (.iconst 0, 1) := by decide +kernel
theorem dX10_read_128 : decode cX10_read 128 = .ok (.laload, 1) := by decide +kernel
theorem dX10_read_129 : decode cX10_read 129 = .ok (.lastore, 1) := by decide +kernel
theorem dX10_read_130 : decode cX10_read 130 = .ok (.aload_n 0, 1) := by decide +kernel
theorem dX10_read_131 : decode cX10_read 131 = .ok (.getfield 34, 3) := by decide +kernel
theorem dX10_read_134 : decode cX10_read 134 = .ok (.iconst 2, 1) := by decide +kernel
theorem dX10_read_135 : decode cX10_read 135 = .ok (.aload_n 0, 1) := by decide +kernel
theorem dX10_read_136 : decode cX10_read 136 = .ok (.getfield 73, 3) := by decide +kernel
theorem dX10_read_139 : decode cX10_read 139 = .ok (.iconst 0, 1) := by decide +kernel
theorem dX10_read_140 : decode cX10_read 140 = .ok (.laload, 1) := by decide +kernel
theorem dX10_read_141 : decode cX10_read 141 = .ok (.lastore, 1) := by decide +kernel
theorem dX10_read_142 : decode cX10_read 142 = .ok (.aload_n 0, 1) := by decide +kernel
theorem dX10_read_143 : decode cX10_read 143 = .ok (.iconst 2, 1) := by decide +kernel
theorem dX10_read_144 : decode cX10_read 144 = .ok (.iconst 0, 1) := by decide +kernel
theorem dX10_read_145 : decode cX10_read 145 = .ok (.invokevirtual 208, 3) := by decide +kernel
theorem dX10_read_148 : decode cX10_read 148 = .ok (.iconst 0, 1) := by decide +kernel
theorem dX10_read_149 : decode cX10_read 149 = .ok (.ireturn, 1) := by decide +kernel
theorem dX10_place_0 : decode cX10_place 0 = .ok (.aload_n 0, 1) := by decide +kernel
theorem dX10_place_1 : decode cX10_place 1 = .ok (.iconst 0, 1) := by decide +kernel
theorem dX10_place_2 : decode cX10_place 2 = .ok (.putfield 116, 3) := by decide +kernel
theorem dX10_place_5 : decode cX10_place 5 = .ok (.aload_n 0, 1) := by decide +kernel
theorem dX10_place_6 : decode cX10_place 6 = .ok (.getfield 16, 3) := by decide +kernel
theorem dX10_place_9 : decode cX10_place 9 = .ok (.ireturn, 1) := by decide +kernel
theorem dX10_none_0 : decode cX10_none 0 = .ok (.aload_n 0, 1) := by decide +kernel
theorem dX10_none_1 : decode cX10_none 1 = .ok (.aload_n 0, 1) := by decide +kernel
theorem dX10_none_2 : decode cX10_none 2 = .ok (.getfield 20, 3) := by decide +kernel
theorem dX10_none_5 : decode cX10_none 5 = .ok (.iconst 0, 1) := by decide +kernel
theorem dX10_none_6 : decode cX10_none 6 = .ok (.baload, 1) := by decide +kernel
theorem dX10_none_7 : decode cX10_none 7 = .ok (.ifCond .eq 7, 3) := by decide +kernel
theorem dX10_none_10 : decode cX10_none 10 = .ok (.iconst 0, 1) := by decide +kernel
theorem dX10_none_11 : decode cX10_none 11 = .ok (.goto 4, 3) := by decide +kernel
theorem dX10_none_14 : decode cX10_none 14 = .ok (.iconst 1, 1) := by decide +kernel
theorem dX10_none_15 : decode cX10_none 15 = .ok (.putfield 116, 3) := by decide +kernel
theorem dX10_none_18 : decode cX10_none 18 = .ok (.aload_n 0, 1) := by decide +kernel
theorem dX10_none_19 : decode cX10_none 19 = .ok (.getfield 116, 3) := by decide +kernel
theorem dX10_none_22 : decode cX10_none 22 = .ok (.ifCond .le 7, 3) := by decide +kernel
theorem dX10_none_25 : decode cX10_none 25 = .ok (.iconst 1, 1) := by decide +kernel
theorem dX10_none_26 : decode cX10_none 26 = .ok (.goto 4, 3) := by decide +kernel
theorem dX10_none_29 : decode cX10_none 29 = .ok (.iconst 0, 1) := by decide +kernel
theorem dX10_none_30 : decode cX10_none 30 = .ok (.ireturn, 1) := by decide +kernel
theorem dX10_positions_0 : decode cX10_positions 0 = .ok (.aload_n 0, 1) := by decide +kernel
theorem dX10_positions_1 : decode cX10_positions 1 = .ok (.invokevirtual 211, 3) := by decide +kernel
theorem dX10_positions_4 : decode cX10_positions 4 = .ok (.ifCond .eq 7, 3) := by decide +kernel
theorem dX10_positions_7 : decode cX10_positions 7 = .ok (.iconst 0, 1) := by decide +kernel
theorem dX10_positions_8 : decode cX10_positions 8 = .ok (.goto 9, 3) := by decide +kernel
theorem dX10_positions_11 : decode cX10_positions 11 = .ok (.aload_n 0, 1) := by decide +kernel
theorem dX10_positions_12 : decode cX10_positions 12 = .ok (.getfield 24, 3) := by decide +kernel
theorem dX10_positions_15 : decode cX10_positions 15 = .ok (.iconst 0, 1) := by decide +kernel
theorem dX10_positions_16 : decode cX10_positions 16 = .ok (.iaload, 1) := by decide +kernel
theorem dX10_positions_17 : decode cX10_positions 17 = .ok (.ireturn, 1) := by decide +kernel
theorem dX10_empty_0 : decode cX10_empty 0 = .ok (.aload_n 0, 1) := by decide +kernel
theorem dX10_empty_1 : decode cX10_empty 1 = .ok (.invokevirtual 211, 3) := by decide +kernel
theorem dX10_empty_4 : decode cX10_empty 4 = .ok (.ifCond .ne 16, 3) := by decide +kernel
theorem dX10_empty_7 : decode cX10_empty 7 = .ok (.aload_n 0, 1) := by decide +kernel
theorem dX10_empty_8 : decode cX10_empty 8 = .ok (.getfield 27, 3) := by decide +kernel
theorem dX10_empty_11 : decode cX10_empty 11 = .ok (.iconst 0, 1) := by decide +kernel
theorem dX10_empty_12 : decode cX10_empty 12 = .ok (.baload, 1) := by decide +kernel
theorem dX10_empty_13 : decode cX10_empty 13 = .ok (.ifCond .eq 7, 3) := by decide +kernel
theorem dX10_empty_16 : decode cX10_empty 16 = .ok (.iconst 1, 1) := by decide +kernel
theorem dX10_empty_17 : decode cX10_empty 17 = .ok (.goto 4, 3) := by decide +kernel
theorem dX10_empty_20 : decode cX10_empty 20 = .ok (.iconst 0, 1) := by decide +kernel
theorem dX10_empty_21 : decode cX10_empty 21 = .ok (.ireturn, 1) := by decide +kernel
theorem dX10_noPosition_0 : decode cX10_noPosition 0 = .ok (.aload_n 0, 1) := by decide +kernel
theorem dX10_noPosition_1 : decode cX10_noPosition 1 = .ok (.aload_n 0, 1) := by decide +kernel
theorem dX10_noPosition_2 : decode cX10_noPosition 2 = .ok (.getfield 20, 3) := by decide +kernel
theorem dX10_noPosition_5 : decode cX10_noPosition 5 = .ok (.iconst 0, 1) := by decide +kernel
theorem dX10_noPosition_6 : decode cX10_noPosition 6 = .ok (.baload, 1) := by decide +kernel
theorem dX10_noPosition_7 : decode cX10_noPosition 7 = .ok (.ifCond .ne 7, 3) := by decide +kernel
theorem dX10_noPosition_10 : decode cX10_noPosition 10 = .ok (.iconst 1, 1) := by decide +kernel
theorem dX10_noPosition_11 : decode cX10_noPosition 11 = .ok (.goto 22, 3) := by decide +kernel
theorem dX10_noPosition_14 : decode cX10_noPosition 14 = .ok (.iload_n 1, 1) := by decide +kernel
theorem dX10_noPosition_15 : decode cX10_noPosition 15 = .ok (.ifCond .lt 13, 3) := by decide +kernel
theorem dX10_noPosition_18 : decode cX10_noPosition 18 = .ok (.iload_n 1, 1) := by decide +kernel
theorem dX10_noPosition_19 : decode cX10_noPosition 19 = .ok (.aload_n 0, 1) := by decide +kernel
theorem dX10_noPosition_20 : decode cX10_noPosition 20 = .ok (.getfield 24, 3) := by decide +kernel
theorem dX10_noPosition_23 : decode cX10_noPosition 23 = .ok (.iconst 0, 1) := by decide +kernel
theorem dX10_noPosition_24 : decode cX10_noPosition 24 = .ok (.iaload, 1) := by decide +kernel
theorem dX10_noPosition_25 : decode cX10_noPosition 25 = .ok (.if_icmp .lt 7, 3) := by decide +kernel
theorem dX10_noPosition_28 : decode cX10_noPosition 28 = .ok (.iconst 2, 1) := by decide +kernel
theorem dX10_noPosition_29 : decode cX10_noPosition 29 = .ok (.goto 4, 3) := by decide +kernel
theorem dX10_noPosition_32 : decode cX10_noPosition 32 = .ok (.iconst 0, 1) := by decide +kernel
theorem dX10_noPosition_33 : decode cX10_noPosition 33 = .ok (.putfield 116, 3) := by decide +kernel
theorem dX10_noPosition_36 : decode cX10_noPosition 36 = .ok (.aload_n 0, 1) := by decide +kernel
theorem dX10_noPosition_37 : decode cX10_noPosition 37 = .ok (.getfield 116, 3) := by decide +kernel
theorem dX10_noPosition_40 : decode cX10_noPosition 40 = .ok (.ifCond .le 7, 3) := by decide +kernel
theorem dX10_noPosition_43 : decode cX10_noPosition 43 = .ok (.iconst 1, 1) := by decide +kernel
theorem dX10_noPosition_44 : decode cX10_noPosition 44 = .ok (.goto 4, 3) := by decide +kernel
theorem dX10_noPosition_47 : decode cX10_noPosition 47 = .ok (.iconst 0, 1) := by decide +kernel
theorem dX10_noPosition_48 : decode cX10_noPosition 48 = .ok (.ireturn, 1) := by decide +kernel
theorem dX10_is_0 : decode cX10_is 0 = .ok (.aload_n 0, 1) := by decide +kernel
theorem dX10_is_1 : decode cX10_is 1 = .ok (.iload_n 1, 1) := by decide +kernel
theorem dX10_is_2 : decode cX10_is 2 = .ok (.invokevirtual 215, 3) := by decide +kernel
theorem dX10_is_5 : decode cX10_is 5 = .ok (.ifCond .eq 5, 3) := by decide +kernel
theorem dX10_is_8 : decode cX10_is 8 = .ok (.iconst 0, 1) := by decide +kernel
theorem dX10_is_9 : decode cX10_is 9 = .ok (.ireturn, 1) := by decide +kernel
theorem dX10_is_10 : decode cX10_is 10 = .ok (.aload_n 0, 1) := by decide +kernel
theorem dX10_is_11 : decode cX10_is 11 = .ok (.iload_n 2, 1) := by decide +kernel
theorem dX10_is_12 : decode cX10_is 12 = .ok (.ifCond .lt 8, 3) := by decide +kernel
theorem dX10_is_15 : decode cX10_is 15 = .ok (.iload_n 2, 1) := by decide +kernel
theorem dX10_is_16 : decode cX10_is 16 = .ok (.iconst 1, 1) := by decide +kernel
theorem dX10_is_17 : decode cX10_is 17 = .ok (.if_icmp .le 7, 3) := by decide +kernel
theorem dX10_is_20 : decode cX10_is 20 = .ok (.iconst 3, 1) := by decide +kernel
theorem dX10_is_21 : decode cX10_is 21 = .ok (.goto 4, 3) := by decide +kernel
theorem dX10_is_24 : decode cX10_is 24 = .ok (.iconst 0, 1) := by decide +kernel
theorem dX10_is_25 : decode cX10_is 25 = .ok (.putfield 116, 3) := by decide +kernel
theorem dX10_is_28 : decode cX10_is 28 = .ok (.aload_n 0, 1) := by decide +kernel
theorem dX10_is_29 : decode cX10_is 29 = .ok (.getfield 116, 3) := by decide +kernel
theorem dX10_is_32 : decode cX10_is 32 = .ok (.ifCond .ne 33, 3) := by decide +kernel
theorem dX10_is_35 : decode cX10_is 35 = .ok (.iload_n 2, 1) := by decide +kernel
theorem dX10_is_36 : decode cX10_is 36 = .ok (.ifCond .ne 12, 3) := by decide +kernel
theorem dX10_is_39 : decode cX10_is 39 = .ok (.aload_n 0, 1) := by decide +kernel
theorem dX10_is_40 : decode cX10_is 40 = .ok (.getfield 30, 3) := by decide +kernel
theorem dX10_is_43 : decode cX10_is 43 = .ok (.iconst 0, 1) := by decide +kernel
theorem dX10_is_44 : decode cX10_is 44 = .ok (.laload, 1) := by decide +kernel
theorem dX10_is_45 : decode cX10_is 45 = .ok (.goto 9, 3) := by decide +kernel
theorem dX10_is_48 : decode cX10_is 48 = .ok (.aload_n 0, 1) := by decide +kernel
theorem dX10_is_49 : decode cX10_is 49 = .ok (.getfield 34, 3) := by decide +kernel
theorem dX10_is_52 : decode cX10_is 52 = .ok (.iconst 0, 1) := by decide +kernel
theorem dX10_is_53 : decode cX10_is 53 = .ok (.laload, 1) := by decide +kernel
theorem dX10_is_54 : decode cX10_is 54 = .ok (.iload_n 1, 1) := by decide +kernel
theorem dX10_is_55 : decode cX10_is 55 = .ok (.invokestatic 143, 3) := by decide +kernel
theorem dX10_is_58 : decode cX10_is 58 = .ok (.ifCond .eq 7, 3) := by decide +kernel
theorem dX10_is_61 : decode cX10_is 61 = .ok (.iconst 1, 1) := by decide +kernel
theorem dX10_is_62 : decode cX10_is 62 = .ok (.goto 4, 3) := by decide +kernel
theorem dX10_is_65 : decode cX10_is 65 = .ok (.iconst 0, 1) := by decide +kernel
theorem dX10_is_66 : decode cX10_is 66 = .ok (.ireturn, 1) := by decide +kernel
theorem dX10_follows_0 : decode cX10_follows 0 = .ok (.aload_n 0, 1) := by decide +kernel
theorem dX10_follows_1 : decode cX10_follows 1 = .ok (.iload_n 1, 1) := by decide +kernel
theorem dX10_follows_2 : decode cX10_follows 2 = .ok (.invokevirtual 215, 3) := by decide +kernel
theorem dX10_follows_5 : decode cX10_follows 5 = .ok (.ifCond .ne 28, 3) := by decide +kernel
theorem dX10_follows_8 : decode cX10_follows 8 = .ok (.aload_n 0, 1) := by decide +kernel
theorem dX10_follows_9 : decode cX10_follows 9 = .ok (.iload_n 2, 1) := by decide +kernel
theorem dX10_follows_10 : decode cX10_follows 10 = .ok (.invokevirtual 215, 3) := by decide +kernel
theorem dX10_follows_13 : decode cX10_follows 13 = .ok (.ifCond .ne 20, 3) := by decide +kernel
theorem dX10_follows_16 : decode cX10_follows 16 = .ok (.aload_n 0, 1) := by decide +kernel
theorem dX10_follows_17 : decode cX10_follows 17 = .ok (.getfield 37, 3) := by decide +kernel
theorem dX10_follows_20 : decode cX10_follows 20 = .ok (.iload_n 1, 1) := by decide +kernel
theorem dX10_follows_21 : decode cX10_follows 21 = .ok (.laload, 1) := by decide +kernel
theorem dX10_follows_22 : decode cX10_follows 22 = .ok (.iload_n 2, 1) := by decide +kernel
theorem dX10_follows_23 : decode cX10_follows 23 = .ok (.invokestatic 143, 3) := by decide +kernel
theorem dX10_follows_26 : decode cX10_follows 26 = .ok (.ifCond .eq 7, 3) := by decide +kernel
theorem dX10_follows_29 : decode cX10_follows 29 = .ok (.iconst 1, 1) := by decide +kernel
theorem dX10_follows_30 : decode cX10_follows 30 = .ok (.goto 4, 3) := by decide +kernel
theorem dX10_follows_33 : decode cX10_follows 33 = .ok (.iconst 0, 1) := by decide +kernel
theorem dX10_follows_34 : decode cX10_follows 34 = .ok (.ireturn, 1) := by decide +kernel
theorem dX10_has_0 : decode cX10_has 0 = .ok (.aload_n 0, 1) := by decide +kernel
theorem dX10_has_1 : decode cX10_has 1 = .ok (.iload_n 1, 1) := by decide +kernel
theorem dX10_has_2 : decode cX10_has 2 = .ok (.invokevirtual 215, 3) := by decide +kernel
theorem dX10_has_5 : decode cX10_has 5 = .ok (.ifCond .eq 5, 3) := by decide +kernel
theorem dX10_has_8 : decode cX10_has 8 = .ok (.iconst 0, 1) := by decide +kernel
theorem dX10_has_9 : decode cX10_has 9 = .ok (.ireturn, 1) := by decide +kernel
theorem dX10_has_10 : decode cX10_has 10 = .ok (.aload_n 0, 1) := by decide +kernel
theorem dX10_has_11 : decode cX10_has 11 = .ok (.iload_n 2, 1) := by decide +kernel
theorem dX10_has_12 : decode cX10_has 12 = .ok (.ifCond .lt 9, 3) := by decide +kernel
theorem dX10_has_15 : decode cX10_has 15 = .ok (.iload_n 2, 1) := by decide +kernel
theorem dX10_has_16 : decode cX10_has 16 = .ok (.bipush 36, 2) := by decide +kernel
theorem dX10_has_18 : decode cX10_has 18 = .ok (.if_icmp .lt 7, 3) := by decide +kernel
theorem dX10_has_21 : decode cX10_has 21 = .ok (.iconst 2, 1) := by decide +kernel
theorem dX10_has_22 : decode cX10_has 22 = .ok (.goto 4, 3) := by decide +kernel
theorem dX10_has_25 : decode cX10_has 25 = .ok (.iconst 0, 1) := by decide +kernel
theorem dX10_has_26 : decode cX10_has 26 = .ok (.putfield 116, 3) := by decide +kernel
theorem dX10_has_29 : decode cX10_has 29 = .ok (.aload_n 0, 1) := by decide +kernel
theorem dX10_has_30 : decode cX10_has 30 = .ok (.getfield 116, 3) := by decide +kernel
theorem dX10_has_33 : decode cX10_has 33 = .ok (.ifCond .ne 20, 3) := by decide +kernel
theorem dX10_has_36 : decode cX10_has 36 = .ok (.aload_n 0, 1) := by decide +kernel
theorem dX10_has_37 : decode cX10_has 37 = .ok (.getfield 40, 3) := by decide +kernel
theorem dX10_has_40 : decode cX10_has 40 = .ok (.iload_n 1, 1) := by decide +kernel
theorem dX10_has_41 : decode cX10_has 41 = .ok (.laload, 1) := by decide +kernel
theorem dX10_has_42 : decode cX10_has 42 = .ok (.iload_n 2, 1) := by decide +kernel
theorem dX10_has_43 : decode cX10_has 43 = .ok (.invokestatic 143, 3) := by decide +kernel
theorem dX10_has_46 : decode cX10_has 46 = .ok (.ifCond .eq 7, 3) := by decide +kernel
theorem dX10_has_49 : decode cX10_has 49 = .ok (.iconst 1, 1) := by decide +kernel
theorem dX10_has_50 : decode cX10_has 50 = .ok (.goto 4, 3) := by decide +kernel
theorem dX10_has_53 : decode cX10_has 53 = .ok (.iconst 0, 1) := by decide +kernel
theorem dX10_has_54 : decode cX10_has 54 = .ok (.ireturn, 1) := by decide +kernel
theorem dX10_feed_0 : decode cX10_feed 0 = .ok (.aload_n 0, 1) := by decide +kernel
theorem dX10_feed_1 : decode cX10_feed 1 = .ok (.iload_n 3, 1) := by decide +kernel
theorem dX10_feed_2 : decode cX10_feed 2 = .ok (.iconst 1, 1) := by decide +kernel
theorem dX10_feed_3 : decode cX10_feed 3 = .ok (.if_icmp .lt 9, 3) := by decide +kernel
theorem dX10_feed_6 : decode cX10_feed 6 = .ok (.iload_n 3, 1) := by decide +kernel
theorem dX10_feed_7 : decode cX10_feed 7 = .ok (.bipush 8, 2) := by decide +kernel
theorem dX10_feed_9 : decode cX10_feed 9 = .ok (.if_icmp .le 7, 3) := by decide +kernel
theorem dX10_feed_12 : decode cX10_feed 12 = .ok (.iconst 1, 1) := by decide +kernel
theorem dX10_feed_13 : decode cX10_feed 13 = .ok (.goto 4, 3) := by decide +kernel
theorem dX10_feed_16 : decode cX10_feed 16 = .ok (.iconst 0, 1) := by decide +kernel
theorem dX10_feed_17 : decode cX10_feed 17 = .ok (.putfield 116, 3) := by decide +kernel
theorem dX10_feed_20 : decode cX10_feed 20 = .ok (.iconst 0, 1) := by decide +kernel
theorem dX10_feed_21 : decode cX10_feed 21 = .ok (.istore 4, 2) := by decide +kernel
theorem dX10_feed_23 : decode cX10_feed 23 = .ok (.iload 4, 2) := by decide +kernel
theorem dX10_feed_25 : decode cX10_feed 25 = .ok (.iload_n 3, 1) := by decide +kernel
theorem dX10_feed_26 : decode cX10_feed 26 = .ok (.if_icmp .ge 43, 3) := by decide +kernel
theorem dX10_feed_29 : decode cX10_feed 29 = .ok (.aload_n 0, 1) := by decide +kernel
theorem dX10_feed_30 : decode cX10_feed 30 = .ok (.getfield 116, 3) := by decide +kernel
theorem dX10_feed_33 : decode cX10_feed 33 = .ok (.ifCond .ne 36, 3) := by decide +kernel
theorem dX10_feed_36 : decode cX10_feed 36 = .ok (.aload_n 0, 1) := by decide +kernel
theorem dX10_feed_37 : decode cX10_feed 37 = .ok (.lload_n 1, 1) := by decide +kernel
theorem dX10_feed_38 : decode cX10_feed 38 = .ok (.bipush 8, 2) := by decide +kernel
theorem dX10_feed_40 : decode cX10_feed 40 = .ok (.iload 4, 2) := by decide +kernel
theorem dX10_feed_42 : decode cX10_feed 42 = .ok (.imul, 1) := by decide +kernel
theorem dX10_feed_43 : decode cX10_feed 43 = .ok (.lshr, 1) := by decide +kernel
theorem dX10_feed_44 : decode cX10_feed 44 = .ok (.ldc2_w 122, 3) := by decide +kernel
theorem dX10_feed_47 : decode cX10_feed 47 = .ok (.land, 1) := by decide +kernel
theorem dX10_feed_48 : decode cX10_feed 48 = .ok (.l2i, 1) := by decide +kernel
theorem dX10_feed_49 : decode cX10_feed 49 = .ok (.invokestatic 162, 3) := by decide +kernel
theorem dX10_feed_52 : decode cX10_feed 52 = .ok (.ifCond .ge 7, 3) := by decide +kernel
theorem dX10_feed_55 : decode cX10_feed 55 = .ok (.iconst 1, 1) := by decide +kernel
theorem dX10_feed_56 : decode cX10_feed 56 = .ok (.goto 4, 3) := by decide +kernel
theorem dX10_feed_59 : decode cX10_feed 59 = .ok (.iconst 0, 1) := by decide +kernel
theorem dX10_feed_60 : decode cX10_feed 60 = .ok (.putfield 116, 3) := by decide +kernel
theorem dX10_feed_63 : decode cX10_feed 63 = .ok (.iinc 4 1, 3) := by decide +kernel
theorem dX10_feed_66 : decode cX10_feed 66 = .ok (.goto (-43), 3) := by decide +kernel
theorem dX10_feed_69 : decode cX10_feed 69 = .ok (.aload_n 0, 1) := by decide +kernel
theorem dX10_feed_70 : decode cX10_feed 70 = .ok (.aload_n 0, 1) := by decide +kernel
theorem dX10_feed_71 : decode cX10_feed 71 = .ok (.getfield 116, 3) := by decide +kernel
theorem dX10_feed_74 : decode cX10_feed 74 = .ok (.ifCond .ne 19, 3) := by decide +kernel
theorem dX10_feed_77 : decode cX10_feed 77 = .ok (.aload_n 0, 1) := by decide +kernel
theorem dX10_feed_78 : decode cX10_feed 78 = .ok (.getfield 219, 3) := by decide +kernel
theorem dX10_feed_81 : decode cX10_feed 81 = .ok (.iload_n 3, 1) := by decide +kernel
theorem dX10_feed_82 : decode cX10_feed 82 = .ok (.iadd, 1) := by decide +kernel
theorem dX10_feed_83 : decode cX10_feed 83 = .ok (.sipush 200, 3) := by decide +kernel
theorem dX10_feed_86 : decode cX10_feed 86 = .ok (.if_icmp .le 7, 3) := by decide +kernel
theorem dX10_feed_89 : decode cX10_feed 89 = .ok (.iconst 2, 1) := by decide +kernel
theorem dX10_feed_90 : decode cX10_feed 90 = .ok (.goto 7, 3) := by decide +kernel
theorem dX10_feed_93 : decode cX10_feed 93 = .ok (.aload_n 0, 1) := by decide +kernel
theorem dX10_feed_94 : decode cX10_feed 94 = .ok (.getfield 116, 3) := by decide +kernel
theorem dX10_feed_97 : decode cX10_feed 97 = .ok (.putfield 116, 3) := by decide +kernel
theorem dX10_feed_100 : decode cX10_feed 100 = .ok (.aload_n 0, 1) := by decide +kernel
theorem dX10_feed_101 : decode cX10_feed 101 = .ok (.getfield 116, 3) := by decide +kernel
theorem dX10_feed_104 : decode cX10_feed 104 = .ok (.ifCond .le 5, 3) := by decide +kernel
theorem dX10_feed_107 : decode cX10_feed 107 = .ok (.iconst 0, 1) := by decide +kernel
theorem dX10_feed_108 : decode cX10_feed 108 = .ok (.ireturn, 1) := by decide +kernel
theorem dX10_feed_109 : decode cX10_feed 109 = .ok (.iconst 0, 1) := by decide +kernel
theorem dX10_feed_110 : decode cX10_feed 110 = .ok (.istore 4, 2) := by decide +kernel
theorem dX10_feed_112 : decode cX10_feed 112 = .ok (.iload 4, 2) := by decide +kernel
theorem dX10_feed_114 : decode cX10_feed 114 = .ok (.iload_n 3, 1) := by decide +kernel
theorem dX10_feed_115 : decode cX10_feed 115 = .ok (.if_icmp .ge 43, 3) := by decide +kernel
theorem dX10_feed_118 : decode cX10_feed 118 = .ok (.aload_n 0, 1) := by decide +kernel
theorem dX10_feed_119 : decode cX10_feed 119 = .ok (.getfield 13, 3) := by decide +kernel
theorem dX10_feed_122 : decode cX10_feed 122 = .ok (.aload_n 0, 1) := by decide +kernel
theorem dX10_feed_123 : decode cX10_feed 123 = .ok (.getfield 219, 3) := by decide +kernel
theorem dX10_feed_126 : decode cX10_feed 126 = .ok (.lload_n 1, 1) := by decide +kernel
theorem dX10_feed_127 : decode cX10_feed 127 = .ok (.bipush 8, 2) := by decide +kernel
theorem dX10_feed_129 : decode cX10_feed 129 = .ok (.iload 4, 2) := by decide +kernel
theorem dX10_feed_131 : decode cX10_feed 131 = .ok (.imul, 1) := by decide +kernel
theorem dX10_feed_132 : decode cX10_feed 132 = .ok (.lshr, 1) := by decide +kernel
theorem dX10_feed_133 : decode cX10_feed 133 = .ok (.ldc2_w 122, 3) := by decide +kernel
theorem dX10_feed_136 : decode cX10_feed 136 = .ok (.land, 1) := by decide +kernel
theorem dX10_feed_137 : decode cX10_feed 137 = .ok (.l2i, 1) := by decide +kernel
theorem dX10_feed_138 : decode cX10_feed 138 = .ok (.invokestatic 162, 3) := by decide +kernel
theorem dX10_feed_141 : decode cX10_feed 141 = .ok (.iastore, 1) := by decide +kernel
theorem dX10_feed_142 : decode cX10_feed 142 = .ok (.aload_n 0, 1) := by decide +kernel
theorem dX10_feed_143 : decode cX10_feed 143 = .ok (.dup, 1) := by decide +kernel
theorem dX10_feed_144 : decode cX10_feed 144 = .ok (.getfield 219, 3) := by decide +kernel
theorem dX10_feed_147 : decode cX10_feed 147 = .ok (.iconst 1, 1) := by decide +kernel
theorem dX10_feed_148 : decode cX10_feed 148 = .ok (.iadd, 1) := by decide +kernel
theorem dX10_feed_149 : decode cX10_feed 149 = .ok (.putfield 219, 3) := by decide +kernel
theorem dX10_feed_152 : decode cX10_feed 152 = .ok (.iinc 4 1, 3) := by decide +kernel
theorem dX10_feed_155 : decode cX10_feed 155 = .ok (.goto (-43), 3) := by decide +kernel
theorem dX10_feed_158 : decode cX10_feed 158 = .ok (.aload_n 0, 1) := by decide +kernel
theorem dX10_feed_159 : decode cX10_feed 159 = .ok (.getfield 219, 3) := by decide +kernel
theorem dX10_feed_162 : decode cX10_feed 162 = .ok (.ireturn, 1) := by decide +kernel
theorem dX10_clear_0 : decode cX10_clear 0 = .ok (.aload_n 0, 1) := by decide +kernel
theorem dX10_clear_1 : decode cX10_clear 1 = .ok (.iconst 0, 1) := by decide +kernel
theorem dX10_clear_2 : decode cX10_clear 2 = .ok (.putfield 116, 3) := by decide +kernel
theorem dX10_clear_5 : decode cX10_clear 5 = .ok (.aload_n 0, 1) := by decide +kernel
theorem dX10_clear_6 : decode cX10_clear 6 = .ok (.getfield 219, 3) := by decide +kernel
theorem dX10_clear_9 : decode cX10_clear 9 = .ok (.istore_n 1, 1) := by decide +kernel
theorem dX10_clear_10 : decode cX10_clear 10 = .ok (.aload_n 0, 1) := by decide +kernel
theorem dX10_clear_11 : decode cX10_clear 11 = .ok (.iconst 0, 1) := by decide +kernel
theorem dX10_clear_12 : decode cX10_clear 12 = .ok (.putfield 219, 3) := by decide +kernel
theorem dX10_clear_15 : decode cX10_clear 15 = .ok (.iload_n 1, 1) := by decide +kernel
theorem dX10_clear_16 : decode cX10_clear 16 = .ok (.ireturn, 1) := by decide +kernel
theorem dX10_goOn_0 : decode cX10_goOn 0 = .ok (.iload_n 2, 1) := by decide +kernel
theorem dX10_goOn_1 : decode cX10_goOn 1 = .ok (.ifCond .eq 12, 3) := by decide +kernel
theorem dX10_goOn_4 : decode cX10_goOn 4 = .ok (.aload_n 0, 1) := by decide +kernel
theorem dX10_goOn_5 : decode cX10_goOn 5 = .ok (.getfield 30, 3) := by decide +kernel
theorem dX10_goOn_8 : decode cX10_goOn 8 = .ok (.iload_n 1, 1) := by decide +kernel
theorem dX10_goOn_9 : decode cX10_goOn 9 = .ok (.laload, 1) := by decide +kernel
theorem dX10_goOn_10 : decode cX10_goOn 10 = .ok (.goto 4, 3) := by decide +kernel
theorem dX10_goOn_13 : decode cX10_goOn 13 = .ok (.lconst 0, 1) := by decide +kernel
theorem dX10_goOn_14 : decode cX10_goOn 14 = .ok (.lstore 6, 2) := by decide +kernel
theorem dX10_goOn_16 : decode cX10_goOn 16 = .ok (.iconst 0, 1) := by decide +kernel
theorem dX10_goOn_17 : decode cX10_goOn 17 = .ok (.istore 8, 2) := by decide +kernel
theorem dX10_goOn_19 : decode cX10_goOn 19 = .ok (.iload 8, 2) := by decide +kernel
theorem dX10_goOn_21 : decode cX10_goOn 21 = .ok (.aload_n 0, 1) := by decide +kernel
theorem dX10_goOn_22 : decode cX10_goOn 22 = .ok (.getfield 24, 3) := by decide +kernel
theorem dX10_goOn_25 : decode cX10_goOn 25 = .ok (.iload_n 1, 1) := by decide +kernel
theorem dX10_goOn_26 : decode cX10_goOn 26 = .ok (.iaload, 1) := by decide +kernel
theorem dX10_goOn_27 : decode cX10_goOn 27 = .ok (.if_icmp .ge 44, 3) := by decide +kernel
theorem dX10_goOn_30 : decode cX10_goOn 30 = .ok (.iload_n 2, 1) := by decide +kernel
theorem dX10_goOn_31 : decode cX10_goOn 31 = .ok (.ifCond .ne 40, 3) := by decide +kernel
theorem dX10_goOn_34 : decode cX10_goOn 34 = .ok (.lload_n 3, 1) := by decide +kernel
theorem dX10_goOn_35 : decode cX10_goOn 35 = .ok (.iload 8, 2) := by decide +kernel
theorem dX10_goOn_37 : decode cX10_goOn 37 = .ok (.invokestatic 143, 3) := by decide +kernel
theorem dX10_goOn_40 : decode cX10_goOn 40 = .ok (.ifCond .eq 21, 3) := by decide +kernel
theorem dX10_goOn_43 : decode cX10_goOn 43 = .ok (.lload 6, 2) := by decide +kernel
theorem dX10_goOn_45 : decode cX10_goOn 45 = .ok (.aload_n 0, 1) := by decide +kernel
theorem dX10_goOn_46 : decode cX10_goOn 46 = .ok (.getfield 37, 3) := by decide +kernel
theorem dX10_goOn_49 : decode cX10_goOn 49 = .ok (.bipush 60, 2) := by decide +kernel
theorem dX10_goOn_51 : decode cX10_goOn 51 = .ok (.iload_n 1, 1) := by decide +kernel
theorem dX10_goOn_52 : decode cX10_goOn 52 = .ok (.imul, 1) := by decide +kernel
theorem dX10_goOn_53 : decode cX10_goOn 53 = .ok (.iload 8, 2) := by decide +kernel
theorem dX10_goOn_55 : decode cX10_goOn 55 = .ok (.iadd, 1) := by decide +kernel
theorem dX10_goOn_56 : decode cX10_goOn 56 = .ok (.laload, 1) := by decide +kernel
theorem dX10_goOn_57 : decode cX10_goOn 57 = .ok (.lor, 1) := by decide +kernel
theorem dX10_goOn_58 : decode cX10_goOn 58 = .ok (.goto 5, 3) := by decide +kernel
theorem dX10_goOn_61 : decode cX10_goOn 61 = .ok (.lload 6, 2) := by decide +kernel
theorem dX10_goOn_63 : decode cX10_goOn 63 = .ok (.lstore 6, 2) := by decide +kernel
theorem dX10_goOn_65 : decode cX10_goOn 65 = .ok (.iinc 8 1, 3) := by decide +kernel
theorem dX10_goOn_68 : decode cX10_goOn 68 = .ok (.goto (-49), 3) := by decide +kernel
theorem dX10_goOn_71 : decode cX10_goOn 71 = .ok (.iconst 0, 1) := by decide +kernel
theorem dX10_goOn_72 : decode cX10_goOn 72 = .ok (.istore 8, 2) := by decide +kernel
theorem dX10_goOn_74 : decode cX10_goOn 74 = .ok (.iload 8, 2) := by decide +kernel
theorem dX10_goOn_76 : decode cX10_goOn 76 = .ok (.aload_n 0, 1) := by decide +kernel
theorem dX10_goOn_77 : decode cX10_goOn 77 = .ok (.getfield 24, 3) := by decide +kernel
theorem dX10_goOn_80 : decode cX10_goOn 80 = .ok (.iload_n 1, 1) := by decide +kernel
theorem dX10_goOn_81 : decode cX10_goOn 81 = .ok (.iaload, 1) := by decide +kernel
theorem dX10_goOn_82 : decode cX10_goOn 82 = .ok (.if_icmp .ge 47, 3) := by decide +kernel
theorem dX10_goOn_85 : decode cX10_goOn 85 = .ok (.aload_n 0, 1) := by decide +kernel
theorem dX10_goOn_86 : decode cX10_goOn 86 = .ok (.getfield 40, 3) := by decide +kernel
theorem dX10_goOn_89 : decode cX10_goOn 89 = .ok (.bipush 60, 2) := by decide +kernel
theorem dX10_goOn_91 : decode cX10_goOn 91 = .ok (.iload_n 1, 1) := by decide +kernel
theorem dX10_goOn_92 : decode cX10_goOn 92 = .ok (.imul, 1) := by decide +kernel
theorem dX10_goOn_93 : decode cX10_goOn 93 = .ok (.iload 8, 2) := by decide +kernel
theorem dX10_goOn_95 : decode cX10_goOn 95 = .ok (.iadd, 1) := by decide +kernel
theorem dX10_goOn_96 : decode cX10_goOn 96 = .ok (.laload, 1) := by decide +kernel
theorem dX10_goOn_97 : decode cX10_goOn 97 = .ok (.iload 5, 2) := by decide +kernel
theorem dX10_goOn_99 : decode cX10_goOn 99 = .ok (.invokestatic 143, 3) := by decide +kernel
theorem dX10_goOn_102 : decode cX10_goOn 102 = .ok (.ifCond .eq 8, 3) := by decide +kernel
theorem dX10_goOn_105 : decode cX10_goOn 105 = .ok (.lload 6, 2) := by decide +kernel
theorem dX10_goOn_107 : decode cX10_goOn 107 = .ok (.goto 14, 3) := by decide +kernel
theorem dX10_goOn_110 : decode cX10_goOn 110 = .ok (.lload 6, 2) := by decide +kernel
theorem dX10_goOn_112 : decode cX10_goOn 112 = .ok (.lconst 1, 1) := by decide +kernel
theorem dX10_goOn_113 : decode cX10_goOn 113 = .ok (.iload 8, 2) := by decide +kernel
theorem dX10_goOn_115 : decode cX10_goOn 115 = .ok (.lshl, 1) := by decide +kernel
theorem dX10_goOn_116 : decode cX10_goOn 116 = .ok (.ldc2_w 173, 3) := by decide +kernel
theorem dX10_goOn_119 : decode cX10_goOn 119 = .ok (.lxor, 1) := by decide +kernel
theorem dX10_goOn_120 : decode cX10_goOn 120 = .ok (.land, 1) := by decide +kernel
theorem dX10_goOn_121 : decode cX10_goOn 121 = .ok (.lstore 6, 2) := by decide +kernel
theorem dX10_goOn_123 : decode cX10_goOn 123 = .ok (.iinc 8 1, 3) := by decide +kernel
theorem dX10_goOn_126 : decode cX10_goOn 126 = .ok (.goto (-52), 3) := by decide +kernel
theorem dX10_goOn_129 : decode cX10_goOn 129 = .ok (.lload 6, 2) := by decide +kernel
theorem dX10_goOn_131 : decode cX10_goOn 131 = .ok (.lreturn, 1) := by decide +kernel
theorem dX10_longest_0 : decode cX10_longest 0 = .ok (.iconst (-1), 1) := by decide +kernel
theorem dX10_longest_1 : decode cX10_longest 1 = .ok (.istore_n 2, 1) := by decide +kernel
theorem dX10_longest_2 : decode cX10_longest 2 = .ok (.lconst 0, 1) := by decide +kernel
theorem dX10_longest_3 : decode cX10_longest 3 = .ok (.lstore_n 3, 1) := by decide +kernel
theorem dX10_longest_4 : decode cX10_longest 4 = .ok (.iload_n 1, 1) := by decide +kernel
theorem dX10_longest_5 : decode cX10_longest 5 = .ok (.istore 5, 2) := by decide +kernel
theorem dX10_longest_7 : decode cX10_longest 7 = .ok (.iload 5, 2) := by decide +kernel
theorem dX10_longest_9 : decode cX10_longest 9 = .ok (.aload_n 0, 1) := by decide +kernel
theorem dX10_longest_10 : decode cX10_longest 10 = .ok (.getfield 219, 3) := by decide +kernel
theorem dX10_longest_13 : decode cX10_longest 13 = .ok (.if_icmp .ge 68, 3) := by decide +kernel
theorem dX10_longest_16 : decode cX10_longest 16 = .ok (.iload 5, 2) := by decide +kernel
theorem dX10_longest_18 : decode cX10_longest 18 = .ok (.iload_n 1, 1) := by decide +kernel
theorem dX10_longest_19 : decode cX10_longest 19 = .ok (.if_icmp .eq 9, 3) := by decide +kernel
theorem dX10_longest_22 : decode cX10_longest 22 = .ok (.lload_n 3, 1) := by decide +kernel
theorem dX10_longest_23 : decode cX10_longest 23 = .ok (.lconst 0, 1) := by decide +kernel
theorem dX10_longest_24 : decode cX10_longest 24 = .ok (.lcmp, 1) := by decide +kernel
theorem dX10_longest_25 : decode cX10_longest 25 = .ok (.ifCond .eq 56, 3) := by decide +kernel
theorem dX10_longest_28 : decode cX10_longest 28 = .ok (.aload_n 0, 1) := by decide +kernel
theorem dX10_longest_29 : decode cX10_longest 29 = .ok (.iconst 0, 1) := by decide +kernel
theorem dX10_longest_30 : decode cX10_longest 30 = .ok (.iload 5, 2) := by decide +kernel
theorem dX10_longest_32 : decode cX10_longest 32 = .ok (.iload_n 1, 1) := by decide +kernel
theorem dX10_longest_33 : decode cX10_longest 33 = .ok (.if_icmp .ne 7, 3) := by decide +kernel
theorem dX10_longest_36 : decode cX10_longest 36 = .ok (.iconst 1, 1) := by decide +kernel
theorem dX10_longest_37 : decode cX10_longest 37 = .ok (.goto 4, 3) := by decide +kernel
theorem dX10_longest_40 : decode cX10_longest 40 = .ok (.iconst 0, 1) := by decide +kernel
theorem dX10_longest_41 : decode cX10_longest 41 = .ok (.lload_n 3, 1) := by decide +kernel
theorem dX10_longest_42 : decode cX10_longest 42 = .ok (.aload_n 0, 1) := by decide +kernel
theorem dX10_longest_43 : decode cX10_longest 43 = .ok (.getfield 13, 3) := by decide +kernel
theorem dX10_longest_46 : decode cX10_longest 46 = .ok (.iload 5, 2) := by decide +kernel
theorem dX10_longest_48 : decode cX10_longest 48 = .ok (.iaload, 1) := by decide +kernel
theorem dX10_longest_49 : decode cX10_longest 49 = .ok (.invokevirtual 222, 3) := by decide +kernel
theorem dX10_longest_52 : decode cX10_longest 52 = .ok (.lstore_n 3, 1) := by decide +kernel
theorem dX10_longest_53 : decode cX10_longest 53 = .ok (.lload_n 3, 1) := by decide +kernel
theorem dX10_longest_54 : decode cX10_longest 54 = .ok (.aload_n 0, 1) := by decide +kernel
theorem dX10_longest_55 : decode cX10_longest 55 = .ok (.getfield 34, 3) := by decide +kernel
theorem dX10_longest_58 : decode cX10_longest 58 = .ok (.iconst 0, 1) := by decide +kernel
theorem dX10_longest_59 : decode cX10_longest 59 = .ok (.laload, 1) := by decide +kernel
theorem dX10_longest_60 : decode cX10_longest 60 = .ok (.land, 1) := by decide +kernel
theorem dX10_longest_61 : decode cX10_longest 61 = .ok (.lconst 0, 1) := by decide +kernel
theorem dX10_longest_62 : decode cX10_longest 62 = .ok (.lcmp, 1) := by decide +kernel
theorem dX10_longest_63 : decode cX10_longest 63 = .ok (.ifCond .eq 10, 3) := by decide +kernel
theorem dX10_longest_66 : decode cX10_longest 66 = .ok (.iload 5, 2) := by decide +kernel
theorem dX10_longest_68 : decode cX10_longest 68 = .ok (.iconst 1, 1) := by decide +kernel
theorem dX10_longest_69 : decode cX10_longest 69 = .ok (.iadd, 1) := by decide +kernel
theorem dX10_longest_70 : decode cX10_longest 70 = .ok (.goto 4, 3) := by decide +kernel
theorem dX10_longest_73 : decode cX10_longest 73 = .ok (.iload_n 2, 1) := by decide +kernel
theorem dX10_longest_74 : decode cX10_longest 74 = .ok (.istore_n 2, 1) := by decide +kernel
theorem dX10_longest_75 : decode cX10_longest 75 = .ok (.iinc 5 1, 3) := by decide +kernel
theorem dX10_longest_78 : decode cX10_longest 78 = .ok (.goto (-71), 3) := by decide +kernel
theorem dX10_longest_81 : decode cX10_longest 81 = .ok (.iload_n 2, 1) := by decide +kernel
theorem dX10_longest_82 : decode cX10_longest 82 = .ok (.ireturn, 1) := by decide +kernel
theorem dX10_whole_0 : decode cX10_whole 0 = .ok (.aload_n 0, 1) := by decide +kernel
theorem dX10_whole_1 : decode cX10_whole 1 = .ok (.invokevirtual 211, 3) := by decide +kernel
theorem dX10_whole_4 : decode cX10_whole 4 = .ok (.ifCond .eq 5, 3) := by decide +kernel
theorem dX10_whole_7 : decode cX10_whole 7 = .ok (.iconst 0, 1) := by decide +kernel
theorem dX10_whole_8 : decode cX10_whole 8 = .ok (.ireturn, 1) := by decide +kernel
theorem dX10_whole_9 : decode cX10_whole 9 = .ok (.lconst 0, 1) := by decide +kernel
theorem dX10_whole_10 : decode cX10_whole 10 = .ok (.lstore_n 1, 1) := by decide +kernel
theorem dX10_whole_11 : decode cX10_whole 11 = .ok (.iconst 0, 1) := by decide +kernel
theorem dX10_whole_12 : decode cX10_whole 12 = .ok (.istore_n 3, 1) := by decide +kernel
theorem dX10_whole_13 : decode cX10_whole 13 = .ok (.iload_n 3, 1) := by decide +kernel
theorem dX10_whole_14 : decode cX10_whole 14 = .ok (.aload_n 0, 1) := by decide +kernel
theorem dX10_whole_15 : decode cX10_whole 15 = .ok (.getfield 219, 3) := by decide +kernel
theorem dX10_whole_18 : decode cX10_whole 18 = .ok (.if_icmp .ge 31, 3) := by decide +kernel
theorem dX10_whole_21 : decode cX10_whole 21 = .ok (.aload_n 0, 1) := by decide +kernel
theorem dX10_whole_22 : decode cX10_whole 22 = .ok (.iconst 0, 1) := by decide +kernel
theorem dX10_whole_23 : decode cX10_whole 23 = .ok (.iload_n 3, 1) := by decide +kernel
theorem dX10_whole_24 : decode cX10_whole 24 = .ok (.ifCond .ne 7, 3) := by decide +kernel
theorem dX10_whole_27 : decode cX10_whole 27 = .ok (.iconst 1, 1) := by decide +kernel
theorem dX10_whole_28 : decode cX10_whole 28 = .ok (.goto 4, 3) := by decide +kernel
theorem dX10_whole_31 : decode cX10_whole 31 = .ok (.iconst 0, 1) := by decide +kernel
theorem dX10_whole_32 : decode cX10_whole 32 = .ok (.lload_n 1, 1) := by decide +kernel
theorem dX10_whole_33 : decode cX10_whole 33 = .ok (.aload_n 0, 1) := by decide +kernel
theorem dX10_whole_34 : decode cX10_whole 34 = .ok (.getfield 13, 3) := by decide +kernel
theorem dX10_whole_37 : decode cX10_whole 37 = .ok (.iload_n 3, 1) := by decide +kernel
theorem dX10_whole_38 : decode cX10_whole 38 = .ok (.iaload, 1) := by decide +kernel
theorem dX10_whole_39 : decode cX10_whole 39 = .ok (.invokevirtual 222, 3) := by decide +kernel
theorem dX10_whole_42 : decode cX10_whole 42 = .ok (.lstore_n 1, 1) := by decide +kernel
theorem dX10_whole_43 : decode cX10_whole 43 = .ok (.iinc 3 1, 3) := by decide +kernel
theorem dX10_whole_46 : decode cX10_whole 46 = .ok (.goto (-33), 3) := by decide +kernel
theorem dX10_whole_49 : decode cX10_whole 49 = .ok (.aload_n 0, 1) := by decide +kernel
theorem dX10_whole_50 : decode cX10_whole 50 = .ok (.getfield 219, 3) := by decide +kernel
theorem dX10_whole_53 : decode cX10_whole 53 = .ok (.ifCond .ne 12, 3) := by decide +kernel
theorem dX10_whole_56 : decode cX10_whole 56 = .ok (.aload_n 0, 1) := by decide +kernel
theorem dX10_whole_57 : decode cX10_whole 57 = .ok (.getfield 27, 3) := by decide +kernel
theorem dX10_whole_60 : decode cX10_whole 60 = .ok (.iconst 0, 1) := by decide +kernel
theorem dX10_whole_61 : decode cX10_whole 61 = .ok (.baload, 1) := by decide +kernel
theorem dX10_whole_62 : decode cX10_whole 62 = .ok (.goto 21, 3) := by decide +kernel
theorem dX10_whole_65 : decode cX10_whole 65 = .ok (.lload_n 1, 1) := by decide +kernel
theorem dX10_whole_66 : decode cX10_whole 66 = .ok (.aload_n 0, 1) := by decide +kernel
theorem dX10_whole_67 : decode cX10_whole 67 = .ok (.getfield 34, 3) := by decide +kernel
theorem dX10_whole_70 : decode cX10_whole 70 = .ok (.iconst 0, 1) := by decide +kernel
theorem dX10_whole_71 : decode cX10_whole 71 = .ok (.laload, 1) := by decide +kernel
theorem dX10_whole_72 : decode cX10_whole 72 = .ok (.land, 1) := by decide +kernel
theorem dX10_whole_73 : decode cX10_whole 73 = .ok (.lconst 0, 1) := by decide +kernel
theorem dX10_whole_74 : decode cX10_whole 74 = .ok (.lcmp, 1) := by decide +kernel
theorem dX10_whole_75 : decode cX10_whole 75 = .ok (.ifCond .eq 7, 3) := by decide +kernel
theorem dX10_whole_78 : decode cX10_whole 78 = .ok (.iconst 1, 1) := by decide +kernel
theorem dX10_whole_79 : decode cX10_whole 79 = .ok (.goto 4, 3) := by decide +kernel
theorem dX10_whole_82 : decode cX10_whole 82 = .ok (.iconst 0, 1) := by decide +kernel
theorem dX10_whole_83 : decode cX10_whole 83 = .ok (.ireturn, 1) := by decide +kernel
theorem dX10_findAll_0 : decode cX10_findAll 0 = .ok (.aload_n 0, 1) := by decide +kernel
theorem dX10_findAll_1 : decode cX10_findAll 1 = .ok (.iconst 0, 1) := by decide +kernel
theorem dX10_findAll_2 : decode cX10_findAll 2 = .ok (.putfield 226, 3) := by decide +kernel
theorem dX10_findAll_5 : decode cX10_findAll 5 = .ok (.iconst 0, 1) := by decide +kernel
theorem dX10_findAll_6 : decode cX10_findAll 6 = .ok (.istore_n 1, 1) := by decide +kernel
theorem dX10_findAll_7 : decode cX10_findAll 7 = .ok (.iload_n 1, 1) := by decide +kernel
theorem dX10_findAll_8 : decode cX10_findAll 8 = .ok (.aload_n 0, 1) := by decide +kernel
theorem dX10_findAll_9 : decode cX10_findAll 9 = .ok (.getfield 219, 3) := by decide +kernel
theorem dX10_findAll_12 : decode cX10_findAll 12 = .ok (.if_icmp .ge 55, 3) := by decide +kernel
theorem dX10_findAll_15 : decode cX10_findAll 15 = .ok (.aload_n 0, 1) := by decide +kernel
theorem dX10_findAll_16 : decode cX10_findAll 16 = .ok (.iload_n 1, 1) := by decide +kernel
theorem dX10_findAll_17 : decode cX10_findAll 17 = .ok (.invokevirtual 229, 3) := by decide +kernel
theorem dX10_findAll_20 : decode cX10_findAll 20 = .ok (.istore_n 2, 1) := by decide +kernel
theorem dX10_findAll_21 : decode cX10_findAll 21 = .ok (.iload_n 2, 1) := by decide +kernel
theorem dX10_findAll_22 : decode cX10_findAll 22 = .ok (.iload_n 1, 1) := by decide +kernel
theorem dX10_findAll_23 : decode cX10_findAll 23 = .ok (.if_icmp .le 38, 3) := by decide +kernel
theorem dX10_findAll_26 : decode cX10_findAll 26 = .ok (.aload_n 0, 1) := by decide +kernel
theorem dX10_findAll_27 : decode cX10_findAll 27 = .ok (.getfield 113, 3) := by decide +kernel
theorem dX10_findAll_30 : decode cX10_findAll 30 = .ok (.aload_n 0, 1) := by decide +kernel
theorem dX10_findAll_31 : decode cX10_findAll 31 = .ok (.getfield 226, 3) := by decide +kernel
theorem dX10_findAll_34 : decode cX10_findAll 34 = .ok (.iload_n 1, 1) := by decide +kernel
theorem dX10_findAll_35 : decode cX10_findAll 35 = .ok (.iastore, 1) := by decide +kernel
theorem dX10_findAll_36 : decode cX10_findAll 36 = .ok (.aload_n 0, 1) := by decide +kernel
theorem dX10_findAll_37 : decode cX10_findAll 37 = .ok (.getfield 110, 3) := by decide +kernel
theorem dX10_findAll_40 : decode cX10_findAll 40 = .ok (.aload_n 0, 1) := by decide +kernel
theorem dX10_findAll_41 : decode cX10_findAll 41 = .ok (.getfield 226, 3) := by decide +kernel
theorem dX10_findAll_44 : decode cX10_findAll 44 = .ok (.iload_n 2, 1) := by decide +kernel
theorem dX10_findAll_45 : decode cX10_findAll 45 = .ok (.iastore, 1) := by decide +kernel
theorem dX10_findAll_46 : decode cX10_findAll 46 = .ok (.aload_n 0, 1) := by decide +kernel
theorem dX10_findAll_47 : decode cX10_findAll 47 = .ok (.dup, 1) := by decide +kernel
theorem dX10_findAll_48 : decode cX10_findAll 48 = .ok (.getfield 226, 3) := by decide +kernel
theorem dX10_findAll_51 : decode cX10_findAll 51 = .ok (.iconst 1, 1) := by decide +kernel
theorem dX10_findAll_52 : decode cX10_findAll 52 = .ok (.iadd, 1) := by decide +kernel
theorem dX10_findAll_53 : decode cX10_findAll 53 = .ok (.putfield 226, 3) := by decide +kernel
theorem dX10_findAll_56 : decode cX10_findAll 56 = .ok (.iload_n 2, 1) := by decide +kernel
theorem dX10_findAll_57 : decode cX10_findAll 57 = .ok (.istore_n 1, 1) := by decide +kernel
theorem dX10_findAll_58 : decode cX10_findAll 58 = .ok (.goto 6, 3) := by decide +kernel
theorem dX10_findAll_61 : decode cX10_findAll 61 = .ok (.iinc 1 1, 3) := by decide +kernel
theorem dX10_findAll_64 : decode cX10_findAll 64 = .ok (.goto (-57), 3) := by decide +kernel
theorem dX10_findAll_67 : decode cX10_findAll 67 = .ok (.return_, 1) := by decide +kernel
theorem dX10_finds_0 : decode cX10_finds 0 = .ok (.aload_n 0, 1) := by decide +kernel
theorem dX10_finds_1 : decode cX10_finds 1 = .ok (.invokevirtual 211, 3) := by decide +kernel
theorem dX10_finds_4 : decode cX10_finds 4 = .ok (.ifCond .eq 5, 3) := by decide +kernel
theorem dX10_finds_7 : decode cX10_finds 7 = .ok (.iconst 0, 1) := by decide +kernel
theorem dX10_finds_8 : decode cX10_finds 8 = .ok (.ireturn, 1) := by decide +kernel
theorem dX10_finds_9 : decode cX10_finds 9 = .ok (.aload_n 0, 1) := by decide +kernel
theorem dX10_finds_10 : decode cX10_finds 10 = .ok (.invokevirtual 232, 3) := by decide +kernel
theorem dX10_finds_13 : decode cX10_finds 13 = .ok (.aload_n 0, 1) := by decide +kernel
theorem dX10_finds_14 : decode cX10_finds 14 = .ok (.getfield 226, 3) := by decide +kernel
theorem dX10_finds_17 : decode cX10_finds 17 = .ok (.ireturn, 1) := by decide +kernel
theorem dX10_find_0 : decode cX10_find 0 = .ok (.aload_n 0, 1) := by decide +kernel
theorem dX10_find_1 : decode cX10_find 1 = .ok (.invokevirtual 211, 3) := by decide +kernel
theorem dX10_find_4 : decode cX10_find 4 = .ok (.ifCond .eq 5, 3) := by decide +kernel
theorem dX10_find_7 : decode cX10_find 7 = .ok (.iconst 0, 1) := by decide +kernel
theorem dX10_find_8 : decode cX10_find 8 = .ok (.ireturn, 1) := by decide +kernel
theorem dX10_find_9 : decode cX10_find 9 = .ok (.aload_n 0, 1) := by decide +kernel
theorem dX10_find_10 : decode cX10_find 10 = .ok (.invokevirtual 232, 3) := by decide +kernel
theorem dX10_find_13 : decode cX10_find 13 = .ok (.aload_n 0, 1) := by decide +kernel
theorem dX10_find_14 : decode cX10_find 14 = .ok (.iload_n 1, 1) := by decide +kernel
theorem dX10_find_15 : decode cX10_find 15 = .ok (.ifCond .lt 11, 3) := by decide +kernel
theorem dX10_find_18 : decode cX10_find 18 = .ok (.iload_n 1, 1) := by decide +kernel
theorem dX10_find_19 : decode cX10_find 19 = .ok (.aload_n 0, 1) := by decide +kernel
theorem dX10_find_20 : decode cX10_find 20 = .ok (.getfield 226, 3) := by decide +kernel
theorem dX10_find_23 : decode cX10_find 23 = .ok (.if_icmp .lt 7, 3) := by decide +kernel
theorem dX10_find_26 : decode cX10_find 26 = .ok (.iconst 2, 1) := by decide +kernel
theorem dX10_find_27 : decode cX10_find 27 = .ok (.goto 4, 3) := by decide +kernel
theorem dX10_find_30 : decode cX10_find 30 = .ok (.iconst 0, 1) := by decide +kernel
theorem dX10_find_31 : decode cX10_find 31 = .ok (.putfield 116, 3) := by decide +kernel
theorem dX10_find_34 : decode cX10_find 34 = .ok (.aload_n 0, 1) := by decide +kernel
theorem dX10_find_35 : decode cX10_find 35 = .ok (.getfield 116, 3) := by decide +kernel
theorem dX10_find_38 : decode cX10_find 38 = .ok (.ifCond .le 7, 3) := by decide +kernel
theorem dX10_find_41 : decode cX10_find 41 = .ok (.iconst 0, 1) := by decide +kernel
theorem dX10_find_42 : decode cX10_find 42 = .ok (.goto 22, 3) := by decide +kernel
theorem dX10_find_45 : decode cX10_find 45 = .ok (.iload_n 2, 1) := by decide +kernel
theorem dX10_find_46 : decode cX10_find 46 = .ok (.ifCond .eq 12, 3) := by decide +kernel
theorem dX10_find_49 : decode cX10_find 49 = .ok (.aload_n 0, 1) := by decide +kernel
theorem dX10_find_50 : decode cX10_find 50 = .ok (.getfield 110, 3) := by decide +kernel
theorem dX10_find_53 : decode cX10_find 53 = .ok (.iload_n 1, 1) := by decide +kernel
theorem dX10_find_54 : decode cX10_find 54 = .ok (.iaload, 1) := by decide +kernel
theorem dX10_find_55 : decode cX10_find 55 = .ok (.goto 9, 3) := by decide +kernel
theorem dX10_find_58 : decode cX10_find 58 = .ok (.aload_n 0, 1) := by decide +kernel
theorem dX10_find_59 : decode cX10_find 59 = .ok (.getfield 113, 3) := by decide +kernel
theorem dX10_find_62 : decode cX10_find 62 = .ok (.iload_n 1, 1) := by decide +kernel
theorem dX10_find_63 : decode cX10_find 63 = .ok (.iaload, 1) := by decide +kernel
theorem dX10_find_64 : decode cX10_find 64 = .ok (.ireturn, 1) := by decide +kernel
theorem dX10_stateOf_0 : decode cX10_stateOf 0 = .ok (.iconst 1, 1) := by decide +kernel
theorem dX10_stateOf_1 : decode cX10_stateOf 1 = .ok (.istore 4, 2) := by decide +kernel
theorem dX10_stateOf_3 : decode cX10_stateOf 3 = .ok (.iload 4, 2) := by decide +kernel
theorem dX10_stateOf_5 : decode cX10_stateOf 5 = .ok (.aload_n 0, 1) := by decide +kernel
theorem dX10_stateOf_6 : decode cX10_stateOf 6 = .ok (.getfield 88, 3) := by decide +kernel
theorem dX10_stateOf_9 : decode cX10_stateOf 9 = .ok (.iload_n 1, 1) := by decide +kernel
theorem dX10_stateOf_10 : decode cX10_stateOf 10 = .ok (.iaload, 1) := by decide +kernel
theorem dX10_stateOf_11 : decode cX10_stateOf 11 = .ok (.if_icmp .ge 30, 3) := by decide +kernel
theorem dX10_stateOf_14 : decode cX10_stateOf 14 = .ok (.aload_n 0, 1) := by decide +kernel
theorem dX10_stateOf_15 : decode cX10_stateOf 15 = .ok (.getfield 82, 3) := by decide +kernel
theorem dX10_stateOf_18 : decode cX10_stateOf 18 = .ok (.sipush 300, 3) := by decide +kernel
theorem dX10_stateOf_21 : decode cX10_stateOf 21 = .ok (.iload_n 1, 1) := by decide +kernel
theorem dX10_stateOf_22 : decode cX10_stateOf 22 = .ok (.imul, 1) := by decide +kernel
theorem dX10_stateOf_23 : decode cX10_stateOf 23 = .ok (.iload 4, 2) := by decide +kernel
theorem dX10_stateOf_25 : decode cX10_stateOf 25 = .ok (.iadd, 1) := by decide +kernel
theorem dX10_stateOf_26 : decode cX10_stateOf 26 = .ok (.laload, 1) := by decide +kernel
theorem dX10_stateOf_27 : decode cX10_stateOf 27 = .ok (.lload_n 2, 1) := by decide +kernel
theorem dX10_stateOf_28 : decode cX10_stateOf 28 = .ok (.lcmp, 1) := by decide +kernel
theorem dX10_stateOf_29 : decode cX10_stateOf 29 = .ok (.ifCond .ne 6, 3) := by decide +kernel
theorem dX10_stateOf_32 : decode cX10_stateOf 32 = .ok (.iload 4, 2) := by decide +kernel
theorem dX10_stateOf_34 : decode cX10_stateOf 34 = .ok (.ireturn, 1) := by decide +kernel
theorem dX10_stateOf_35 : decode cX10_stateOf 35 = .ok (.iinc 4 1, 3) := by decide +kernel
theorem dX10_stateOf_38 : decode cX10_stateOf 38 = .ok (.goto (-35), 3) := by decide +kernel
theorem dX10_stateOf_41 : decode cX10_stateOf 41 = .ok (.aload_n 0, 1) := by decide +kernel
theorem dX10_stateOf_42 : decode cX10_stateOf 42 = .ok (.getfield 88, 3) := by decide +kernel
theorem dX10_stateOf_45 : decode cX10_stateOf 45 = .ok (.iload_n 1, 1) := by decide +kernel
theorem dX10_stateOf_46 : decode cX10_stateOf 46 = .ok (.iaload, 1) := by decide +kernel
theorem dX10_stateOf_47 : decode cX10_stateOf 47 = .ok (.sipush 300, 3) := by decide +kernel
theorem dX10_stateOf_50 : decode cX10_stateOf 50 = .ok (.if_icmp .ne 12, 3) := by decide +kernel
theorem dX10_stateOf_53 : decode cX10_stateOf 53 = .ok (.aload_n 0, 1) := by decide +kernel
theorem dX10_stateOf_54 : decode cX10_stateOf 54 = .ok (.getfield 91, 3) := by decide +kernel
theorem dX10_stateOf_57 : decode cX10_stateOf 57 = .ok (.iload_n 1, 1) := by decide +kernel
theorem dX10_stateOf_58 : decode cX10_stateOf 58 = .ok (.iconst 1, 1) := by decide +kernel
theorem dX10_stateOf_59 : decode cX10_stateOf 59 = .ok (.bastore, 1) := by decide +kernel
theorem dX10_stateOf_60 : decode cX10_stateOf 60 = .ok (.iconst (-1), 1) := by decide +kernel
theorem dX10_stateOf_61 : decode cX10_stateOf 61 = .ok (.ireturn, 1) := by decide +kernel
theorem dX10_stateOf_62 : decode cX10_stateOf 62 = .ok (.aload_n 0, 1) := by decide +kernel
theorem dX10_stateOf_63 : decode cX10_stateOf 63 = .ok (.getfield 82, 3) := by decide +kernel
theorem dX10_stateOf_66 : decode cX10_stateOf 66 = .ok (.sipush 300, 3) := by decide +kernel
theorem dX10_stateOf_69 : decode cX10_stateOf 69 = .ok (.iload_n 1, 1) := by decide +kernel
theorem dX10_stateOf_70 : decode cX10_stateOf 70 = .ok (.imul, 1) := by decide +kernel
theorem dX10_stateOf_71 : decode cX10_stateOf 71 = .ok (.aload_n 0, 1) := by decide +kernel
theorem dX10_stateOf_72 : decode cX10_stateOf 72 = .ok (.getfield 88, 3) := by decide +kernel
theorem dX10_stateOf_75 : decode cX10_stateOf 75 = .ok (.iload_n 1, 1) := by decide +kernel
theorem dX10_stateOf_76 : decode cX10_stateOf 76 = .ok (.iaload, 1) := by decide +kernel
theorem dX10_stateOf_77 : decode cX10_stateOf 77 = .ok (.iadd, 1) := by decide +kernel
theorem dX10_stateOf_78 : decode cX10_stateOf 78 = .ok (.lload_n 2, 1) := by decide +kernel
theorem dX10_stateOf_79 : decode cX10_stateOf 79 = .ok (.lastore, 1) := by decide +kernel
theorem dX10_stateOf_80 : decode cX10_stateOf 80 = .ok (.aload_n 0, 1) := by decide +kernel
theorem dX10_stateOf_81 : decode cX10_stateOf 81 = .ok (.getfield 88, 3) := by decide +kernel
theorem dX10_stateOf_84 : decode cX10_stateOf 84 = .ok (.iload_n 1, 1) := by decide +kernel
theorem dX10_stateOf_85 : decode cX10_stateOf 85 = .ok (.dup2, 1) := by decide +kernel
theorem dX10_stateOf_86 : decode cX10_stateOf 86 = .ok (.iaload, 1) := by decide +kernel
theorem dX10_stateOf_87 : decode cX10_stateOf 87 = .ok (.iconst 1, 1) := by decide +kernel
theorem dX10_stateOf_88 : decode cX10_stateOf 88 = .ok (.iadd, 1) := by decide +kernel
theorem dX10_stateOf_89 : decode cX10_stateOf 89 = .ok (.iastore, 1) := by decide +kernel
theorem dX10_stateOf_90 : decode cX10_stateOf 90 = .ok (.aload_n 0, 1) := by decide +kernel
theorem dX10_stateOf_91 : decode cX10_stateOf 91 = .ok (.getfield 88, 3) := by decide +kernel
theorem dX10_stateOf_94 : decode cX10_stateOf 94 = .ok (.iload_n 1, 1) := by decide +kernel
theorem dX10_stateOf_95 : decode cX10_stateOf 95 = .ok (.iaload, 1) := by decide +kernel
theorem dX10_stateOf_96 : decode cX10_stateOf 96 = .ok (.iconst 1, 1) := by decide +kernel
theorem dX10_stateOf_97 : decode cX10_stateOf 97 = .ok (.isub, 1) := by decide +kernel
theorem dX10_stateOf_98 : decode cX10_stateOf 98 = .ok (.ireturn, 1) := by decide +kernel
theorem dX10_build_0 : decode cX10_build 0 = .ok (.aload_n 0, 1) := by decide +kernel
theorem dX10_build_1 : decode cX10_build 1 = .ok (.getfield 88, 3) := by decide +kernel
theorem dX10_build_4 : decode cX10_build 4 = .ok (.iload_n 1, 1) := by decide +kernel
theorem dX10_build_5 : decode cX10_build 5 = .ok (.iconst 1, 1) := by decide +kernel
theorem dX10_build_6 : decode cX10_build 6 = .ok (.iastore, 1) := by decide +kernel
theorem dX10_build_7 : decode cX10_build 7 = .ok (.aload_n 0, 1) := by decide +kernel
theorem dX10_build_8 : decode cX10_build 8 = .ok (.getfield 91, 3) := by decide +kernel
theorem dX10_build_11 : decode cX10_build 11 = .ok (.iload_n 1, 1) := by decide +kernel
theorem dX10_build_12 : decode cX10_build 12 = .ok (.iconst 0, 1) := by decide +kernel
theorem dX10_build_13 : decode cX10_build 13 = .ok (.bastore, 1) := by decide +kernel
theorem dX10_build_14 : decode cX10_build 14 = .ok (.iconst 0, 1) := by decide +kernel
theorem dX10_build_15 : decode cX10_build 15 = .ok (.istore_n 2, 1) := by decide +kernel
theorem dX10_build_16 : decode cX10_build 16 = .ok (.iload_n 2, 1) := by decide +kernel
theorem dX10_build_17 : decode cX10_build 17 = .ok (.aload_n 0, 1) := by decide +kernel
theorem dX10_build_18 : decode cX10_build 18 = .ok (.getfield 88, 3) := by decide +kernel
theorem dX10_build_21 : decode cX10_build 21 = .ok (.iload_n 1, 1) := by decide +kernel
theorem dX10_build_22 : decode cX10_build 22 = .ok (.iaload, 1) := by decide +kernel
theorem dX10_build_23 : decode cX10_build 23 = .ok (.if_icmp .ge 76, 3) := by decide +kernel
theorem dX10_build_26 : decode cX10_build 26 = .ok (.iconst 0, 1) := by decide +kernel
theorem dX10_build_27 : decode cX10_build 27 = .ok (.istore_n 3, 1) := by decide +kernel
theorem dX10_build_28 : decode cX10_build 28 = .ok (.iload_n 3, 1) := by decide +kernel
theorem dX10_build_29 : decode cX10_build 29 = .ok (.bipush 36, 2) := by decide +kernel
theorem dX10_build_31 : decode cX10_build 31 = .ok (.if_icmp .ge 62, 3) := by decide +kernel
theorem dX10_build_34 : decode cX10_build 34 = .ok (.aload_n 0, 1) := by decide +kernel
theorem dX10_build_35 : decode cX10_build 35 = .ok (.iload_n 1, 1) := by decide +kernel
theorem dX10_build_36 : decode cX10_build 36 = .ok (.iload_n 2, 1) := by decide +kernel
theorem dX10_build_37 : decode cX10_build 37 = .ok (.ifCond .ne 7, 3) := by decide +kernel
theorem dX10_build_40 : decode cX10_build 40 = .ok (.iconst 1, 1) := by decide +kernel
theorem dX10_build_41 : decode cX10_build 41 = .ok (.goto 4, 3) := by decide +kernel
theorem dX10_build_44 : decode cX10_build 44 = .ok (.iconst 0, 1) := by decide +kernel
theorem dX10_build_45 : decode cX10_build 45 = .ok (.aload_n 0, 1) := by decide +kernel
theorem dX10_build_46 : decode cX10_build 46 = .ok (.getfield 82, 3) := by decide +kernel
theorem dX10_build_49 : decode cX10_build 49 = .ok (.sipush 300, 3) := by decide +kernel
theorem dX10_build_52 : decode cX10_build 52 = .ok (.iload_n 1, 1) := by decide +kernel
theorem dX10_build_53 : decode cX10_build 53 = .ok (.imul, 1) := by decide +kernel
theorem dX10_build_54 : decode cX10_build 54 = .ok (.iload_n 2, 1) := by decide +kernel
theorem dX10_build_55 : decode cX10_build 55 = .ok (.iadd, 1) := by decide +kernel
theorem dX10_build_56 : decode cX10_build 56 = .ok (.laload, 1) := by decide +kernel
theorem dX10_build_57 : decode cX10_build 57 = .ok (.iload_n 3, 1) := by decide +kernel
theorem dX10_build_58 : decode cX10_build 58 = .ok (.invokevirtual 222, 3) := by decide +kernel
theorem dX10_build_61 : decode cX10_build 61 = .ok (.lstore 4, 2) := by decide +kernel
theorem dX10_build_63 : decode cX10_build 63 = .ok (.aload_n 0, 1) := by decide +kernel
theorem dX10_build_64 : decode cX10_build 64 = .ok (.getfield 85, 3) := by decide +kernel
theorem dX10_build_67 : decode cX10_build 67 = .ok (.sipush 10800, 3) := by decide +kernel
theorem dX10_build_70 : decode cX10_build 70 = .ok (.iload_n 1, 1) := by decide +kernel
theorem dX10_build_71 : decode cX10_build 71 = .ok (.imul, 1) := by decide +kernel
theorem dX10_build_72 : decode cX10_build 72 = .ok (.bipush 36, 2) := by decide +kernel
theorem dX10_build_74 : decode cX10_build 74 = .ok (.iload_n 2, 1) := by decide +kernel
theorem dX10_build_75 : decode cX10_build 75 = .ok (.imul, 1) := by decide +kernel
theorem dX10_build_76 : decode cX10_build 76 = .ok (.iadd, 1) := by decide +kernel
theorem dX10_build_77 : decode cX10_build 77 = .ok (.iload_n 3, 1) := by decide +kernel
theorem dX10_build_78 : decode cX10_build 78 = .ok (.iadd, 1) := by decide +kernel
theorem dX10_build_79 : decode cX10_build 79 = .ok (.aload_n 0, 1) := by decide +kernel
theorem dX10_build_80 : decode cX10_build 80 = .ok (.iload_n 1, 1) := by decide +kernel
theorem dX10_build_81 : decode cX10_build 81 = .ok (.lload 4, 2) := by decide +kernel
theorem dX10_build_83 : decode cX10_build 83 = .ok (.invokevirtual 235, 3) := by decide +kernel
theorem dX10_build_86 : decode cX10_build 86 = .ok (.iastore, 1) := by decide +kernel
theorem dX10_build_87 : decode cX10_build 87 = .ok (.iinc 3 1, 3) := by decide +kernel
theorem dX10_build_90 : decode cX10_build 90 = .ok (.goto (-62), 3) := by decide +kernel
theorem dX10_build_93 : decode cX10_build 93 = .ok (.iinc 2 1, 3) := by decide +kernel
theorem dX10_build_96 : decode cX10_build 96 = .ok (.goto (-80), 3) := by decide +kernel
theorem dX10_build_99 : decode cX10_build 99 = .ok (.return_, 1) := by decide +kernel
theorem dX10_isGood_0 : decode cX10_isGood 0 = .ok (.iload_n 2, 1) := by decide +kernel
theorem dX10_isGood_1 : decode cX10_isGood 1 = .ok (.ifCond .ne 12, 3) := by decide +kernel
theorem dX10_isGood_4 : decode cX10_isGood 4 = .ok (.aload_n 0, 1) := by decide +kernel
theorem dX10_isGood_5 : decode cX10_isGood 5 = .ok (.getfield 27, 3) := by decide +kernel
theorem dX10_isGood_8 : decode cX10_isGood 8 = .ok (.iload_n 1, 1) := by decide +kernel
theorem dX10_isGood_9 : decode cX10_isGood 9 = .ok (.baload, 1) := by decide +kernel
theorem dX10_isGood_10 : decode cX10_isGood 10 = .ok (.goto 32, 3) := by decide +kernel
theorem dX10_isGood_13 : decode cX10_isGood 13 = .ok (.aload_n 0, 1) := by decide +kernel
theorem dX10_isGood_14 : decode cX10_isGood 14 = .ok (.getfield 82, 3) := by decide +kernel
theorem dX10_isGood_17 : decode cX10_isGood 17 = .ok (.sipush 300, 3) := by decide +kernel
theorem dX10_isGood_20 : decode cX10_isGood 20 = .ok (.iload_n 1, 1) := by decide +kernel
theorem dX10_isGood_21 : decode cX10_isGood 21 = .ok (.imul, 1) := by decide +kernel
theorem dX10_isGood_22 : decode cX10_isGood 22 = .ok (.iload_n 2, 1) := by decide +kernel
theorem dX10_isGood_23 : decode cX10_isGood 23 = .ok (.iadd, 1) := by decide +kernel
theorem dX10_isGood_24 : decode cX10_isGood 24 = .ok (.laload, 1) := by decide +kernel
theorem dX10_isGood_25 : decode cX10_isGood 25 = .ok (.aload_n 0, 1) := by decide +kernel
theorem dX10_isGood_26 : decode cX10_isGood 26 = .ok (.getfield 34, 3) := by decide +kernel
theorem dX10_isGood_29 : decode cX10_isGood 29 = .ok (.iload_n 1, 1) := by decide +kernel
theorem dX10_isGood_30 : decode cX10_isGood 30 = .ok (.laload, 1) := by decide +kernel
theorem dX10_isGood_31 : decode cX10_isGood 31 = .ok (.land, 1) := by decide +kernel
theorem dX10_isGood_32 : decode cX10_isGood 32 = .ok (.lconst 0, 1) := by decide +kernel
theorem dX10_isGood_33 : decode cX10_isGood 33 = .ok (.lcmp, 1) := by decide +kernel
theorem dX10_isGood_34 : decode cX10_isGood 34 = .ok (.ifCond .eq 7, 3) := by decide +kernel
theorem dX10_isGood_37 : decode cX10_isGood 37 = .ok (.iconst 1, 1) := by decide +kernel
theorem dX10_isGood_38 : decode cX10_isGood 38 = .ok (.goto 4, 3) := by decide +kernel
theorem dX10_isGood_41 : decode cX10_isGood 41 = .ok (.iconst 0, 1) := by decide +kernel
theorem dX10_isGood_42 : decode cX10_isGood 42 = .ok (.ireturn, 1) := by decide +kernel
theorem dX10_states_0 : decode cX10_states 0 = .ok (.aload_n 0, 1) := by decide +kernel
theorem dX10_states_1 : decode cX10_states 1 = .ok (.invokevirtual 211, 3) := by decide +kernel
theorem dX10_states_4 : decode cX10_states 4 = .ok (.ifCond .eq 5, 3) := by decide +kernel
theorem dX10_states_7 : decode cX10_states 7 = .ok (.iconst 0, 1) := by decide +kernel
theorem dX10_states_8 : decode cX10_states 8 = .ok (.ireturn, 1) := by decide +kernel
theorem dX10_states_9 : decode cX10_states 9 = .ok (.aload_n 0, 1) := by decide +kernel
theorem dX10_states_10 : decode cX10_states 10 = .ok (.iconst 0, 1) := by decide +kernel
theorem dX10_states_11 : decode cX10_states 11 = .ok (.invokevirtual 239, 3) := by decide +kernel
theorem dX10_states_14 : decode cX10_states 14 = .ok (.aload_n 0, 1) := by decide +kernel
theorem dX10_states_15 : decode cX10_states 15 = .ok (.getfield 88, 3) := by decide +kernel
theorem dX10_states_18 : decode cX10_states 18 = .ok (.iconst 0, 1) := by decide +kernel
theorem dX10_states_19 : decode cX10_states 19 = .ok (.iaload, 1) := by decide +kernel
theorem dX10_states_20 : decode cX10_states 20 = .ok (.ireturn, 1) := by decide +kernel
theorem dX10_noState_0 : decode cX10_noState 0 = .ok (.aload_n 0, 1) := by decide +kernel
theorem dX10_noState_1 : decode cX10_noState 1 = .ok (.invokevirtual 211, 3) := by decide +kernel
theorem dX10_noState_4 : decode cX10_noState 4 = .ok (.ifCond .eq 5, 3) := by decide +kernel
theorem dX10_noState_7 : decode cX10_noState 7 = .ok (.iconst 1, 1) := by decide +kernel
theorem dX10_noState_8 : decode cX10_noState 8 = .ok (.ireturn, 1) := by decide +kernel
theorem dX10_noState_9 : decode cX10_noState 9 = .ok (.aload_n 0, 1) := by decide +kernel
theorem dX10_noState_10 : decode cX10_noState 10 = .ok (.iconst 0, 1) := by decide +kernel
theorem dX10_noState_11 : decode cX10_noState 11 = .ok (.invokevirtual 239, 3) := by decide +kernel
theorem dX10_noState_14 : decode cX10_noState 14 = .ok (.aload_n 0, 1) := by decide +kernel
theorem dX10_noState_15 : decode cX10_noState 15 = .ok (.iload_n 1, 1) := by decide +kernel
theorem dX10_noState_16 : decode cX10_noState 16 = .ok (.ifCond .lt 13, 3) := by decide +kernel
theorem dX10_noState_19 : decode cX10_noState 19 = .ok (.iload_n 1, 1) := by decide +kernel
theorem dX10_noState_20 : decode cX10_noState 20 = .ok (.aload_n 0, 1) := by decide +kernel
theorem dX10_noState_21 : decode cX10_noState 21 = .ok (.getfield 88, 3) := by decide +kernel
theorem dX10_noState_24 : decode cX10_noState 24 = .ok (.iconst 0, 1) := by decide +kernel
theorem dX10_noState_25 : decode cX10_noState 25 = .ok (.iaload, 1) := by decide +kernel
theorem dX10_noState_26 : decode cX10_noState 26 = .ok (.if_icmp .lt 7, 3) := by decide +kernel
theorem dX10_noState_29 : decode cX10_noState 29 = .ok (.iconst 2, 1) := by decide +kernel
theorem dX10_noState_30 : decode cX10_noState 30 = .ok (.goto 4, 3) := by decide +kernel
theorem dX10_noState_33 : decode cX10_noState 33 = .ok (.iconst 0, 1) := by decide +kernel
theorem dX10_noState_34 : decode cX10_noState 34 = .ok (.putfield 116, 3) := by decide +kernel
theorem dX10_noState_37 : decode cX10_noState 37 = .ok (.aload_n 0, 1) := by decide +kernel
theorem dX10_noState_38 : decode cX10_noState 38 = .ok (.getfield 116, 3) := by decide +kernel
theorem dX10_noState_41 : decode cX10_noState 41 = .ok (.ifCond .le 7, 3) := by decide +kernel
theorem dX10_noState_44 : decode cX10_noState 44 = .ok (.iconst 1, 1) := by decide +kernel
theorem dX10_noState_45 : decode cX10_noState 45 = .ok (.goto 4, 3) := by decide +kernel
theorem dX10_noState_48 : decode cX10_noState 48 = .ok (.iconst 0, 1) := by decide +kernel
theorem dX10_noState_49 : decode cX10_noState 49 = .ok (.ireturn, 1) := by decide +kernel
theorem dX10_next_0 : decode cX10_next 0 = .ok (.aload_n 0, 1) := by decide +kernel
theorem dX10_next_1 : decode cX10_next 1 = .ok (.iload_n 1, 1) := by decide +kernel
theorem dX10_next_2 : decode cX10_next 2 = .ok (.invokevirtual 242, 3) := by decide +kernel
theorem dX10_next_5 : decode cX10_next 5 = .ok (.ifCond .eq 5, 3) := by decide +kernel
theorem dX10_next_8 : decode cX10_next 8 = .ok (.iconst 0, 1) := by decide +kernel
theorem dX10_next_9 : decode cX10_next 9 = .ok (.ireturn, 1) := by decide +kernel
theorem dX10_next_10 : decode cX10_next 10 = .ok (.aload_n 0, 1) := by decide +kernel
theorem dX10_next_11 : decode cX10_next 11 = .ok (.iload_n 2, 1) := by decide +kernel
theorem dX10_next_12 : decode cX10_next 12 = .ok (.ifCond .lt 9, 3) := by decide +kernel
theorem dX10_next_15 : decode cX10_next 15 = .ok (.iload_n 2, 1) := by decide +kernel
theorem dX10_next_16 : decode cX10_next 16 = .ok (.bipush 36, 2) := by decide +kernel
theorem dX10_next_18 : decode cX10_next 18 = .ok (.if_icmp .lt 7, 3) := by decide +kernel
theorem dX10_next_21 : decode cX10_next 21 = .ok (.iconst 2, 1) := by decide +kernel
theorem dX10_next_22 : decode cX10_next 22 = .ok (.goto 4, 3) := by decide +kernel
theorem dX10_next_25 : decode cX10_next 25 = .ok (.iconst 0, 1) := by decide +kernel
theorem dX10_next_26 : decode cX10_next 26 = .ok (.putfield 116, 3) := by decide +kernel
theorem dX10_next_29 : decode cX10_next 29 = .ok (.aload_n 0, 1) := by decide +kernel
theorem dX10_next_30 : decode cX10_next 30 = .ok (.getfield 116, 3) := by decide +kernel
theorem dX10_next_33 : decode cX10_next 33 = .ok (.ifCond .le 7, 3) := by decide +kernel
theorem dX10_next_36 : decode cX10_next 36 = .ok (.iconst 0, 1) := by decide +kernel
theorem dX10_next_37 : decode cX10_next 37 = .ok (.goto 14, 3) := by decide +kernel
theorem dX10_next_40 : decode cX10_next 40 = .ok (.aload_n 0, 1) := by decide +kernel
theorem dX10_next_41 : decode cX10_next 41 = .ok (.getfield 85, 3) := by decide +kernel
theorem dX10_next_44 : decode cX10_next 44 = .ok (.bipush 36, 2) := by decide +kernel
theorem dX10_next_46 : decode cX10_next 46 = .ok (.iload_n 1, 1) := by decide +kernel
theorem dX10_next_47 : decode cX10_next 47 = .ok (.imul, 1) := by decide +kernel
theorem dX10_next_48 : decode cX10_next 48 = .ok (.iload_n 2, 1) := by decide +kernel
theorem dX10_next_49 : decode cX10_next 49 = .ok (.iadd, 1) := by decide +kernel
theorem dX10_next_50 : decode cX10_next 50 = .ok (.iaload, 1) := by decide +kernel
theorem dX10_next_51 : decode cX10_next 51 = .ok (.ireturn, 1) := by decide +kernel
theorem dX10_good_0 : decode cX10_good 0 = .ok (.aload_n 0, 1) := by decide +kernel
theorem dX10_good_1 : decode cX10_good 1 = .ok (.iload_n 1, 1) := by decide +kernel
theorem dX10_good_2 : decode cX10_good 2 = .ok (.invokevirtual 242, 3) := by decide +kernel
theorem dX10_good_5 : decode cX10_good 5 = .ok (.ifCond .ne 16, 3) := by decide +kernel
theorem dX10_good_8 : decode cX10_good 8 = .ok (.aload_n 0, 1) := by decide +kernel
theorem dX10_good_9 : decode cX10_good 9 = .ok (.iconst 0, 1) := by decide +kernel
theorem dX10_good_10 : decode cX10_good 10 = .ok (.iload_n 1, 1) := by decide +kernel
theorem dX10_good_11 : decode cX10_good 11 = .ok (.invokevirtual 245, 3) := by decide +kernel
theorem dX10_good_14 : decode cX10_good 14 = .ok (.ifCond .eq 7, 3) := by decide +kernel
theorem dX10_good_17 : decode cX10_good 17 = .ok (.iconst 1, 1) := by decide +kernel
theorem dX10_good_18 : decode cX10_good 18 = .ok (.goto 4, 3) := by decide +kernel
theorem dX10_good_21 : decode cX10_good 21 = .ok (.iconst 0, 1) := by decide +kernel
theorem dX10_good_22 : decode cX10_good 22 = .ok (.ireturn, 1) := by decide +kernel
theorem dX10_partMore_0 : decode cX10_partMore 0 = .ok (.iconst 0, 1) := by decide +kernel
theorem dX10_partMore_1 : decode cX10_partMore 1 = .ok (.istore_n 2, 1) := by decide +kernel
theorem dX10_partMore_2 : decode cX10_partMore 2 = .ok (.iconst 0, 1) := by decide +kernel
theorem dX10_partMore_3 : decode cX10_partMore 3 = .ok (.istore_n 3, 1) := by decide +kernel
theorem dX10_partMore_4 : decode cX10_partMore 4 = .ok (.iload_n 3, 1) := by decide +kernel
theorem dX10_partMore_5 : decode cX10_partMore 5 = .ok (.iload_n 1, 1) := by decide +kernel
theorem dX10_partMore_6 : decode cX10_partMore 6 = .ok (.if_icmp .ge 80, 3) := by decide +kernel
theorem dX10_partMore_9 : decode cX10_partMore 9 = .ok (.iconst 0, 1) := by decide +kernel
theorem dX10_partMore_10 : decode cX10_partMore 10 = .ok (.istore 4, 2) := by decide +kernel
theorem dX10_partMore_12 : decode cX10_partMore 12 = .ok (.iload 4, 2) := by decide +kernel
theorem dX10_partMore_14 : decode cX10_partMore 14 = .ok (.iload_n 3, 1) := by decide +kernel
theorem dX10_partMore_15 : decode cX10_partMore 15 = .ok (.if_icmp .ge 65, 3) := by decide +kernel
theorem dX10_partMore_18 : decode cX10_partMore 18 = .ok (.aload_n 0, 1) := by decide +kernel
theorem dX10_partMore_19 : decode cX10_partMore 19 = .ok (.getfield 95, 3) := by decide +kernel
theorem dX10_partMore_22 : decode cX10_partMore 22 = .ok (.sipush 300, 3) := by decide +kernel
theorem dX10_partMore_25 : decode cX10_partMore 25 = .ok (.iload_n 3, 1) := by decide +kernel
theorem dX10_partMore_26 : decode cX10_partMore 26 = .ok (.imul, 1) := by decide +kernel
theorem dX10_partMore_27 : decode cX10_partMore 27 = .ok (.iload 4, 2) := by decide +kernel
theorem dX10_partMore_29 : decode cX10_partMore 29 = .ok (.iadd, 1) := by decide +kernel
theorem dX10_partMore_30 : decode cX10_partMore 30 = .ok (.baload, 1) := by decide +kernel
theorem dX10_partMore_31 : decode cX10_partMore 31 = .ok (.ifCond .ne 43, 3) := by decide +kernel
theorem dX10_partMore_34 : decode cX10_partMore 34 = .ok (.aload_n 0, 1) := by decide +kernel
theorem dX10_partMore_35 : decode cX10_partMore 35 = .ok (.iload_n 3, 1) := by decide +kernel
theorem dX10_partMore_36 : decode cX10_partMore 36 = .ok (.iload 4, 2) := by decide +kernel
theorem dX10_partMore_38 : decode cX10_partMore 38 = .ok (.invokevirtual 249, 3) := by decide +kernel
theorem dX10_partMore_41 : decode cX10_partMore 41 = .ok (.ifCond .eq 33, 3) := by decide +kernel
theorem dX10_partMore_44 : decode cX10_partMore 44 = .ok (.aload_n 0, 1) := by decide +kernel
theorem dX10_partMore_45 : decode cX10_partMore 45 = .ok (.getfield 95, 3) := by decide +kernel
theorem dX10_partMore_48 : decode cX10_partMore 48 = .ok (.sipush 300, 3) := by decide +kernel
theorem dX10_partMore_51 : decode cX10_partMore 51 = .ok (.iload_n 3, 1) := by decide +kernel
theorem dX10_partMore_52 : decode cX10_partMore 52 = .ok (.imul, 1) := by decide +kernel
theorem dX10_partMore_53 : decode cX10_partMore 53 = .ok (.iload 4, 2) := by decide +kernel
theorem dX10_partMore_55 : decode cX10_partMore 55 = .ok (.iadd, 1) := by decide +kernel
theorem dX10_partMore_56 : decode cX10_partMore 56 = .ok (.iconst 1, 1) := by decide +kernel
theorem dX10_partMore_57 : decode cX10_partMore 57 = .ok (.bastore, 1) := by decide +kernel
theorem dX10_partMore_58 : decode cX10_partMore 58 = .ok (.aload_n 0, 1) := by decide +kernel
theorem dX10_partMore_59 : decode cX10_partMore 59 = .ok (.getfield 95, 3) := by decide +kernel
theorem dX10_partMore_62 : decode cX10_partMore 62 = .ok (.sipush 300, 3) := by decide +kernel
theorem dX10_partMore_65 : decode cX10_partMore 65 = .ok (.iload 4, 2) := by decide +kernel
theorem dX10_partMore_67 : decode cX10_partMore 67 = .ok (.imul, 1) := by decide +kernel
theorem dX10_partMore_68 : decode cX10_partMore 68 = .ok (.iload_n 3, 1) := by decide +kernel
theorem dX10_partMore_69 : decode cX10_partMore 69 = .ok (.iadd, 1) := by decide +kernel
theorem dX10_partMore_70 : decode cX10_partMore 70 = .ok (.iconst 1, 1) := by decide +kernel
theorem dX10_partMore_71 : decode cX10_partMore 71 = .ok (.bastore, 1) := by decide +kernel
theorem dX10_partMore_72 : decode cX10_partMore 72 = .ok (.iconst 1, 1) := by decide +kernel
theorem dX10_partMore_73 : decode cX10_partMore 73 = .ok (.istore_n 2, 1) := by decide +kernel
theorem dX10_partMore_74 : decode cX10_partMore 74 = .ok (.iinc 4 1, 3) := by decide +kernel
theorem dX10_partMore_77 : decode cX10_partMore 77 = .ok (.goto (-65), 3) := by decide +kernel
theorem dX10_partMore_80 : decode cX10_partMore 80 = .ok (.iinc 3 1, 3) := by decide +kernel
theorem dX10_partMore_83 : decode cX10_partMore 83 = .ok (.goto (-79), 3) := by decide +kernel
theorem dX10_partMore_86 : decode cX10_partMore 86 = .ok (.iload_n 2, 1) := by decide +kernel
theorem dX10_partMore_87 : decode cX10_partMore 87 = .ok (.ireturn, 1) := by decide +kernel
theorem dX10_nowApart_0 : decode cX10_nowApart 0 = .ok (.aload_n 0, 1) := by decide +kernel
theorem dX10_nowApart_1 : decode cX10_nowApart 1 = .ok (.iconst 0, 1) := by decide +kernel
theorem dX10_nowApart_2 : decode cX10_nowApart 2 = .ok (.iload_n 1, 1) := by decide +kernel
theorem dX10_nowApart_3 : decode cX10_nowApart 3 = .ok (.invokevirtual 245, 3) := by decide +kernel
theorem dX10_nowApart_6 : decode cX10_nowApart 6 = .ok (.aload_n 0, 1) := by decide +kernel
theorem dX10_nowApart_7 : decode cX10_nowApart 7 = .ok (.iconst 0, 1) := by decide +kernel
theorem dX10_nowApart_8 : decode cX10_nowApart 8 = .ok (.iload_n 2, 1) := by decide +kernel
theorem dX10_nowApart_9 : decode cX10_nowApart 9 = .ok (.invokevirtual 245, 3) := by decide +kernel
theorem dX10_nowApart_12 : decode cX10_nowApart 12 = .ok (.if_icmp .eq 7, 3) := by decide +kernel
theorem dX10_nowApart_15 : decode cX10_nowApart 15 = .ok (.iconst 1, 1) := by decide +kernel
theorem dX10_nowApart_16 : decode cX10_nowApart 16 = .ok (.goto 4, 3) := by decide +kernel
theorem dX10_nowApart_19 : decode cX10_nowApart 19 = .ok (.iconst 0, 1) := by decide +kernel
theorem dX10_nowApart_20 : decode cX10_nowApart 20 = .ok (.istore_n 3, 1) := by decide +kernel
theorem dX10_nowApart_21 : decode cX10_nowApart 21 = .ok (.iconst 0, 1) := by decide +kernel
theorem dX10_nowApart_22 : decode cX10_nowApart 22 = .ok (.istore 4, 2) := by decide +kernel
theorem dX10_nowApart_24 : decode cX10_nowApart 24 = .ok (.iload 4, 2) := by decide +kernel
theorem dX10_nowApart_26 : decode cX10_nowApart 26 = .ok (.bipush 36, 2) := by decide +kernel
theorem dX10_nowApart_28 : decode cX10_nowApart 28 = .ok (.if_icmp .ge 48, 3) := by decide +kernel
theorem dX10_nowApart_31 : decode cX10_nowApart 31 = .ok (.iload_n 3, 1) := by decide +kernel
theorem dX10_nowApart_32 : decode cX10_nowApart 32 = .ok (.ifCond .ne 44, 3) := by decide +kernel
theorem dX10_nowApart_35 : decode cX10_nowApart 35 = .ok (.aload_n 0, 1) := by decide +kernel
theorem dX10_nowApart_36 : decode cX10_nowApart 36 = .ok (.getfield 95, 3) := by decide +kernel
theorem dX10_nowApart_39 : decode cX10_nowApart 39 = .ok (.sipush 300, 3) := by decide +kernel
theorem dX10_nowApart_42 : decode cX10_nowApart 42 = .ok (.aload_n 0, 1) := by decide +kernel
theorem dX10_nowApart_43 : decode cX10_nowApart 43 = .ok (.getfield 85, 3) := by decide +kernel
theorem dX10_nowApart_46 : decode cX10_nowApart 46 = .ok (.bipush 36, 2) := by decide +kernel
theorem dX10_nowApart_48 : decode cX10_nowApart 48 = .ok (.iload_n 1, 1) := by decide +kernel
theorem dX10_nowApart_49 : decode cX10_nowApart 49 = .ok (.imul, 1) := by decide +kernel
theorem dX10_nowApart_50 : decode cX10_nowApart 50 = .ok (.iload 4, 2) := by decide +kernel
theorem dX10_nowApart_52 : decode cX10_nowApart 52 = .ok (.iadd, 1) := by decide +kernel
theorem dX10_nowApart_53 : decode cX10_nowApart 53 = .ok (.iaload, 1) := by decide +kernel
theorem dX10_nowApart_54 : decode cX10_nowApart 54 = .ok (.imul, 1) := by decide +kernel
theorem dX10_nowApart_55 : decode cX10_nowApart 55 = .ok (.aload_n 0, 1) := by decide +kernel
theorem dX10_nowApart_56 : decode cX10_nowApart 56 = .ok (.getfield 85, 3) := by decide +kernel
theorem dX10_nowApart_59 : decode cX10_nowApart 59 = .ok (.bipush 36, 2) := by decide +kernel
theorem dX10_nowApart_61 : decode cX10_nowApart 61 = .ok (.iload_n 2, 1) := by decide +kernel
theorem dX10_nowApart_62 : decode cX10_nowApart 62 = .ok (.imul, 1) := by decide +kernel
theorem dX10_nowApart_63 : decode cX10_nowApart 63 = .ok (.iload 4, 2) := by decide +kernel
theorem dX10_nowApart_65 : decode cX10_nowApart 65 = .ok (.iadd, 1) := by decide +kernel
theorem dX10_nowApart_66 : decode cX10_nowApart 66 = .ok (.iaload, 1) := by decide +kernel
theorem dX10_nowApart_67 : decode cX10_nowApart 67 = .ok (.iadd, 1) := by decide +kernel
theorem dX10_nowApart_68 : decode cX10_nowApart 68 = .ok (.baload, 1) := by decide +kernel
theorem dX10_nowApart_69 : decode cX10_nowApart 69 = .ok (.istore_n 3, 1) := by decide +kernel
theorem dX10_nowApart_70 : decode cX10_nowApart 70 = .ok (.iinc 4 1, 3) := by decide +kernel
theorem dX10_nowApart_73 : decode cX10_nowApart 73 = .ok (.goto (-49), 3) := by decide +kernel
theorem dX10_nowApart_76 : decode cX10_nowApart 76 = .ok (.iload_n 3, 1) := by decide +kernel
theorem dX10_nowApart_77 : decode cX10_nowApart 77 = .ok (.ireturn, 1) := by decide +kernel
theorem dX10_classes_0 : decode cX10_classes 0 = .ok (.aload_n 0, 1) := by decide +kernel
theorem dX10_classes_1 : decode cX10_classes 1 = .ok (.invokevirtual 211, 3) := by decide +kernel
theorem dX10_classes_4 : decode cX10_classes 4 = .ok (.ifCond .eq 5, 3) := by decide +kernel
theorem dX10_classes_7 : decode cX10_classes 7 = .ok (.iconst 0, 1) := by decide +kernel
theorem dX10_classes_8 : decode cX10_classes 8 = .ok (.ireturn, 1) := by decide +kernel
theorem dX10_classes_9 : decode cX10_classes 9 = .ok (.aload_n 0, 1) := by decide +kernel
theorem dX10_classes_10 : decode cX10_classes 10 = .ok (.iconst 0, 1) := by decide +kernel
theorem dX10_classes_11 : decode cX10_classes 11 = .ok (.invokevirtual 239, 3) := by decide +kernel
theorem dX10_classes_14 : decode cX10_classes 14 = .ok (.aload_n 0, 1) := by decide +kernel
theorem dX10_classes_15 : decode cX10_classes 15 = .ok (.getfield 91, 3) := by decide +kernel
theorem dX10_classes_18 : decode cX10_classes 18 = .ok (.iconst 0, 1) := by decide +kernel
theorem dX10_classes_19 : decode cX10_classes 19 = .ok (.baload, 1) := by decide +kernel
theorem dX10_classes_20 : decode cX10_classes 20 = .ok (.ifCond .eq 5, 3) := by decide +kernel
theorem dX10_classes_23 : decode cX10_classes 23 = .ok (.iconst (-1), 1) := by decide +kernel
theorem dX10_classes_24 : decode cX10_classes 24 = .ok (.ireturn, 1) := by decide +kernel
theorem dX10_classes_25 : decode cX10_classes 25 = .ok (.aload_n 0, 1) := by decide +kernel
theorem dX10_classes_26 : decode cX10_classes 26 = .ok (.getfield 88, 3) := by decide +kernel
theorem dX10_classes_29 : decode cX10_classes 29 = .ok (.iconst 0, 1) := by decide +kernel
theorem dX10_classes_30 : decode cX10_classes 30 = .ok (.iaload, 1) := by decide +kernel
theorem dX10_classes_31 : decode cX10_classes 31 = .ok (.istore_n 1, 1) := by decide +kernel
theorem dX10_classes_32 : decode cX10_classes 32 = .ok (.iconst 0, 1) := by decide +kernel
theorem dX10_classes_33 : decode cX10_classes 33 = .ok (.istore_n 2, 1) := by decide +kernel
theorem dX10_classes_34 : decode cX10_classes 34 = .ok (.iload_n 2, 1) := by decide +kernel
theorem dX10_classes_35 : decode cX10_classes 35 = .ok (.ldc 94, 2) := by decide +kernel
theorem dX10_classes_37 : decode cX10_classes 37 = .ok (.if_icmp .ge 16, 3) := by decide +kernel
theorem dX10_classes_40 : decode cX10_classes 40 = .ok (.aload_n 0, 1) := by decide +kernel
theorem dX10_classes_41 : decode cX10_classes 41 = .ok (.getfield 95, 3) := by decide +kernel
theorem dX10_classes_44 : decode cX10_classes 44 = .ok (.iload_n 2, 1) := by decide +kernel
theorem dX10_classes_45 : decode cX10_classes 45 = .ok (.iconst 0, 1) := by decide +kernel
theorem dX10_classes_46 : decode cX10_classes 46 = .ok (.bastore, 1) := by decide +kernel
theorem dX10_classes_47 : decode cX10_classes 47 = .ok (.iinc 2 1, 3) := by decide +kernel
theorem dX10_classes_50 : decode cX10_classes 50 = .ok (.goto (-16), 3) := by decide +kernel
theorem dX10_classes_53 : decode cX10_classes 53 = .ok (.iconst 1, 1) := by decide +kernel
theorem dX10_classes_54 : decode cX10_classes 54 = .ok (.istore_n 2, 1) := by decide +kernel
theorem dX10_classes_55 : decode cX10_classes 55 = .ok (.iload_n 2, 1) := by decide +kernel
theorem dX10_classes_56 : decode cX10_classes 56 = .ok (.ifCond .eq 12, 3) := by decide +kernel
theorem dX10_classes_59 : decode cX10_classes 59 = .ok (.aload_n 0, 1) := by decide +kernel
theorem dX10_classes_60 : decode cX10_classes 60 = .ok (.iload_n 1, 1) := by decide +kernel
theorem dX10_classes_61 : decode cX10_classes 61 = .ok (.invokevirtual 252, 3) := by decide +kernel
theorem dX10_classes_64 : decode cX10_classes 64 = .ok (.istore_n 2, 1) := by decide +kernel
theorem dX10_classes_65 : decode cX10_classes 65 = .ok (.goto (-10), 3) := by decide +kernel
theorem dX10_classes_68 : decode cX10_classes 68 = .ok (.iconst 0, 1) := by decide +kernel
theorem dX10_classes_69 : decode cX10_classes 69 = .ok (.istore_n 3, 1) := by decide +kernel
theorem dX10_classes_70 : decode cX10_classes 70 = .ok (.iconst 0, 1) := by decide +kernel
theorem dX10_classes_71 : decode cX10_classes 71 = .ok (.istore 4, 2) := by decide +kernel
theorem dX10_classes_73 : decode cX10_classes 73 = .ok (.iload 4, 2) := by decide +kernel
theorem dX10_classes_75 : decode cX10_classes 75 = .ok (.iload_n 1, 1) := by decide +kernel
theorem dX10_classes_76 : decode cX10_classes 76 = .ok (.if_icmp .ge 70, 3) := by decide +kernel
theorem dX10_classes_79 : decode cX10_classes 79 = .ok (.iconst 1, 1) := by decide +kernel
theorem dX10_classes_80 : decode cX10_classes 80 = .ok (.istore 5, 2) := by decide +kernel
theorem dX10_classes_82 : decode cX10_classes 82 = .ok (.iconst 0, 1) := by decide +kernel
theorem dX10_classes_83 : decode cX10_classes 83 = .ok (.istore 6, 2) := by decide +kernel
theorem dX10_classes_85 : decode cX10_classes 85 = .ok (.iload 6, 2) := by decide +kernel
theorem dX10_classes_87 : decode cX10_classes 87 = .ok (.iload 4, 2) := by decide +kernel
theorem dX10_classes_89 : decode cX10_classes 89 = .ok (.if_icmp .ge 38, 3) := by decide +kernel
theorem dX10_classes_92 : decode cX10_classes 92 = .ok (.iload 5, 2) := by decide +kernel
theorem dX10_classes_94 : decode cX10_classes 94 = .ok (.ifCond .eq 24, 3) := by decide +kernel
theorem dX10_classes_97 : decode cX10_classes 97 = .ok (.aload_n 0, 1) := by decide +kernel
theorem dX10_classes_98 : decode cX10_classes 98 = .ok (.getfield 95, 3) := by decide +kernel
theorem dX10_classes_101 : decode cX10_classes 101 = .ok (.sipush 300, 3) := by decide +kernel
theorem dX10_classes_104 : decode cX10_classes 104 = .ok (.iload 4, 2) := by decide +kernel
theorem dX10_classes_106 : decode cX10_classes 106 = .ok (.imul, 1) := by decide +kernel
theorem dX10_classes_107 : decode cX10_classes 107 = .ok (.iload 6, 2) := by decide +kernel
theorem dX10_classes_109 : decode cX10_classes 109 = .ok (.iadd, 1) := by decide +kernel
theorem dX10_classes_110 : decode cX10_classes 110 = .ok (.baload, 1) := by decide +kernel
theorem dX10_classes_111 : decode cX10_classes 111 = .ok (.ifCond .eq 7, 3) := by decide +kernel
theorem dX10_classes_114 : decode cX10_classes 114 = .ok (.iconst 1, 1) := by decide +kernel
theorem dX10_classes_115 : decode cX10_classes 115 = .ok (.goto 4, 3) := by decide +kernel
theorem dX10_classes_118 : decode cX10_classes 118 = .ok (.iconst 0, 1) := by decide +kernel
theorem dX10_classes_119 : decode cX10_classes 119 = .ok (.istore 5, 2) := by decide +kernel
theorem dX10_classes_121 : decode cX10_classes 121 = .ok (.iinc 6 1, 3) := by decide +kernel
theorem dX10_classes_124 : decode cX10_classes 124 = .ok (.goto (-39), 3) := by decide +kernel
theorem dX10_classes_127 : decode cX10_classes 127 = .ok (.iload 5, 2) := by decide +kernel
theorem dX10_classes_129 : decode cX10_classes 129 = .ok (.ifCond .eq 9, 3) := by decide +kernel
theorem dX10_classes_132 : decode cX10_classes 132 = .ok (.iload_n 3, 1) := by decide +kernel
theorem dX10_classes_133 : decode cX10_classes 133 = .ok (.iconst 1, 1) := by decide +kernel
theorem dX10_classes_134 : decode cX10_classes 134 = .ok (.iadd, 1) := by decide +kernel
theorem dX10_classes_135 : decode cX10_classes 135 = .ok (.goto 4, 3) := by decide +kernel
theorem dX10_classes_138 : decode cX10_classes 138 = .ok (.iload_n 3, 1) := by decide +kernel
theorem dX10_classes_139 : decode cX10_classes 139 = .ok (.istore_n 3, 1) := by decide +kernel
theorem dX10_classes_140 : decode cX10_classes 140 = .ok (.iinc 4 1, 3) := by decide +kernel
theorem dX10_classes_143 : decode cX10_classes 143 = .ok (.goto (-70), 3) := by decide +kernel
theorem dX10_classes_146 : decode cX10_classes 146 = .ok (.iload_n 3, 1) := by decide +kernel
theorem dX10_classes_147 : decode cX10_classes 147 = .ok (.ireturn, 1) := by decide +kernel
theorem dX10_keep_0 : decode cX10_keep 0 = .ok (.aload_n 0, 1) := by decide +kernel
theorem dX10_keep_1 : decode cX10_keep 1 = .ok (.invokevirtual 211, 3) := by decide +kernel
theorem dX10_keep_4 : decode cX10_keep 4 = .ok (.ifCond .ne 9, 3) := by decide +kernel
theorem dX10_keep_7 : decode cX10_keep 7 = .ok (.aload_n 0, 1) := by decide +kernel
theorem dX10_keep_8 : decode cX10_keep 8 = .ok (.iconst 0, 1) := by decide +kernel
theorem dX10_keep_9 : decode cX10_keep 9 = .ok (.iconst 1, 1) := by decide +kernel
theorem dX10_keep_10 : decode cX10_keep 10 = .ok (.invokevirtual 208, 3) := by decide +kernel
theorem dX10_keep_13 : decode cX10_keep 13 = .ok (.return_, 1) := by decide +kernel
theorem dX10_spell_0 : decode cX10_spell 0 = .ok (.aload_n 0, 1) := by decide +kernel
theorem dX10_spell_1 : decode cX10_spell 1 = .ok (.iconst 0, 1) := by decide +kernel
theorem dX10_spell_2 : decode cX10_spell 2 = .ok (.putfield 255, 3) := by decide +kernel
theorem dX10_spell_5 : decode cX10_spell 5 = .ok (.iload_n 1, 1) := by decide +kernel
theorem dX10_spell_6 : decode cX10_spell 6 = .ok (.istore_n 2, 1) := by decide +kernel
theorem dX10_spell_7 : decode cX10_spell 7 = .ok (.iload_n 2, 1) := by decide +kernel
theorem dX10_spell_8 : decode cX10_spell 8 = .ok (.ifCond .eq 23, 3) := by decide +kernel
theorem dX10_spell_11 : decode cX10_spell 11 = .ok (.aload_n 0, 1) := by decide +kernel
theorem dX10_spell_12 : decode cX10_spell 12 = .ok (.dup, 1) := by decide +kernel
theorem dX10_spell_13 : decode cX10_spell 13 = .ok (.getfield 255, 3) := by decide +kernel
theorem dX10_spell_16 : decode cX10_spell 16 = .ok (.iconst 1, 1) := by decide +kernel
theorem dX10_spell_17 : decode cX10_spell 17 = .ok (.iadd, 1) := by decide +kernel
theorem dX10_spell_18 : decode cX10_spell 18 = .ok (.putfield 255, 3) := by decide +kernel
theorem dX10_spell_21 : decode cX10_spell 21 = .ok (.aload_n 0, 1) := by decide +kernel
theorem dX10_spell_22 : decode cX10_spell 22 = .ok (.getfield 101, 3) := by decide +kernel
theorem dX10_spell_25 : decode cX10_spell 25 = .ok (.iload_n 2, 1) := by decide +kernel
theorem dX10_spell_26 : decode cX10_spell 26 = .ok (.iaload, 1) := by decide +kernel
theorem dX10_spell_27 : decode cX10_spell 27 = .ok (.istore_n 2, 1) := by decide +kernel
theorem dX10_spell_28 : decode cX10_spell 28 = .ok (.goto (-21), 3) := by decide +kernel
theorem dX10_spell_31 : decode cX10_spell 31 = .ok (.aload_n 0, 1) := by decide +kernel
theorem dX10_spell_32 : decode cX10_spell 32 = .ok (.getfield 255, 3) := by decide +kernel
theorem dX10_spell_35 : decode cX10_spell 35 = .ok (.istore_n 2, 1) := by decide +kernel
theorem dX10_spell_36 : decode cX10_spell 36 = .ok (.iload_n 1, 1) := by decide +kernel
theorem dX10_spell_37 : decode cX10_spell 37 = .ok (.istore_n 3, 1) := by decide +kernel
theorem dX10_spell_38 : decode cX10_spell 38 = .ok (.iload_n 3, 1) := by decide +kernel
theorem dX10_spell_39 : decode cX10_spell 39 = .ok (.ifCond .eq 28, 3) := by decide +kernel
theorem dX10_spell_42 : decode cX10_spell 42 = .ok (.iinc 2 (-1), 3) := by decide +kernel
theorem dX10_spell_45 : decode cX10_spell 45 = .ok (.aload_n 0, 1) := by decide +kernel
theorem dX10_spell_46 : decode cX10_spell 46 = .ok (.getfield 107, 3) := by decide +kernel
theorem dX10_spell_49 : decode cX10_spell 49 = .ok (.iload_n 2, 1) := by decide +kernel
theorem dX10_spell_50 : decode cX10_spell 50 = .ok (.aload_n 0, 1) := by decide +kernel
theorem dX10_spell_51 : decode cX10_spell 51 = .ok (.getfield 104, 3) := by decide +kernel
theorem dX10_spell_54 : decode cX10_spell 54 = .ok (.iload_n 3, 1) := by decide +kernel
theorem dX10_spell_55 : decode cX10_spell 55 = .ok (.iaload, 1) := by decide +kernel
theorem dX10_spell_56 : decode cX10_spell 56 = .ok (.iastore, 1) := by decide +kernel
theorem dX10_spell_57 : decode cX10_spell 57 = .ok (.aload_n 0, 1) := by decide +kernel
theorem dX10_spell_58 : decode cX10_spell 58 = .ok (.getfield 101, 3) := by decide +kernel
theorem dX10_spell_61 : decode cX10_spell 61 = .ok (.iload_n 3, 1) := by decide +kernel
theorem dX10_spell_62 : decode cX10_spell 62 = .ok (.iaload, 1) := by decide +kernel
theorem dX10_spell_63 : decode cX10_spell 63 = .ok (.istore_n 3, 1) := by decide +kernel
theorem dX10_spell_64 : decode cX10_spell 64 = .ok (.goto (-26), 3) := by decide +kernel
theorem dX10_spell_67 : decode cX10_spell 67 = .ok (.return_, 1) := by decide +kernel
theorem dX10_differ_0 : decode cX10_differ 0 = .ok (.aload_n 0, 1) := by decide +kernel
theorem dX10_differ_1 : decode cX10_differ 1 = .ok (.aload_n 0, 1) := by decide +kernel
theorem dX10_differ_2 : decode cX10_differ 2 = .ok (.getfield 20, 3) := by decide +kernel
theorem dX10_differ_5 : decode cX10_differ 5 = .ok (.iconst 0, 1) := by decide +kernel
theorem dX10_differ_6 : decode cX10_differ 6 = .ok (.baload, 1) := by decide +kernel
theorem dX10_differ_7 : decode cX10_differ 7 = .ok (.ifCond .eq 16, 3) := by decide +kernel
theorem dX10_differ_10 : decode cX10_differ 10 = .ok (.aload_n 0, 1) := by decide +kernel
theorem dX10_differ_11 : decode cX10_differ 11 = .ok (.getfield 20, 3) := by decide +kernel
theorem dX10_differ_14 : decode cX10_differ 14 = .ok (.iconst 1, 1) := by decide +kernel
theorem dX10_differ_15 : decode cX10_differ 15 = .ok (.baload, 1) := by decide +kernel
theorem dX10_differ_16 : decode cX10_differ 16 = .ok (.ifCond .eq 7, 3) := by decide +kernel
theorem dX10_differ_19 : decode cX10_differ 19 = .ok (.iconst 0, 1) := by decide +kernel
theorem dX10_differ_20 : decode cX10_differ 20 = .ok (.goto 4, 3) := by decide +kernel
theorem dX10_differ_23 : decode cX10_differ 23 = .ok (.iconst 1, 1) := by decide +kernel
theorem dX10_differ_24 : decode cX10_differ 24 = .ok (.putfield 116, 3) := by decide +kernel
theorem dX10_differ_27 : decode cX10_differ 27 = .ok (.aload_n 0, 1) := by decide +kernel
theorem dX10_differ_28 : decode cX10_differ 28 = .ok (.getfield 116, 3) := by decide +kernel
theorem dX10_differ_31 : decode cX10_differ 31 = .ok (.ifCond .le 5, 3) := by decide +kernel
theorem dX10_differ_34 : decode cX10_differ 34 = .ok (.iconst 0, 1) := by decide +kernel
theorem dX10_differ_35 : decode cX10_differ 35 = .ok (.ireturn, 1) := by decide +kernel
theorem dX10_differ_36 : decode cX10_differ 36 = .ok (.aload_n 0, 1) := by decide +kernel
theorem dX10_differ_37 : decode cX10_differ 37 = .ok (.iconst 0, 1) := by decide +kernel
theorem dX10_differ_38 : decode cX10_differ 38 = .ok (.invokevirtual 239, 3) := by decide +kernel
theorem dX10_differ_41 : decode cX10_differ 41 = .ok (.aload_n 0, 1) := by decide +kernel
theorem dX10_differ_42 : decode cX10_differ 42 = .ok (.iconst 1, 1) := by decide +kernel
theorem dX10_differ_43 : decode cX10_differ 43 = .ok (.invokevirtual 239, 3) := by decide +kernel
theorem dX10_differ_46 : decode cX10_differ 46 = .ok (.aload_n 0, 1) := by decide +kernel
theorem dX10_differ_47 : decode cX10_differ 47 = .ok (.iconst 0, 1) := by decide +kernel
theorem dX10_differ_48 : decode cX10_differ 48 = .ok (.putfield 255, 3) := by decide +kernel
theorem dX10_differ_51 : decode cX10_differ 51 = .ok (.aload_n 0, 1) := by decide +kernel
theorem dX10_differ_52 : decode cX10_differ 52 = .ok (.getfield 91, 3) := by decide +kernel
theorem dX10_differ_55 : decode cX10_differ 55 = .ok (.iconst 0, 1) := by decide +kernel
theorem dX10_differ_56 : decode cX10_differ 56 = .ok (.baload, 1) := by decide +kernel
theorem dX10_differ_57 : decode cX10_differ 57 = .ok (.ifCond .ne 12, 3) := by decide +kernel
theorem dX10_differ_60 : decode cX10_differ 60 = .ok (.aload_n 0, 1) := by decide +kernel
theorem dX10_differ_61 : decode cX10_differ 61 = .ok (.getfield 91, 3) := by decide +kernel
theorem dX10_differ_64 : decode cX10_differ 64 = .ok (.iconst 1, 1) := by decide +kernel
theorem dX10_differ_65 : decode cX10_differ 65 = .ok (.baload, 1) := by decide +kernel
theorem dX10_differ_66 : decode cX10_differ 66 = .ok (.ifCond .eq 6, 3) := by decide +kernel
theorem dX10_differ_69 : decode cX10_differ 69 = .ok (.bipush (-2), 2) := by decide +kernel
theorem dX10_differ_71 : decode cX10_differ 71 = .ok (.ireturn, 1) := by decide +kernel
theorem dX10_differ_72 : decode cX10_differ 72 = .ok (.iconst 0, 1) := by decide +kernel
theorem dX10_differ_73 : decode cX10_differ 73 = .ok (.istore_n 1, 1) := by decide +kernel
theorem dX10_differ_74 : decode cX10_differ 74 = .ok (.iload_n 1, 1) := by decide +kernel
theorem dX10_differ_75 : decode cX10_differ 75 = .ok (.ldc 94, 2) := by decide +kernel
theorem dX10_differ_77 : decode cX10_differ 77 = .ok (.if_icmp .ge 16, 3) := by decide +kernel
theorem dX10_differ_80 : decode cX10_differ 80 = .ok (.aload_n 0, 1) := by decide +kernel
theorem dX10_differ_81 : decode cX10_differ 81 = .ok (.getfield 95, 3) := by decide +kernel
theorem dX10_differ_84 : decode cX10_differ 84 = .ok (.iload_n 1, 1) := by decide +kernel
theorem dX10_differ_85 : decode cX10_differ 85 = .ok (.iconst 0, 1) := by decide +kernel
theorem dX10_differ_86 : decode cX10_differ 86 = .ok (.bastore, 1) := by decide +kernel
theorem dX10_differ_87 : decode cX10_differ 87 = .ok (.iinc 1 1, 3) := by decide +kernel
theorem dX10_differ_90 : decode cX10_differ 90 = .ok (.goto (-16), 3) := by decide +kernel
theorem dX10_differ_93 : decode cX10_differ 93 = .ok (.iconst 1, 1) := by decide +kernel
theorem dX10_differ_94 : decode cX10_differ 94 = .ok (.istore_n 1, 1) := by decide +kernel
theorem dX10_differ_95 : decode cX10_differ 95 = .ok (.aload_n 0, 1) := by decide +kernel
theorem dX10_differ_96 : decode cX10_differ 96 = .ok (.getfield 98, 3) := by decide +kernel
theorem dX10_differ_99 : decode cX10_differ 99 = .ok (.iconst 0, 1) := by decide +kernel
theorem dX10_differ_100 : decode cX10_differ 100 = .ok (.iconst 0, 1) := by decide +kernel
theorem dX10_differ_101 : decode cX10_differ 101 = .ok (.iastore, 1) := by decide +kernel
theorem dX10_differ_102 : decode cX10_differ 102 = .ok (.aload_n 0, 1) := by decide +kernel
theorem dX10_differ_103 : decode cX10_differ 103 = .ok (.getfield 95, 3) := by decide +kernel
theorem dX10_differ_106 : decode cX10_differ 106 = .ok (.iconst 0, 1) := by decide +kernel
theorem dX10_differ_107 : decode cX10_differ 107 = .ok (.iconst 1, 1) := by decide +kernel
theorem dX10_differ_108 : decode cX10_differ 108 = .ok (.bastore, 1) := by decide +kernel
theorem dX10_differ_109 : decode cX10_differ 109 = .ok (.iconst 0, 1) := by decide +kernel
theorem dX10_differ_110 : decode cX10_differ 110 = .ok (.istore_n 2, 1) := by decide +kernel
theorem dX10_differ_111 : decode cX10_differ 111 = .ok (.iload_n 2, 1) := by decide +kernel
theorem dX10_differ_112 : decode cX10_differ 112 = .ok (.iload_n 1, 1) := by decide +kernel
theorem dX10_differ_113 : decode cX10_differ 113 = .ok (.if_icmp .ge 154, 3) := by decide +kernel
theorem dX10_differ_116 : decode cX10_differ 116 = .ok (.aload_n 0, 1) := by decide +kernel
theorem dX10_differ_117 : decode cX10_differ 117 = .ok (.getfield 98, 3) := by decide +kernel
theorem dX10_differ_120 : decode cX10_differ 120 = .ok (.iload_n 2, 1) := by decide +kernel
theorem dX10_differ_121 : decode cX10_differ 121 = .ok (.iaload, 1) := by decide +kernel
theorem dX10_differ_122 : decode cX10_differ 122 = .ok (.sipush 300, 3) := by decide +kernel
theorem dX10_differ_125 : decode cX10_differ 125 = .ok (.idiv, 1) := by decide +kernel
theorem dX10_differ_126 : decode cX10_differ 126 = .ok (.istore_n 3, 1) := by decide +kernel
theorem dX10_differ_127 : decode cX10_differ 127 = .ok (.aload_n 0, 1) := by decide +kernel
theorem dX10_differ_128 : decode cX10_differ 128 = .ok (.getfield 98, 3) := by decide +kernel
theorem dX10_differ_131 : decode cX10_differ 131 = .ok (.iload_n 2, 1) := by decide +kernel
theorem dX10_differ_132 : decode cX10_differ 132 = .ok (.iaload, 1) := by decide +kernel
theorem dX10_differ_133 : decode cX10_differ 133 = .ok (.sipush 300, 3) := by decide +kernel
theorem dX10_differ_136 : decode cX10_differ 136 = .ok (.irem, 1) := by decide +kernel
theorem dX10_differ_137 : decode cX10_differ 137 = .ok (.istore 4, 2) := by decide +kernel
theorem dX10_differ_139 : decode cX10_differ 139 = .ok (.aload_n 0, 1) := by decide +kernel
theorem dX10_differ_140 : decode cX10_differ 140 = .ok (.iconst 0, 1) := by decide +kernel
theorem dX10_differ_141 : decode cX10_differ 141 = .ok (.iload_n 3, 1) := by decide +kernel
theorem dX10_differ_142 : decode cX10_differ 142 = .ok (.invokevirtual 245, 3) := by decide +kernel
theorem dX10_differ_145 : decode cX10_differ 145 = .ok (.aload_n 0, 1) := by decide +kernel
theorem dX10_differ_146 : decode cX10_differ 146 = .ok (.iconst 1, 1) := by decide +kernel
theorem dX10_differ_147 : decode cX10_differ 147 = .ok (.iload 4, 2) := by decide +kernel
theorem dX10_differ_149 : decode cX10_differ 149 = .ok (.invokevirtual 245, 3) := by decide +kernel
theorem dX10_differ_152 : decode cX10_differ 152 = .ok (.if_icmp .eq 13, 3) := by decide +kernel
theorem dX10_differ_155 : decode cX10_differ 155 = .ok (.aload_n 0, 1) := by decide +kernel
theorem dX10_differ_156 : decode cX10_differ 156 = .ok (.iload_n 2, 1) := by decide +kernel
theorem dX10_differ_157 : decode cX10_differ 157 = .ok (.invokevirtual 258, 3) := by decide +kernel
theorem dX10_differ_160 : decode cX10_differ 160 = .ok (.aload_n 0, 1) := by decide +kernel
theorem dX10_differ_161 : decode cX10_differ 161 = .ok (.getfield 255, 3) := by decide +kernel
theorem dX10_differ_164 : decode cX10_differ 164 = .ok (.ireturn, 1) := by decide +kernel
theorem dX10_differ_165 : decode cX10_differ 165 = .ok (.iconst 0, 1) := by decide +kernel
theorem dX10_differ_166 : decode cX10_differ 166 = .ok (.istore 5, 2) := by decide +kernel
theorem dX10_differ_168 : decode cX10_differ 168 = .ok (.iload 5, 2) := by decide +kernel
theorem dX10_differ_170 : decode cX10_differ 170 = .ok (.bipush 36, 2) := by decide +kernel
theorem dX10_differ_172 : decode cX10_differ 172 = .ok (.if_icmp .ge 89, 3) := by decide +kernel
theorem dX10_differ_175 : decode cX10_differ 175 = .ok (.sipush 300, 3) := by decide +kernel
theorem dX10_differ_178 : decode cX10_differ 178 = .ok (.aload_n 0, 1) := by decide +kernel
theorem dX10_differ_179 : decode cX10_differ 179 = .ok (.getfield 85, 3) := by decide +kernel
theorem dX10_differ_182 : decode cX10_differ 182 = .ok (.bipush 36, 2) := by decide +kernel
theorem dX10_differ_184 : decode cX10_differ 184 = .ok (.iload_n 3, 1) := by decide +kernel
theorem dX10_differ_185 : decode cX10_differ 185 = .ok (.imul, 1) := by decide +kernel
theorem dX10_differ_186 : decode cX10_differ 186 = .ok (.iload 5, 2) := by decide +kernel
theorem dX10_differ_188 : decode cX10_differ 188 = .ok (.iadd, 1) := by decide +kernel
theorem dX10_differ_189 : decode cX10_differ 189 = .ok (.iaload, 1) := by decide +kernel
theorem dX10_differ_190 : decode cX10_differ 190 = .ok (.imul, 1) := by decide +kernel
theorem dX10_differ_191 : decode cX10_differ 191 = .ok (.aload_n 0, 1) := by decide +kernel
theorem dX10_differ_192 : decode cX10_differ 192 = .ok (.getfield 85, 3) := by decide +kernel
theorem dX10_differ_195 : decode cX10_differ 195 = .ok (.sipush 10800, 3) := by decide +kernel
theorem dX10_differ_198 : decode cX10_differ 198 = .ok (.bipush 36, 2) := by decide +kernel
theorem dX10_differ_200 : decode cX10_differ 200 = .ok (.iload 4, 2) := by decide +kernel
theorem dX10_differ_202 : decode cX10_differ 202 = .ok (.imul, 1) := by decide +kernel
theorem dX10_differ_203 : decode cX10_differ 203 = .ok (.iadd, 1) := by decide +kernel
theorem dX10_differ_204 : decode cX10_differ 204 = .ok (.iload 5, 2) := by decide +kernel
theorem dX10_differ_206 : decode cX10_differ 206 = .ok (.iadd, 1) := by decide +kernel
theorem dX10_differ_207 : decode cX10_differ 207 = .ok (.iaload, 1) := by decide +kernel
theorem dX10_differ_208 : decode cX10_differ 208 = .ok (.iadd, 1) := by decide +kernel
theorem dX10_differ_209 : decode cX10_differ 209 = .ok (.istore 6, 2) := by decide +kernel
theorem dX10_differ_211 : decode cX10_differ 211 = .ok (.aload_n 0, 1) := by decide +kernel
theorem dX10_differ_212 : decode cX10_differ 212 = .ok (.getfield 95, 3) := by decide +kernel
theorem dX10_differ_215 : decode cX10_differ 215 = .ok (.iload 6, 2) := by decide +kernel
theorem dX10_differ_217 : decode cX10_differ 217 = .ok (.baload, 1) := by decide +kernel
theorem dX10_differ_218 : decode cX10_differ 218 = .ok (.ifCond .ne 37, 3) := by decide +kernel
theorem dX10_differ_221 : decode cX10_differ 221 = .ok (.aload_n 0, 1) := by decide +kernel
theorem dX10_differ_222 : decode cX10_differ 222 = .ok (.getfield 95, 3) := by decide +kernel
theorem dX10_differ_225 : decode cX10_differ 225 = .ok (.iload 6, 2) := by decide +kernel
theorem dX10_differ_227 : decode cX10_differ 227 = .ok (.iconst 1, 1) := by decide +kernel
theorem dX10_differ_228 : decode cX10_differ 228 = .ok (.bastore, 1) := by decide +kernel
theorem dX10_differ_229 : decode cX10_differ 229 = .ok (.aload_n 0, 1) := by decide +kernel
theorem dX10_differ_230 : decode cX10_differ 230 = .ok (.getfield 98, 3) := by decide +kernel
theorem dX10_differ_233 : decode cX10_differ 233 = .ok (.iload_n 1, 1) := by decide +kernel
theorem dX10_differ_234 : decode cX10_differ 234 = .ok (.iload 6, 2) := by decide +kernel
theorem dX10_differ_236 : decode cX10_differ 236 = .ok (.iastore, 1) := by decide +kernel
theorem dX10_differ_237 : decode cX10_differ 237 = .ok (.aload_n 0, 1) := by decide +kernel
theorem dX10_differ_238 : decode cX10_differ 238 = .ok (.getfield 101, 3) := by decide +kernel
theorem dX10_differ_241 : decode cX10_differ 241 = .ok (.iload_n 1, 1) := by decide +kernel
theorem dX10_differ_242 : decode cX10_differ 242 = .ok (.iload_n 2, 1) := by decide +kernel
theorem dX10_differ_243 : decode cX10_differ 243 = .ok (.iastore, 1) := by decide +kernel
theorem dX10_differ_244 : decode cX10_differ 244 = .ok (.aload_n 0, 1) := by decide +kernel
theorem dX10_differ_245 : decode cX10_differ 245 = .ok (.getfield 104, 3) := by decide +kernel
theorem dX10_differ_248 : decode cX10_differ 248 = .ok (.iload_n 1, 1) := by decide +kernel
theorem dX10_differ_249 : decode cX10_differ 249 = .ok (.iload 5, 2) := by decide +kernel
theorem dX10_differ_251 : decode cX10_differ 251 = .ok (.iastore, 1) := by decide +kernel
theorem dX10_differ_252 : decode cX10_differ 252 = .ok (.iinc 1 1, 3) := by decide +kernel
theorem dX10_differ_255 : decode cX10_differ 255 = .ok (.iinc 5 1, 3) := by decide +kernel
theorem dX10_differ_258 : decode cX10_differ 258 = .ok (.goto (-90), 3) := by decide +kernel
theorem dX10_differ_261 : decode cX10_differ 261 = .ok (.iinc 2 1, 3) := by decide +kernel
theorem dX10_differ_264 : decode cX10_differ 264 = .ok (.goto (-153), 3) := by decide +kernel
theorem dX10_differ_267 : decode cX10_differ 267 = .ok (.iconst (-1), 1) := by decide +kernel
theorem dX10_differ_268 : decode cX10_differ 268 = .ok (.ireturn, 1) := by decide +kernel
theorem dX10_letter_0 : decode cX10_letter 0 = .ok (.aload_n 0, 1) := by decide +kernel
theorem dX10_letter_1 : decode cX10_letter 1 = .ok (.iload_n 1, 1) := by decide +kernel
theorem dX10_letter_2 : decode cX10_letter 2 = .ok (.ifCond .lt 11, 3) := by decide +kernel
theorem dX10_letter_5 : decode cX10_letter 5 = .ok (.iload_n 1, 1) := by decide +kernel
theorem dX10_letter_6 : decode cX10_letter 6 = .ok (.aload_n 0, 1) := by decide +kernel
theorem dX10_letter_7 : decode cX10_letter 7 = .ok (.getfield 255, 3) := by decide +kernel
theorem dX10_letter_10 : decode cX10_letter 10 = .ok (.if_icmp .lt 7, 3) := by decide +kernel
theorem dX10_letter_13 : decode cX10_letter 13 = .ok (.iconst 1, 1) := by decide +kernel
theorem dX10_letter_14 : decode cX10_letter 14 = .ok (.goto 4, 3) := by decide +kernel
theorem dX10_letter_17 : decode cX10_letter 17 = .ok (.iconst 0, 1) := by decide +kernel
theorem dX10_letter_18 : decode cX10_letter 18 = .ok (.putfield 116, 3) := by decide +kernel
theorem dX10_letter_21 : decode cX10_letter 21 = .ok (.aload_n 0, 1) := by decide +kernel
theorem dX10_letter_22 : decode cX10_letter 22 = .ok (.getfield 116, 3) := by decide +kernel
theorem dX10_letter_25 : decode cX10_letter 25 = .ok (.ifCond .le 7, 3) := by decide +kernel
theorem dX10_letter_28 : decode cX10_letter 28 = .ok (.iconst 0, 1) := by decide +kernel
theorem dX10_letter_29 : decode cX10_letter 29 = .ok (.goto 9, 3) := by decide +kernel
theorem dX10_letter_32 : decode cX10_letter 32 = .ok (.aload_n 0, 1) := by decide +kernel
theorem dX10_letter_33 : decode cX10_letter 33 = .ok (.getfield 107, 3) := by decide +kernel
theorem dX10_letter_36 : decode cX10_letter 36 = .ok (.iload_n 1, 1) := by decide +kernel
theorem dX10_letter_37 : decode cX10_letter 37 = .ok (.iaload, 1) := by decide +kernel
theorem dX10_letter_38 : decode cX10_letter 38 = .ok (.ireturn, 1) := by decide +kernel
theorem dL_type_0 : decode cL_type 0 = .ok (.aload 4, 2) := by decide +kernel
theorem dL_type_2 : decode cL_type 2 = .ok (.iconst 0, 1) := by decide +kernel
theorem dL_type_3 : decode cL_type 3 = .ok (.aload_n 0, 1) := by decide +kernel
theorem dL_type_4 : decode cL_type 4 = .ok (.lload_n 1, 1) := by decide +kernel
theorem dL_type_5 : decode cL_type 5 = .ok (.iload_n 3, 1) := by decide +kernel
theorem dL_type_6 : decode cL_type 6 = .ok (.invokevirtual 7, 3) := by decide +kernel
theorem dL_type_9 : decode cL_type 9 = .ok (.i2l, 1) := by decide +kernel
theorem dL_type_10 : decode cL_type 10 = .ok (.lastore, 1) := by decide +kernel
theorem dL_type_11 : decode cL_type 11 = .ok (.goto 11, 3) := by decide +kernel
theorem dL_type_14 : decode cL_type 14 = .ok (.astore 5, 2) := by decide +kernel
theorem dL_type_16 : decode cL_type 16 = .ok (.iconst 1, 1) := by decide +kernel
theorem dL_type_17 : decode cL_type 17 = .ok (.ireturn, 1) := by decide +kernel
theorem dL_type_18 : decode cL_type 18 = .ok (.astore 5, 2) := by decide +kernel
theorem dL_type_20 : decode cL_type 20 = .ok (.iconst 2, 1) := by decide +kernel
theorem dL_type_21 : decode cL_type 21 = .ok (.ireturn, 1) := by decide +kernel
theorem dL_type_22 : decode cL_type 22 = .ok (.iconst 0, 1) := by decide +kernel
theorem dL_type_23 : decode cL_type 23 = .ok (.ireturn, 1) := by decide +kernel
theorem dL_positions_0 : decode cL_positions 0 = .ok (.aload_n 1, 1) := by decide +kernel
theorem dL_positions_1 : decode cL_positions 1 = .ok (.iconst 0, 1) := by decide +kernel
theorem dL_positions_2 : decode cL_positions 2 = .ok (.aload_n 0, 1) := by decide +kernel
theorem dL_positions_3 : decode cL_positions 3 = .ok (.invokevirtual 17, 3) := by decide +kernel
theorem dL_positions_6 : decode cL_positions 6 = .ok (.i2l, 1) := by decide +kernel
theorem dL_positions_7 : decode cL_positions 7 = .ok (.lastore, 1) := by decide +kernel
theorem dL_positions_8 : decode cL_positions 8 = .ok (.goto 6, 3) := by decide +kernel
theorem dL_positions_11 : decode cL_positions 11 = .ok (.astore_n 2, 1) := by decide +kernel
theorem dL_positions_12 : decode cL_positions 12 = .ok (.iconst 1, 1) := by decide +kernel
theorem dL_positions_13 : decode cL_positions 13 = .ok (.ireturn, 1) := by decide +kernel
theorem dL_positions_14 : decode cL_positions 14 = .ok (.iconst 0, 1) := by decide +kernel
theorem dL_positions_15 : decode cL_positions 15 = .ok (.ireturn, 1) := by decide +kernel
theorem dL_empty_0 : decode cL_empty 0 = .ok (.aload_n 1, 1) := by decide +kernel
theorem dL_empty_1 : decode cL_empty 1 = .ok (.iconst 0, 1) := by decide +kernel
theorem dL_empty_2 : decode cL_empty 2 = .ok (.aload_n 0, 1) := by decide +kernel
theorem dL_empty_3 : decode cL_empty 3 = .ok (.invokevirtual 21, 3) := by decide +kernel
theorem dL_empty_6 : decode cL_empty 6 = .ok (.ifCond .eq 7, 3) := by decide +kernel
theorem dL_empty_9 : decode cL_empty 9 = .ok (.lconst 1, 1) := by decide +kernel
theorem dL_empty_10 : decode cL_empty 10 = .ok (.goto 4, 3) := by decide +kernel
theorem dL_empty_13 : decode cL_empty 13 = .ok (.lconst 0, 1) := by decide +kernel
theorem dL_empty_14 : decode cL_empty 14 = .ok (.lastore, 1) := by decide +kernel
theorem dL_empty_15 : decode cL_empty 15 = .ok (.goto 6, 3) := by decide +kernel
theorem dL_empty_18 : decode cL_empty 18 = .ok (.astore_n 2, 1) := by decide +kernel
theorem dL_empty_19 : decode cL_empty 19 = .ok (.iconst 1, 1) := by decide +kernel
theorem dL_empty_20 : decode cL_empty 20 = .ok (.ireturn, 1) := by decide +kernel
theorem dL_empty_21 : decode cL_empty 21 = .ok (.iconst 0, 1) := by decide +kernel
theorem dL_empty_22 : decode cL_empty 22 = .ok (.ireturn, 1) := by decide +kernel
theorem dL_is_0 : decode cL_is 0 = .ok (.aload_n 3, 1) := by decide +kernel
theorem dL_is_1 : decode cL_is 1 = .ok (.iconst 0, 1) := by decide +kernel
theorem dL_is_2 : decode cL_is 2 = .ok (.aload_n 0, 1) := by decide +kernel
theorem dL_is_3 : decode cL_is 3 = .ok (.iload_n 1, 1) := by decide +kernel
theorem dL_is_4 : decode cL_is 4 = .ok (.iload_n 2, 1) := by decide +kernel
theorem dL_is_5 : decode cL_is 5 = .ok (.invokevirtual 25, 3) := by decide +kernel
theorem dL_is_8 : decode cL_is 8 = .ok (.ifCond .eq 7, 3) := by decide +kernel
theorem dL_is_11 : decode cL_is 11 = .ok (.lconst 1, 1) := by decide +kernel
theorem dL_is_12 : decode cL_is 12 = .ok (.goto 4, 3) := by decide +kernel
theorem dL_is_15 : decode cL_is 15 = .ok (.lconst 0, 1) := by decide +kernel
theorem dL_is_16 : decode cL_is 16 = .ok (.lastore, 1) := by decide +kernel
theorem dL_is_17 : decode cL_is 17 = .ok (.goto 15, 3) := by decide +kernel
theorem dL_is_20 : decode cL_is 20 = .ok (.astore 4, 2) := by decide +kernel
theorem dL_is_22 : decode cL_is 22 = .ok (.iconst 1, 1) := by decide +kernel
theorem dL_is_23 : decode cL_is 23 = .ok (.ireturn, 1) := by decide +kernel
theorem dL_is_24 : decode cL_is 24 = .ok (.astore 4, 2) := by decide +kernel
theorem dL_is_26 : decode cL_is 26 = .ok (.iconst 2, 1) := by decide +kernel
theorem dL_is_27 : decode cL_is 27 = .ok (.ireturn, 1) := by decide +kernel
theorem dL_is_28 : decode cL_is 28 = .ok (.astore 4, 2) := by decide +kernel
theorem dL_is_30 : decode cL_is 30 = .ok (.iconst 3, 1) := by decide +kernel
theorem dL_is_31 : decode cL_is 31 = .ok (.ireturn, 1) := by decide +kernel
theorem dL_is_32 : decode cL_is 32 = .ok (.iconst 0, 1) := by decide +kernel
theorem dL_is_33 : decode cL_is 33 = .ok (.ireturn, 1) := by decide +kernel
theorem dL_follows_0 : decode cL_follows 0 = .ok (.aload_n 3, 1) := by decide +kernel
theorem dL_follows_1 : decode cL_follows 1 = .ok (.iconst 0, 1) := by decide +kernel
theorem dL_follows_2 : decode cL_follows 2 = .ok (.aload_n 0, 1) := by decide +kernel
theorem dL_follows_3 : decode cL_follows 3 = .ok (.iload_n 1, 1) := by decide +kernel
theorem dL_follows_4 : decode cL_follows 4 = .ok (.iload_n 2, 1) := by decide +kernel
theorem dL_follows_5 : decode cL_follows 5 = .ok (.invokevirtual 31, 3) := by decide +kernel
theorem dL_follows_8 : decode cL_follows 8 = .ok (.ifCond .eq 7, 3) := by decide +kernel
theorem dL_follows_11 : decode cL_follows 11 = .ok (.lconst 1, 1) := by decide +kernel
theorem dL_follows_12 : decode cL_follows 12 = .ok (.goto 4, 3) := by decide +kernel
theorem dL_follows_15 : decode cL_follows 15 = .ok (.lconst 0, 1) := by decide +kernel
theorem dL_follows_16 : decode cL_follows 16 = .ok (.lastore, 1) := by decide +kernel
theorem dL_follows_17 : decode cL_follows 17 = .ok (.goto 11, 3) := by decide +kernel
theorem dL_follows_20 : decode cL_follows 20 = .ok (.astore 4, 2) := by decide +kernel
theorem dL_follows_22 : decode cL_follows 22 = .ok (.iconst 1, 1) := by decide +kernel
theorem dL_follows_23 : decode cL_follows 23 = .ok (.ireturn, 1) := by decide +kernel
theorem dL_follows_24 : decode cL_follows 24 = .ok (.astore 4, 2) := by decide +kernel
theorem dL_follows_26 : decode cL_follows 26 = .ok (.iconst 2, 1) := by decide +kernel
theorem dL_follows_27 : decode cL_follows 27 = .ok (.ireturn, 1) := by decide +kernel
theorem dL_follows_28 : decode cL_follows 28 = .ok (.iconst 0, 1) := by decide +kernel
theorem dL_follows_29 : decode cL_follows 29 = .ok (.ireturn, 1) := by decide +kernel
theorem dL_has_0 : decode cL_has 0 = .ok (.aload_n 3, 1) := by decide +kernel
theorem dL_has_1 : decode cL_has 1 = .ok (.iconst 0, 1) := by decide +kernel
theorem dL_has_2 : decode cL_has 2 = .ok (.aload_n 0, 1) := by decide +kernel
theorem dL_has_3 : decode cL_has 3 = .ok (.iload_n 1, 1) := by decide +kernel
theorem dL_has_4 : decode cL_has 4 = .ok (.iload_n 2, 1) := by decide +kernel
theorem dL_has_5 : decode cL_has 5 = .ok (.invokevirtual 34, 3) := by decide +kernel
theorem dL_has_8 : decode cL_has 8 = .ok (.ifCond .eq 7, 3) := by decide +kernel
theorem dL_has_11 : decode cL_has 11 = .ok (.lconst 1, 1) := by decide +kernel
theorem dL_has_12 : decode cL_has 12 = .ok (.goto 4, 3) := by decide +kernel
theorem dL_has_15 : decode cL_has 15 = .ok (.lconst 0, 1) := by decide +kernel
theorem dL_has_16 : decode cL_has 16 = .ok (.lastore, 1) := by decide +kernel
theorem dL_has_17 : decode cL_has 17 = .ok (.goto 11, 3) := by decide +kernel
theorem dL_has_20 : decode cL_has 20 = .ok (.astore 4, 2) := by decide +kernel
theorem dL_has_22 : decode cL_has 22 = .ok (.iconst 1, 1) := by decide +kernel
theorem dL_has_23 : decode cL_has 23 = .ok (.ireturn, 1) := by decide +kernel
theorem dL_has_24 : decode cL_has 24 = .ok (.astore 4, 2) := by decide +kernel
theorem dL_has_26 : decode cL_has 26 = .ok (.iconst 2, 1) := by decide +kernel
theorem dL_has_27 : decode cL_has 27 = .ok (.ireturn, 1) := by decide +kernel
theorem dL_has_28 : decode cL_has 28 = .ok (.iconst 0, 1) := by decide +kernel
theorem dL_has_29 : decode cL_has 29 = .ok (.ireturn, 1) := by decide +kernel
theorem dL_feed_0 : decode cL_feed 0 = .ok (.aload 4, 2) := by decide +kernel
theorem dL_feed_2 : decode cL_feed 2 = .ok (.iconst 0, 1) := by decide +kernel
theorem dL_feed_3 : decode cL_feed 3 = .ok (.aload_n 0, 1) := by decide +kernel
theorem dL_feed_4 : decode cL_feed 4 = .ok (.lload_n 1, 1) := by decide +kernel
theorem dL_feed_5 : decode cL_feed 5 = .ok (.iload_n 3, 1) := by decide +kernel
theorem dL_feed_6 : decode cL_feed 6 = .ok (.invokevirtual 37, 3) := by decide +kernel
theorem dL_feed_9 : decode cL_feed 9 = .ok (.i2l, 1) := by decide +kernel
theorem dL_feed_10 : decode cL_feed 10 = .ok (.lastore, 1) := by decide +kernel
theorem dL_feed_11 : decode cL_feed 11 = .ok (.goto 11, 3) := by decide +kernel
theorem dL_feed_14 : decode cL_feed 14 = .ok (.astore 5, 2) := by decide +kernel
theorem dL_feed_16 : decode cL_feed 16 = .ok (.iconst 1, 1) := by decide +kernel
theorem dL_feed_17 : decode cL_feed 17 = .ok (.ireturn, 1) := by decide +kernel
theorem dL_feed_18 : decode cL_feed 18 = .ok (.astore 5, 2) := by decide +kernel
theorem dL_feed_20 : decode cL_feed 20 = .ok (.iconst 2, 1) := by decide +kernel
theorem dL_feed_21 : decode cL_feed 21 = .ok (.ireturn, 1) := by decide +kernel
theorem dL_feed_22 : decode cL_feed 22 = .ok (.iconst 0, 1) := by decide +kernel
theorem dL_feed_23 : decode cL_feed 23 = .ok (.ireturn, 1) := by decide +kernel
theorem dL_whole_0 : decode cL_whole 0 = .ok (.aload_n 1, 1) := by decide +kernel
theorem dL_whole_1 : decode cL_whole 1 = .ok (.iconst 0, 1) := by decide +kernel
theorem dL_whole_2 : decode cL_whole 2 = .ok (.aload_n 0, 1) := by decide +kernel
theorem dL_whole_3 : decode cL_whole 3 = .ok (.invokevirtual 40, 3) := by decide +kernel
theorem dL_whole_6 : decode cL_whole 6 = .ok (.ifCond .eq 7, 3) := by decide +kernel
theorem dL_whole_9 : decode cL_whole 9 = .ok (.lconst 1, 1) := by decide +kernel
theorem dL_whole_10 : decode cL_whole 10 = .ok (.goto 4, 3) := by decide +kernel
theorem dL_whole_13 : decode cL_whole 13 = .ok (.lconst 0, 1) := by decide +kernel
theorem dL_whole_14 : decode cL_whole 14 = .ok (.lastore, 1) := by decide +kernel
theorem dL_whole_15 : decode cL_whole 15 = .ok (.goto 6, 3) := by decide +kernel
theorem dL_whole_18 : decode cL_whole 18 = .ok (.astore_n 2, 1) := by decide +kernel
theorem dL_whole_19 : decode cL_whole 19 = .ok (.iconst 1, 1) := by decide +kernel
theorem dL_whole_20 : decode cL_whole 20 = .ok (.ireturn, 1) := by decide +kernel
theorem dL_whole_21 : decode cL_whole 21 = .ok (.iconst 0, 1) := by decide +kernel
theorem dL_whole_22 : decode cL_whole 22 = .ok (.ireturn, 1) := by decide +kernel
theorem dL_finds_0 : decode cL_finds 0 = .ok (.aload_n 1, 1) := by decide +kernel
theorem dL_finds_1 : decode cL_finds 1 = .ok (.iconst 0, 1) := by decide +kernel
theorem dL_finds_2 : decode cL_finds 2 = .ok (.aload_n 0, 1) := by decide +kernel
theorem dL_finds_3 : decode cL_finds 3 = .ok (.invokevirtual 43, 3) := by decide +kernel
theorem dL_finds_6 : decode cL_finds 6 = .ok (.i2l, 1) := by decide +kernel
theorem dL_finds_7 : decode cL_finds 7 = .ok (.lastore, 1) := by decide +kernel
theorem dL_finds_8 : decode cL_finds 8 = .ok (.goto 6, 3) := by decide +kernel
theorem dL_finds_11 : decode cL_finds 11 = .ok (.astore_n 2, 1) := by decide +kernel
theorem dL_finds_12 : decode cL_finds 12 = .ok (.iconst 1, 1) := by decide +kernel
theorem dL_finds_13 : decode cL_finds 13 = .ok (.ireturn, 1) := by decide +kernel
theorem dL_finds_14 : decode cL_finds 14 = .ok (.iconst 0, 1) := by decide +kernel
theorem dL_finds_15 : decode cL_finds 15 = .ok (.ireturn, 1) := by decide +kernel
theorem dL_find_0 : decode cL_find 0 = .ok (.aload_n 3, 1) := by decide +kernel
theorem dL_find_1 : decode cL_find 1 = .ok (.iconst 0, 1) := by decide +kernel
theorem dL_find_2 : decode cL_find 2 = .ok (.aload_n 0, 1) := by decide +kernel
theorem dL_find_3 : decode cL_find 3 = .ok (.iload_n 1, 1) := by decide +kernel
theorem dL_find_4 : decode cL_find 4 = .ok (.iload_n 2, 1) := by decide +kernel
theorem dL_find_5 : decode cL_find 5 = .ok (.invokevirtual 46, 3) := by decide +kernel
theorem dL_find_8 : decode cL_find 8 = .ok (.i2l, 1) := by decide +kernel
theorem dL_find_9 : decode cL_find 9 = .ok (.lastore, 1) := by decide +kernel
theorem dL_find_10 : decode cL_find 10 = .ok (.goto 11, 3) := by decide +kernel
theorem dL_find_13 : decode cL_find 13 = .ok (.astore 4, 2) := by decide +kernel
theorem dL_find_15 : decode cL_find 15 = .ok (.iconst 1, 1) := by decide +kernel
theorem dL_find_16 : decode cL_find 16 = .ok (.ireturn, 1) := by decide +kernel
theorem dL_find_17 : decode cL_find 17 = .ok (.astore 4, 2) := by decide +kernel
theorem dL_find_19 : decode cL_find 19 = .ok (.iconst 2, 1) := by decide +kernel
theorem dL_find_20 : decode cL_find 20 = .ok (.ireturn, 1) := by decide +kernel
theorem dL_find_21 : decode cL_find 21 = .ok (.iconst 0, 1) := by decide +kernel
theorem dL_find_22 : decode cL_find 22 = .ok (.ireturn, 1) := by decide +kernel
theorem dL_states_0 : decode cL_states 0 = .ok (.aload_n 1, 1) := by decide +kernel
theorem dL_states_1 : decode cL_states 1 = .ok (.iconst 0, 1) := by decide +kernel
theorem dL_states_2 : decode cL_states 2 = .ok (.aload_n 0, 1) := by decide +kernel
theorem dL_states_3 : decode cL_states 3 = .ok (.invokevirtual 50, 3) := by decide +kernel
theorem dL_states_6 : decode cL_states 6 = .ok (.i2l, 1) := by decide +kernel
theorem dL_states_7 : decode cL_states 7 = .ok (.lastore, 1) := by decide +kernel
theorem dL_states_8 : decode cL_states 8 = .ok (.goto 6, 3) := by decide +kernel
theorem dL_states_11 : decode cL_states 11 = .ok (.astore_n 2, 1) := by decide +kernel
theorem dL_states_12 : decode cL_states 12 = .ok (.iconst 1, 1) := by decide +kernel
theorem dL_states_13 : decode cL_states 13 = .ok (.ireturn, 1) := by decide +kernel
theorem dL_states_14 : decode cL_states 14 = .ok (.iconst 0, 1) := by decide +kernel
theorem dL_states_15 : decode cL_states 15 = .ok (.ireturn, 1) := by decide +kernel
theorem dL_next_0 : decode cL_next 0 = .ok (.aload_n 3, 1) := by decide +kernel
theorem dL_next_1 : decode cL_next 1 = .ok (.iconst 0, 1) := by decide +kernel
theorem dL_next_2 : decode cL_next 2 = .ok (.aload_n 0, 1) := by decide +kernel
theorem dL_next_3 : decode cL_next 3 = .ok (.iload_n 1, 1) := by decide +kernel
theorem dL_next_4 : decode cL_next 4 = .ok (.iload_n 2, 1) := by decide +kernel
theorem dL_next_5 : decode cL_next 5 = .ok (.invokevirtual 53, 3) := by decide +kernel
theorem dL_next_8 : decode cL_next 8 = .ok (.i2l, 1) := by decide +kernel
theorem dL_next_9 : decode cL_next 9 = .ok (.lastore, 1) := by decide +kernel
theorem dL_next_10 : decode cL_next 10 = .ok (.goto 11, 3) := by decide +kernel
theorem dL_next_13 : decode cL_next 13 = .ok (.astore 4, 2) := by decide +kernel
theorem dL_next_15 : decode cL_next 15 = .ok (.iconst 1, 1) := by decide +kernel
theorem dL_next_16 : decode cL_next 16 = .ok (.ireturn, 1) := by decide +kernel
theorem dL_next_17 : decode cL_next 17 = .ok (.astore 4, 2) := by decide +kernel
theorem dL_next_19 : decode cL_next 19 = .ok (.iconst 2, 1) := by decide +kernel
theorem dL_next_20 : decode cL_next 20 = .ok (.ireturn, 1) := by decide +kernel
theorem dL_next_21 : decode cL_next 21 = .ok (.iconst 0, 1) := by decide +kernel
theorem dL_next_22 : decode cL_next 22 = .ok (.ireturn, 1) := by decide +kernel
theorem dL_good_0 : decode cL_good 0 = .ok (.aload_n 2, 1) := by decide +kernel
theorem dL_good_1 : decode cL_good 1 = .ok (.iconst 0, 1) := by decide +kernel
theorem dL_good_2 : decode cL_good 2 = .ok (.aload_n 0, 1) := by decide +kernel
theorem dL_good_3 : decode cL_good 3 = .ok (.iload_n 1, 1) := by decide +kernel
theorem dL_good_4 : decode cL_good 4 = .ok (.invokevirtual 57, 3) := by decide +kernel
theorem dL_good_7 : decode cL_good 7 = .ok (.ifCond .eq 7, 3) := by decide +kernel
theorem dL_good_10 : decode cL_good 10 = .ok (.lconst 1, 1) := by decide +kernel
theorem dL_good_11 : decode cL_good 11 = .ok (.goto 4, 3) := by decide +kernel
theorem dL_good_14 : decode cL_good 14 = .ok (.lconst 0, 1) := by decide +kernel
theorem dL_good_15 : decode cL_good 15 = .ok (.lastore, 1) := by decide +kernel
theorem dL_good_16 : decode cL_good 16 = .ok (.goto 9, 3) := by decide +kernel
theorem dL_good_19 : decode cL_good 19 = .ok (.astore_n 3, 1) := by decide +kernel
theorem dL_good_20 : decode cL_good 20 = .ok (.iconst 1, 1) := by decide +kernel
theorem dL_good_21 : decode cL_good 21 = .ok (.ireturn, 1) := by decide +kernel
theorem dL_good_22 : decode cL_good 22 = .ok (.astore_n 3, 1) := by decide +kernel
theorem dL_good_23 : decode cL_good 23 = .ok (.iconst 2, 1) := by decide +kernel
theorem dL_good_24 : decode cL_good 24 = .ok (.ireturn, 1) := by decide +kernel
theorem dL_good_25 : decode cL_good 25 = .ok (.iconst 0, 1) := by decide +kernel
theorem dL_good_26 : decode cL_good 26 = .ok (.ireturn, 1) := by decide +kernel
theorem dL_classes_0 : decode cL_classes 0 = .ok (.aload_n 1, 1) := by decide +kernel
theorem dL_classes_1 : decode cL_classes 1 = .ok (.iconst 0, 1) := by decide +kernel
theorem dL_classes_2 : decode cL_classes 2 = .ok (.aload_n 0, 1) := by decide +kernel
theorem dL_classes_3 : decode cL_classes 3 = .ok (.invokevirtual 61, 3) := by decide +kernel
theorem dL_classes_6 : decode cL_classes 6 = .ok (.i2l, 1) := by decide +kernel
theorem dL_classes_7 : decode cL_classes 7 = .ok (.lastore, 1) := by decide +kernel
theorem dL_classes_8 : decode cL_classes 8 = .ok (.goto 6, 3) := by decide +kernel
theorem dL_classes_11 : decode cL_classes 11 = .ok (.astore_n 2, 1) := by decide +kernel
theorem dL_classes_12 : decode cL_classes 12 = .ok (.iconst 1, 1) := by decide +kernel
theorem dL_classes_13 : decode cL_classes 13 = .ok (.ireturn, 1) := by decide +kernel
theorem dL_classes_14 : decode cL_classes 14 = .ok (.iconst 0, 1) := by decide +kernel
theorem dL_classes_15 : decode cL_classes 15 = .ok (.ireturn, 1) := by decide +kernel
theorem dL_keep_0 : decode cL_keep 0 = .ok (.aload_n 0, 1) := by decide +kernel
theorem dL_keep_1 : decode cL_keep 1 = .ok (.invokevirtual 64, 3) := by decide +kernel
theorem dL_keep_4 : decode cL_keep 4 = .ok (.goto 6, 3) := by decide +kernel
theorem dL_keep_7 : decode cL_keep 7 = .ok (.astore_n 1, 1) := by decide +kernel
theorem dL_keep_8 : decode cL_keep 8 = .ok (.iconst 1, 1) := by decide +kernel
theorem dL_keep_9 : decode cL_keep 9 = .ok (.ireturn, 1) := by decide +kernel
theorem dL_keep_10 : decode cL_keep 10 = .ok (.iconst 0, 1) := by decide +kernel
theorem dL_keep_11 : decode cL_keep 11 = .ok (.ireturn, 1) := by decide +kernel
theorem dL_differ_0 : decode cL_differ 0 = .ok (.aload_n 1, 1) := by decide +kernel
theorem dL_differ_1 : decode cL_differ 1 = .ok (.iconst 0, 1) := by decide +kernel
theorem dL_differ_2 : decode cL_differ 2 = .ok (.aload_n 0, 1) := by decide +kernel
theorem dL_differ_3 : decode cL_differ 3 = .ok (.invokevirtual 67, 3) := by decide +kernel
theorem dL_differ_6 : decode cL_differ 6 = .ok (.i2l, 1) := by decide +kernel
theorem dL_differ_7 : decode cL_differ 7 = .ok (.lastore, 1) := by decide +kernel
theorem dL_differ_8 : decode cL_differ 8 = .ok (.goto 6, 3) := by decide +kernel
theorem dL_differ_11 : decode cL_differ 11 = .ok (.astore_n 2, 1) := by decide +kernel
theorem dL_differ_12 : decode cL_differ 12 = .ok (.iconst 1, 1) := by decide +kernel
theorem dL_differ_13 : decode cL_differ 13 = .ok (.ireturn, 1) := by decide +kernel
theorem dL_differ_14 : decode cL_differ 14 = .ok (.iconst 0, 1) := by decide +kernel
theorem dL_differ_15 : decode cL_differ 15 = .ok (.ireturn, 1) := by decide +kernel
theorem dL_letter_0 : decode cL_letter 0 = .ok (.aload_n 2, 1) := by decide +kernel
theorem dL_letter_1 : decode cL_letter 1 = .ok (.iconst 0, 1) := by decide +kernel
theorem dL_letter_2 : decode cL_letter 2 = .ok (.aload_n 0, 1) := by decide +kernel
theorem dL_letter_3 : decode cL_letter 3 = .ok (.iload_n 1, 1) := by decide +kernel
theorem dL_letter_4 : decode cL_letter 4 = .ok (.invokevirtual 70, 3) := by decide +kernel
theorem dL_letter_7 : decode cL_letter 7 = .ok (.i2l, 1) := by decide +kernel
theorem dL_letter_8 : decode cL_letter 8 = .ok (.lastore, 1) := by decide +kernel
theorem dL_letter_9 : decode cL_letter 9 = .ok (.goto 6, 3) := by decide +kernel
theorem dL_letter_12 : decode cL_letter 12 = .ok (.astore_n 3, 1) := by decide +kernel
theorem dL_letter_13 : decode cL_letter 13 = .ok (.iconst 1, 1) := by decide +kernel
theorem dL_letter_14 : decode cL_letter 14 = .ok (.ireturn, 1) := by decide +kernel
theorem dL_letter_15 : decode cL_letter 15 = .ok (.iconst 0, 1) := by decide +kernel
theorem dL_letter_16 : decode cL_letter 16 = .ok (.ireturn, 1) := by decide +kernel
theorem dL_law_0 : decode cL_law 0 = .ok (.new 8, 3) := by decide +kernel
theorem dL_law_3 : decode cL_law 3 = .ok (.dup, 1) := by decide +kernel
theorem dL_law_4 : decode cL_law 4 = .ok (.invokespecial 74, 3) := by decide +kernel
theorem dL_law_7 : decode cL_law 7 = .ok (.astore_n 1, 1) := by decide +kernel
theorem dL_law_8 : decode cL_law 8 = .ok (.new 75, 3) := by decide +kernel
theorem dL_law_11 : decode cL_law 11 = .ok (.dup, 1) := by decide +kernel
theorem dL_law_12 : decode cL_law 12 = .ok (.invokespecial 77, 3) := by decide +kernel
theorem dL_law_15 : decode cL_law 15 = .ok (.astore_n 2, 1) := by decide +kernel
theorem dL_law_16 : decode cL_law 16 = .ok (.iconst 1, 1) := by decide +kernel
theorem dL_law_17 : decode cL_law 17 = .ok (.newarray .long, 2) := by decide +kernel
theorem dL_law_19 : decode cL_law 19 = .ok (.astore_n 3, 1) := by decide +kernel
theorem dL_law_20 : decode cL_law 20 = .ok (.iconst 0, 1) := by decide +kernel
theorem dL_law_21 : decode cL_law 21 = .ok (.istore 4, 2) := by decide +kernel
theorem dL_law_23 : decode cL_law 23 = .ok (.iload 4, 2) := by decide +kernel
theorem dL_law_25 : decode cL_law 25 = .ok (.aload_n 0, 1) := by decide +kernel
theorem dL_law_26 : decode cL_law 26 = .ok (.arraylength, 1) := by decide +kernel
theorem dL_law_27 : decode cL_law 27 = .ok (.iconst 4, 1) := by decide +kernel
theorem dL_law_28 : decode cL_law 28 = .ok (.isub, 1) := by decide +kernel
theorem dL_law_29 : decode cL_law 29 = .ok (.if_icmp .gt 1190, 3) := by decide +kernel
theorem dL_law_32 : decode cL_law 32 = .ok (.aload_n 0, 1) := by decide +kernel
theorem dL_law_33 : decode cL_law 33 = .ok (.iload 4, 2) := by decide +kernel
theorem dL_law_35 : decode cL_law 35 = .ok (.iaload, 1) := by decide +kernel
theorem dL_law_36 : decode cL_law 36 = .ok (.bipush 31, 2) := by decide +kernel
theorem dL_law_38 : decode cL_law 38 = .ok (.iand, 1) := by decide +kernel
theorem dL_law_39 : decode cL_law 39 = .ok (.tableswitch 1174 0 19 #[93, 193, 206, 219, 263, 314, 389, 464, 539, 639, 652, 703, 747, 831, 875, 943, 1006, 1050, 1074, 1118], 93) := by decide +kernel
theorem dL_law_132 : decode cL_law 132 = .ok (.aload_n 1, 1) := by decide +kernel
theorem dL_law_133 : decode cL_law 133 = .ok (.aload_n 0, 1) := by decide +kernel
theorem dL_law_134 : decode cL_law 134 = .ok (.iload 4, 2) := by decide +kernel
theorem dL_law_136 : decode cL_law 136 = .ok (.iconst 1, 1) := by decide +kernel
theorem dL_law_137 : decode cL_law 137 = .ok (.iadd, 1) := by decide +kernel
theorem dL_law_138 : decode cL_law 138 = .ok (.iaload, 1) := by decide +kernel
theorem dL_law_139 : decode cL_law 139 = .ok (.i2l, 1) := by decide +kernel
theorem dL_law_140 : decode cL_law 140 = .ok (.bipush 32, 2) := by decide +kernel
theorem dL_law_142 : decode cL_law 142 = .ok (.lshl, 1) := by decide +kernel
theorem dL_law_143 : decode cL_law 143 = .ok (.aload_n 0, 1) := by decide +kernel
theorem dL_law_144 : decode cL_law 144 = .ok (.iload 4, 2) := by decide +kernel
theorem dL_law_146 : decode cL_law 146 = .ok (.iconst 2, 1) := by decide +kernel
theorem dL_law_147 : decode cL_law 147 = .ok (.iadd, 1) := by decide +kernel
theorem dL_law_148 : decode cL_law 148 = .ok (.iaload, 1) := by decide +kernel
theorem dL_law_149 : decode cL_law 149 = .ok (.i2l, 1) := by decide +kernel
theorem dL_law_150 : decode cL_law 150 = .ok (.ldc2_w 78, 3) := by decide +kernel
theorem dL_law_153 : decode cL_law 153 = .ok (.land, 1) := by decide +kernel
theorem dL_law_154 : decode cL_law 154 = .ok (.lor, 1) := by decide +kernel
theorem dL_law_155 : decode cL_law 155 = .ok (.aload_n 0, 1) := by decide +kernel
theorem dL_law_156 : decode cL_law 156 = .ok (.iload 4, 2) := by decide +kernel
theorem dL_law_158 : decode cL_law 158 = .ok (.iconst 3, 1) := by decide +kernel
theorem dL_law_159 : decode cL_law 159 = .ok (.iadd, 1) := by decide +kernel
theorem dL_law_160 : decode cL_law 160 = .ok (.iaload, 1) := by decide +kernel
theorem dL_law_161 : decode cL_law 161 = .ok (.aload_n 3, 1) := by decide +kernel
theorem dL_law_162 : decode cL_law 162 = .ok (.invokestatic 80, 3) := by decide +kernel
theorem dL_law_165 : decode cL_law 165 = .ok (.istore 5, 2) := by decide +kernel
theorem dL_law_167 : decode cL_law 167 = .ok (.aload_n 2, 1) := by decide +kernel
theorem dL_law_168 : decode cL_law 168 = .ok (.aload_n 0, 1) := by decide +kernel
theorem dL_law_169 : decode cL_law 169 = .ok (.iload 4, 2) := by decide +kernel
theorem dL_law_171 : decode cL_law 171 = .ok (.iconst 1, 1) := by decide +kernel
theorem dL_law_172 : decode cL_law 172 = .ok (.iadd, 1) := by decide +kernel
theorem dL_law_173 : decode cL_law 173 = .ok (.iaload, 1) := by decide +kernel
theorem dL_law_174 : decode cL_law 174 = .ok (.i2l, 1) := by decide +kernel
theorem dL_law_175 : decode cL_law 175 = .ok (.bipush 32, 2) := by decide +kernel
theorem dL_law_177 : decode cL_law 177 = .ok (.lshl, 1) := by decide +kernel
theorem dL_law_178 : decode cL_law 178 = .ok (.aload_n 0, 1) := by decide +kernel
theorem dL_law_179 : decode cL_law 179 = .ok (.iload 4, 2) := by decide +kernel
theorem dL_law_181 : decode cL_law 181 = .ok (.iconst 2, 1) := by decide +kernel
theorem dL_law_182 : decode cL_law 182 = .ok (.iadd, 1) := by decide +kernel
theorem dL_law_183 : decode cL_law 183 = .ok (.iaload, 1) := by decide +kernel
theorem dL_law_184 : decode cL_law 184 = .ok (.i2l, 1) := by decide +kernel
theorem dL_law_185 : decode cL_law 185 = .ok (.ldc2_w 78, 3) := by decide +kernel
theorem dL_law_188 : decode cL_law 188 = .ok (.land, 1) := by decide +kernel
theorem dL_law_189 : decode cL_law 189 = .ok (.lor, 1) := by decide +kernel
theorem dL_law_190 : decode cL_law 190 = .ok (.aload_n 0, 1) := by decide +kernel
theorem dL_law_191 : decode cL_law 191 = .ok (.iload 4, 2) := by decide +kernel
theorem dL_law_193 : decode cL_law 193 = .ok (.iconst 3, 1) := by decide +kernel
theorem dL_law_194 : decode cL_law 194 = .ok (.iadd, 1) := by decide +kernel
theorem dL_law_195 : decode cL_law 195 = .ok (.iaload, 1) := by decide +kernel
theorem dL_law_196 : decode cL_law 196 = .ok (.invokevirtual 85, 3) := by decide +kernel
theorem dL_law_199 : decode cL_law 199 = .ok (.istore 6, 2) := by decide +kernel
theorem dL_law_201 : decode cL_law 201 = .ok (.aload_n 2, 1) := by decide +kernel
theorem dL_law_202 : decode cL_law 202 = .ok (.invokevirtual 86, 3) := by decide +kernel
theorem dL_law_205 : decode cL_law 205 = .ok (.iload 5, 2) := by decide +kernel
theorem dL_law_207 : decode cL_law 207 = .ok (.if_icmp .eq 5, 3) := by decide +kernel
theorem dL_law_210 : decode cL_law 210 = .ok (.iconst 0, 1) := by decide +kernel
theorem dL_law_211 : decode cL_law 211 = .ok (.ireturn, 1) := by decide +kernel
theorem dL_law_212 : decode cL_law 212 = .ok (.iload 5, 2) := by decide +kernel
theorem dL_law_214 : decode cL_law 214 = .ok (.ifCond .ne 15, 3) := by decide +kernel
theorem dL_law_217 : decode cL_law 217 = .ok (.aload_n 3, 1) := by decide +kernel
theorem dL_law_218 : decode cL_law 218 = .ok (.iconst 0, 1) := by decide +kernel
theorem dL_law_219 : decode cL_law 219 = .ok (.laload, 1) := by decide +kernel
theorem dL_law_220 : decode cL_law 220 = .ok (.iload 6, 2) := by decide +kernel
theorem dL_law_222 : decode cL_law 222 = .ok (.i2l, 1) := by decide +kernel
theorem dL_law_223 : decode cL_law 223 = .ok (.lcmp, 1) := by decide +kernel
theorem dL_law_224 : decode cL_law 224 = .ok (.ifCond .eq 5, 3) := by decide +kernel
theorem dL_law_227 : decode cL_law 227 = .ok (.iconst 0, 1) := by decide +kernel
theorem dL_law_228 : decode cL_law 228 = .ok (.ireturn, 1) := by decide +kernel
theorem dL_law_229 : decode cL_law 229 = .ok (.goto 984, 3) := by decide +kernel
theorem dL_law_232 : decode cL_law 232 = .ok (.aload_n 1, 1) := by decide +kernel
theorem dL_law_233 : decode cL_law 233 = .ok (.invokevirtual 89, 3) := by decide +kernel
theorem dL_law_236 : decode cL_law 236 = .ok (.aload_n 2, 1) := by decide +kernel
theorem dL_law_237 : decode cL_law 237 = .ok (.invokevirtual 92, 3) := by decide +kernel
theorem dL_law_240 : decode cL_law 240 = .ok (.if_icmp .eq 973, 3) := by decide +kernel
theorem dL_law_243 : decode cL_law 243 = .ok (.iconst 0, 1) := by decide +kernel
theorem dL_law_244 : decode cL_law 244 = .ok (.ireturn, 1) := by decide +kernel
theorem dL_law_245 : decode cL_law 245 = .ok (.aload_n 1, 1) := by decide +kernel
theorem dL_law_246 : decode cL_law 246 = .ok (.invokevirtual 93, 3) := by decide +kernel
theorem dL_law_249 : decode cL_law 249 = .ok (.aload_n 2, 1) := by decide +kernel
theorem dL_law_250 : decode cL_law 250 = .ok (.invokevirtual 96, 3) := by decide +kernel
theorem dL_law_253 : decode cL_law 253 = .ok (.if_icmp .eq 960, 3) := by decide +kernel
theorem dL_law_256 : decode cL_law 256 = .ok (.iconst 0, 1) := by decide +kernel
theorem dL_law_257 : decode cL_law 257 = .ok (.ireturn, 1) := by decide +kernel
theorem dL_law_258 : decode cL_law 258 = .ok (.aload_n 1, 1) := by decide +kernel
theorem dL_law_259 : decode cL_law 259 = .ok (.aload_n 3, 1) := by decide +kernel
theorem dL_law_260 : decode cL_law 260 = .ok (.invokestatic 97, 3) := by decide +kernel
theorem dL_law_263 : decode cL_law 263 = .ok (.istore 5, 2) := by decide +kernel
theorem dL_law_265 : decode cL_law 265 = .ok (.aload_n 2, 1) := by decide +kernel
theorem dL_law_266 : decode cL_law 266 = .ok (.invokevirtual 100, 3) := by decide +kernel
theorem dL_law_269 : decode cL_law 269 = .ok (.istore 6, 2) := by decide +kernel
theorem dL_law_271 : decode cL_law 271 = .ok (.aload_n 2, 1) := by decide +kernel
theorem dL_law_272 : decode cL_law 272 = .ok (.invokevirtual 86, 3) := by decide +kernel
theorem dL_law_275 : decode cL_law 275 = .ok (.iload 5, 2) := by decide +kernel
theorem dL_law_277 : decode cL_law 277 = .ok (.if_icmp .eq 5, 3) := by decide +kernel
theorem dL_law_280 : decode cL_law 280 = .ok (.iconst 0, 1) := by decide +kernel
theorem dL_law_281 : decode cL_law 281 = .ok (.ireturn, 1) := by decide +kernel
theorem dL_law_282 : decode cL_law 282 = .ok (.iload 5, 2) := by decide +kernel
theorem dL_law_284 : decode cL_law 284 = .ok (.ifCond .ne 15, 3) := by decide +kernel
theorem dL_law_287 : decode cL_law 287 = .ok (.aload_n 3, 1) := by decide +kernel
theorem dL_law_288 : decode cL_law 288 = .ok (.iconst 0, 1) := by decide +kernel
theorem dL_law_289 : decode cL_law 289 = .ok (.laload, 1) := by decide +kernel
theorem dL_law_290 : decode cL_law 290 = .ok (.iload 6, 2) := by decide +kernel
theorem dL_law_292 : decode cL_law 292 = .ok (.i2l, 1) := by decide +kernel
theorem dL_law_293 : decode cL_law 293 = .ok (.lcmp, 1) := by decide +kernel
theorem dL_law_294 : decode cL_law 294 = .ok (.ifCond .eq 5, 3) := by decide +kernel
theorem dL_law_297 : decode cL_law 297 = .ok (.iconst 0, 1) := by decide +kernel
theorem dL_law_298 : decode cL_law 298 = .ok (.ireturn, 1) := by decide +kernel
theorem dL_law_299 : decode cL_law 299 = .ok (.goto 914, 3) := by decide +kernel
theorem dL_law_302 : decode cL_law 302 = .ok (.aload_n 1, 1) := by decide +kernel
theorem dL_law_303 : decode cL_law 303 = .ok (.aload_n 3, 1) := by decide +kernel
theorem dL_law_304 : decode cL_law 304 = .ok (.invokestatic 101, 3) := by decide +kernel
theorem dL_law_307 : decode cL_law 307 = .ok (.istore 5, 2) := by decide +kernel
theorem dL_law_309 : decode cL_law 309 = .ok (.aload_n 2, 1) := by decide +kernel
theorem dL_law_310 : decode cL_law 310 = .ok (.invokevirtual 103, 3) := by decide +kernel
theorem dL_law_313 : decode cL_law 313 = .ok (.istore 6, 2) := by decide +kernel
theorem dL_law_315 : decode cL_law 315 = .ok (.aload_n 2, 1) := by decide +kernel
theorem dL_law_316 : decode cL_law 316 = .ok (.invokevirtual 86, 3) := by decide +kernel
theorem dL_law_319 : decode cL_law 319 = .ok (.iload 5, 2) := by decide +kernel
theorem dL_law_321 : decode cL_law 321 = .ok (.if_icmp .eq 5, 3) := by decide +kernel
theorem dL_law_324 : decode cL_law 324 = .ok (.iconst 0, 1) := by decide +kernel
theorem dL_law_325 : decode cL_law 325 = .ok (.ireturn, 1) := by decide +kernel
theorem dL_law_326 : decode cL_law 326 = .ok (.iload 5, 2) := by decide +kernel
theorem dL_law_328 : decode cL_law 328 = .ok (.ifCond .ne 22, 3) := by decide +kernel
theorem dL_law_331 : decode cL_law 331 = .ok (.aload_n 3, 1) := by decide +kernel
theorem dL_law_332 : decode cL_law 332 = .ok (.iconst 0, 1) := by decide +kernel
theorem dL_law_333 : decode cL_law 333 = .ok (.laload, 1) := by decide +kernel
theorem dL_law_334 : decode cL_law 334 = .ok (.iload 6, 2) := by decide +kernel
theorem dL_law_336 : decode cL_law 336 = .ok (.ifCond .eq 7, 3) := by decide +kernel
theorem dL_law_339 : decode cL_law 339 = .ok (.lconst 1, 1) := by decide +kernel
theorem dL_law_340 : decode cL_law 340 = .ok (.goto 4, 3) := by decide +kernel
theorem dL_law_343 : decode cL_law 343 = .ok (.lconst 0, 1) := by decide +kernel
theorem dL_law_344 : decode cL_law 344 = .ok (.lcmp, 1) := by decide +kernel
theorem dL_law_345 : decode cL_law 345 = .ok (.ifCond .eq 5, 3) := by decide +kernel
theorem dL_law_348 : decode cL_law 348 = .ok (.iconst 0, 1) := by decide +kernel
theorem dL_law_349 : decode cL_law 349 = .ok (.ireturn, 1) := by decide +kernel
theorem dL_law_350 : decode cL_law 350 = .ok (.goto 863, 3) := by decide +kernel
theorem dL_law_353 : decode cL_law 353 = .ok (.aload_n 1, 1) := by decide +kernel
theorem dL_law_354 : decode cL_law 354 = .ok (.aload_n 0, 1) := by decide +kernel
theorem dL_law_355 : decode cL_law 355 = .ok (.iload 4, 2) := by decide +kernel
theorem dL_law_357 : decode cL_law 357 = .ok (.iconst 1, 1) := by decide +kernel
theorem dL_law_358 : decode cL_law 358 = .ok (.iadd, 1) := by decide +kernel
theorem dL_law_359 : decode cL_law 359 = .ok (.iaload, 1) := by decide +kernel
theorem dL_law_360 : decode cL_law 360 = .ok (.aload_n 0, 1) := by decide +kernel
theorem dL_law_361 : decode cL_law 361 = .ok (.iload 4, 2) := by decide +kernel
theorem dL_law_363 : decode cL_law 363 = .ok (.iconst 2, 1) := by decide +kernel
theorem dL_law_364 : decode cL_law 364 = .ok (.iadd, 1) := by decide +kernel
theorem dL_law_365 : decode cL_law 365 = .ok (.iaload, 1) := by decide +kernel
theorem dL_law_366 : decode cL_law 366 = .ok (.aload_n 3, 1) := by decide +kernel
theorem dL_law_367 : decode cL_law 367 = .ok (.invokestatic 104, 3) := by decide +kernel
theorem dL_law_370 : decode cL_law 370 = .ok (.istore 5, 2) := by decide +kernel
theorem dL_law_372 : decode cL_law 372 = .ok (.aload_n 2, 1) := by decide +kernel
theorem dL_law_373 : decode cL_law 373 = .ok (.aload_n 0, 1) := by decide +kernel
theorem dL_law_374 : decode cL_law 374 = .ok (.iload 4, 2) := by decide +kernel
theorem dL_law_376 : decode cL_law 376 = .ok (.iconst 1, 1) := by decide +kernel
theorem dL_law_377 : decode cL_law 377 = .ok (.iadd, 1) := by decide +kernel
theorem dL_law_378 : decode cL_law 378 = .ok (.iaload, 1) := by decide +kernel
theorem dL_law_379 : decode cL_law 379 = .ok (.aload_n 0, 1) := by decide +kernel
theorem dL_law_380 : decode cL_law 380 = .ok (.iload 4, 2) := by decide +kernel
theorem dL_law_382 : decode cL_law 382 = .ok (.iconst 2, 1) := by decide +kernel
theorem dL_law_383 : decode cL_law 383 = .ok (.iadd, 1) := by decide +kernel
theorem dL_law_384 : decode cL_law 384 = .ok (.iaload, 1) := by decide +kernel
theorem dL_law_385 : decode cL_law 385 = .ok (.invokevirtual 107, 3) := by decide +kernel
theorem dL_law_388 : decode cL_law 388 = .ok (.istore 6, 2) := by decide +kernel
theorem dL_law_390 : decode cL_law 390 = .ok (.aload_n 2, 1) := by decide +kernel
theorem dL_law_391 : decode cL_law 391 = .ok (.invokevirtual 86, 3) := by decide +kernel
theorem dL_law_394 : decode cL_law 394 = .ok (.iload 5, 2) := by decide +kernel
theorem dL_law_396 : decode cL_law 396 = .ok (.if_icmp .eq 5, 3) := by decide +kernel
theorem dL_law_399 : decode cL_law 399 = .ok (.iconst 0, 1) := by decide +kernel
theorem dL_law_400 : decode cL_law 400 = .ok (.ireturn, 1) := by decide +kernel
theorem dL_law_401 : decode cL_law 401 = .ok (.iload 5, 2) := by decide +kernel
theorem dL_law_403 : decode cL_law 403 = .ok (.ifCond .ne 22, 3) := by decide +kernel
theorem dL_law_406 : decode cL_law 406 = .ok (.aload_n 3, 1) := by decide +kernel
theorem dL_law_407 : decode cL_law 407 = .ok (.iconst 0, 1) := by decide +kernel
theorem dL_law_408 : decode cL_law 408 = .ok (.laload, 1) := by decide +kernel
theorem dL_law_409 : decode cL_law 409 = .ok (.iload 6, 2) := by decide +kernel
theorem dL_law_411 : decode cL_law 411 = .ok (.ifCond .eq 7, 3) := by decide +kernel
theorem dL_law_414 : decode cL_law 414 = .ok (.lconst 1, 1) := by decide +kernel
theorem dL_law_415 : decode cL_law 415 = .ok (.goto 4, 3) := by decide +kernel
theorem dL_law_418 : decode cL_law 418 = .ok (.lconst 0, 1) := by decide +kernel
theorem dL_law_419 : decode cL_law 419 = .ok (.lcmp, 1) := by decide +kernel
theorem dL_law_420 : decode cL_law 420 = .ok (.ifCond .eq 5, 3) := by decide +kernel
theorem dL_law_423 : decode cL_law 423 = .ok (.iconst 0, 1) := by decide +kernel
theorem dL_law_424 : decode cL_law 424 = .ok (.ireturn, 1) := by decide +kernel
theorem dL_law_425 : decode cL_law 425 = .ok (.goto 788, 3) := by decide +kernel
theorem dL_law_428 : decode cL_law 428 = .ok (.aload_n 1, 1) := by decide +kernel
theorem dL_law_429 : decode cL_law 429 = .ok (.aload_n 0, 1) := by decide +kernel
theorem dL_law_430 : decode cL_law 430 = .ok (.iload 4, 2) := by decide +kernel
theorem dL_law_432 : decode cL_law 432 = .ok (.iconst 1, 1) := by decide +kernel
theorem dL_law_433 : decode cL_law 433 = .ok (.iadd, 1) := by decide +kernel
theorem dL_law_434 : decode cL_law 434 = .ok (.iaload, 1) := by decide +kernel
theorem dL_law_435 : decode cL_law 435 = .ok (.aload_n 0, 1) := by decide +kernel
theorem dL_law_436 : decode cL_law 436 = .ok (.iload 4, 2) := by decide +kernel
theorem dL_law_438 : decode cL_law 438 = .ok (.iconst 2, 1) := by decide +kernel
theorem dL_law_439 : decode cL_law 439 = .ok (.iadd, 1) := by decide +kernel
theorem dL_law_440 : decode cL_law 440 = .ok (.iaload, 1) := by decide +kernel
theorem dL_law_441 : decode cL_law 441 = .ok (.aload_n 3, 1) := by decide +kernel
theorem dL_law_442 : decode cL_law 442 = .ok (.invokestatic 108, 3) := by decide +kernel
theorem dL_law_445 : decode cL_law 445 = .ok (.istore 5, 2) := by decide +kernel
theorem dL_law_447 : decode cL_law 447 = .ok (.aload_n 2, 1) := by decide +kernel
theorem dL_law_448 : decode cL_law 448 = .ok (.aload_n 0, 1) := by decide +kernel
theorem dL_law_449 : decode cL_law 449 = .ok (.iload 4, 2) := by decide +kernel
theorem dL_law_451 : decode cL_law 451 = .ok (.iconst 1, 1) := by decide +kernel
theorem dL_law_452 : decode cL_law 452 = .ok (.iadd, 1) := by decide +kernel
theorem dL_law_453 : decode cL_law 453 = .ok (.iaload, 1) := by decide +kernel
theorem dL_law_454 : decode cL_law 454 = .ok (.aload_n 0, 1) := by decide +kernel
theorem dL_law_455 : decode cL_law 455 = .ok (.iload 4, 2) := by decide +kernel
theorem dL_law_457 : decode cL_law 457 = .ok (.iconst 2, 1) := by decide +kernel
theorem dL_law_458 : decode cL_law 458 = .ok (.iadd, 1) := by decide +kernel
theorem dL_law_459 : decode cL_law 459 = .ok (.iaload, 1) := by decide +kernel
theorem dL_law_460 : decode cL_law 460 = .ok (.invokevirtual 110, 3) := by decide +kernel
theorem dL_law_463 : decode cL_law 463 = .ok (.istore 6, 2) := by decide +kernel
theorem dL_law_465 : decode cL_law 465 = .ok (.aload_n 2, 1) := by decide +kernel
theorem dL_law_466 : decode cL_law 466 = .ok (.invokevirtual 86, 3) := by decide +kernel
theorem dL_law_469 : decode cL_law 469 = .ok (.iload 5, 2) := by decide +kernel
theorem dL_law_471 : decode cL_law 471 = .ok (.if_icmp .eq 5, 3) := by decide +kernel
theorem dL_law_474 : decode cL_law 474 = .ok (.iconst 0, 1) := by decide +kernel
theorem dL_law_475 : decode cL_law 475 = .ok (.ireturn, 1) := by decide +kernel
theorem dL_law_476 : decode cL_law 476 = .ok (.iload 5, 2) := by decide +kernel
theorem dL_law_478 : decode cL_law 478 = .ok (.ifCond .ne 22, 3) := by decide +kernel
theorem dL_law_481 : decode cL_law 481 = .ok (.aload_n 3, 1) := by decide +kernel
theorem dL_law_482 : decode cL_law 482 = .ok (.iconst 0, 1) := by decide +kernel
theorem dL_law_483 : decode cL_law 483 = .ok (.laload, 1) := by decide +kernel
theorem dL_law_484 : decode cL_law 484 = .ok (.iload 6, 2) := by decide +kernel
theorem dL_law_486 : decode cL_law 486 = .ok (.ifCond .eq 7, 3) := by decide +kernel
theorem dL_law_489 : decode cL_law 489 = .ok (.lconst 1, 1) := by decide +kernel
theorem dL_law_490 : decode cL_law 490 = .ok (.goto 4, 3) := by decide +kernel
theorem dL_law_493 : decode cL_law 493 = .ok (.lconst 0, 1) := by decide +kernel
theorem dL_law_494 : decode cL_law 494 = .ok (.lcmp, 1) := by decide +kernel
theorem dL_law_495 : decode cL_law 495 = .ok (.ifCond .eq 5, 3) := by decide +kernel
theorem dL_law_498 : decode cL_law 498 = .ok (.iconst 0, 1) := by decide +kernel
theorem dL_law_499 : decode cL_law 499 = .ok (.ireturn, 1) := by decide +kernel
theorem dL_law_500 : decode cL_law 500 = .ok (.goto 713, 3) := by decide +kernel
theorem dL_law_503 : decode cL_law 503 = .ok (.aload_n 1, 1) := by decide +kernel
theorem dL_law_504 : decode cL_law 504 = .ok (.aload_n 0, 1) := by decide +kernel
theorem dL_law_505 : decode cL_law 505 = .ok (.iload 4, 2) := by decide +kernel
theorem dL_law_507 : decode cL_law 507 = .ok (.iconst 1, 1) := by decide +kernel
theorem dL_law_508 : decode cL_law 508 = .ok (.iadd, 1) := by decide +kernel
theorem dL_law_509 : decode cL_law 509 = .ok (.iaload, 1) := by decide +kernel
theorem dL_law_510 : decode cL_law 510 = .ok (.aload_n 0, 1) := by decide +kernel
theorem dL_law_511 : decode cL_law 511 = .ok (.iload 4, 2) := by decide +kernel
theorem dL_law_513 : decode cL_law 513 = .ok (.iconst 2, 1) := by decide +kernel
theorem dL_law_514 : decode cL_law 514 = .ok (.iadd, 1) := by decide +kernel
theorem dL_law_515 : decode cL_law 515 = .ok (.iaload, 1) := by decide +kernel
theorem dL_law_516 : decode cL_law 516 = .ok (.aload_n 3, 1) := by decide +kernel
theorem dL_law_517 : decode cL_law 517 = .ok (.invokestatic 111, 3) := by decide +kernel
theorem dL_law_520 : decode cL_law 520 = .ok (.istore 5, 2) := by decide +kernel
theorem dL_law_522 : decode cL_law 522 = .ok (.aload_n 2, 1) := by decide +kernel
theorem dL_law_523 : decode cL_law 523 = .ok (.aload_n 0, 1) := by decide +kernel
theorem dL_law_524 : decode cL_law 524 = .ok (.iload 4, 2) := by decide +kernel
theorem dL_law_526 : decode cL_law 526 = .ok (.iconst 1, 1) := by decide +kernel
theorem dL_law_527 : decode cL_law 527 = .ok (.iadd, 1) := by decide +kernel
theorem dL_law_528 : decode cL_law 528 = .ok (.iaload, 1) := by decide +kernel
theorem dL_law_529 : decode cL_law 529 = .ok (.aload_n 0, 1) := by decide +kernel
theorem dL_law_530 : decode cL_law 530 = .ok (.iload 4, 2) := by decide +kernel
theorem dL_law_532 : decode cL_law 532 = .ok (.iconst 2, 1) := by decide +kernel
theorem dL_law_533 : decode cL_law 533 = .ok (.iadd, 1) := by decide +kernel
theorem dL_law_534 : decode cL_law 534 = .ok (.iaload, 1) := by decide +kernel
theorem dL_law_535 : decode cL_law 535 = .ok (.invokevirtual 113, 3) := by decide +kernel
theorem dL_law_538 : decode cL_law 538 = .ok (.istore 6, 2) := by decide +kernel
theorem dL_law_540 : decode cL_law 540 = .ok (.aload_n 2, 1) := by decide +kernel
theorem dL_law_541 : decode cL_law 541 = .ok (.invokevirtual 86, 3) := by decide +kernel
theorem dL_law_544 : decode cL_law 544 = .ok (.iload 5, 2) := by decide +kernel
theorem dL_law_546 : decode cL_law 546 = .ok (.if_icmp .eq 5, 3) := by decide +kernel
theorem dL_law_549 : decode cL_law 549 = .ok (.iconst 0, 1) := by decide +kernel
theorem dL_law_550 : decode cL_law 550 = .ok (.ireturn, 1) := by decide +kernel
theorem dL_law_551 : decode cL_law 551 = .ok (.iload 5, 2) := by decide +kernel
theorem dL_law_553 : decode cL_law 553 = .ok (.ifCond .ne 22, 3) := by decide +kernel
theorem dL_law_556 : decode cL_law 556 = .ok (.aload_n 3, 1) := by decide +kernel
theorem dL_law_557 : decode cL_law 557 = .ok (.iconst 0, 1) := by decide +kernel
theorem dL_law_558 : decode cL_law 558 = .ok (.laload, 1) := by decide +kernel
theorem dL_law_559 : decode cL_law 559 = .ok (.iload 6, 2) := by decide +kernel
theorem dL_law_561 : decode cL_law 561 = .ok (.ifCond .eq 7, 3) := by decide +kernel
theorem dL_law_564 : decode cL_law 564 = .ok (.lconst 1, 1) := by decide +kernel
theorem dL_law_565 : decode cL_law 565 = .ok (.goto 4, 3) := by decide +kernel
theorem dL_law_568 : decode cL_law 568 = .ok (.lconst 0, 1) := by decide +kernel
theorem dL_law_569 : decode cL_law 569 = .ok (.lcmp, 1) := by decide +kernel
theorem dL_law_570 : decode cL_law 570 = .ok (.ifCond .eq 5, 3) := by decide +kernel
theorem dL_law_573 : decode cL_law 573 = .ok (.iconst 0, 1) := by decide +kernel
theorem dL_law_574 : decode cL_law 574 = .ok (.ireturn, 1) := by decide +kernel
theorem dL_law_575 : decode cL_law 575 = .ok (.goto 638, 3) := by decide +kernel
theorem dL_law_578 : decode cL_law 578 = .ok (.aload_n 1, 1) := by decide +kernel
theorem dL_law_579 : decode cL_law 579 = .ok (.aload_n 0, 1) := by decide +kernel
theorem dL_law_580 : decode cL_law 580 = .ok (.iload 4, 2) := by decide +kernel
theorem dL_law_582 : decode cL_law 582 = .ok (.iconst 1, 1) := by decide +kernel
theorem dL_law_583 : decode cL_law 583 = .ok (.iadd, 1) := by decide +kernel
theorem dL_law_584 : decode cL_law 584 = .ok (.iaload, 1) := by decide +kernel
theorem dL_law_585 : decode cL_law 585 = .ok (.i2l, 1) := by decide +kernel
theorem dL_law_586 : decode cL_law 586 = .ok (.bipush 32, 2) := by decide +kernel
theorem dL_law_588 : decode cL_law 588 = .ok (.lshl, 1) := by decide +kernel
theorem dL_law_589 : decode cL_law 589 = .ok (.aload_n 0, 1) := by decide +kernel
theorem dL_law_590 : decode cL_law 590 = .ok (.iload 4, 2) := by decide +kernel
theorem dL_law_592 : decode cL_law 592 = .ok (.iconst 2, 1) := by decide +kernel
theorem dL_law_593 : decode cL_law 593 = .ok (.iadd, 1) := by decide +kernel
theorem dL_law_594 : decode cL_law 594 = .ok (.iaload, 1) := by decide +kernel
theorem dL_law_595 : decode cL_law 595 = .ok (.i2l, 1) := by decide +kernel
theorem dL_law_596 : decode cL_law 596 = .ok (.ldc2_w 78, 3) := by decide +kernel
theorem dL_law_599 : decode cL_law 599 = .ok (.land, 1) := by decide +kernel
theorem dL_law_600 : decode cL_law 600 = .ok (.lor, 1) := by decide +kernel
theorem dL_law_601 : decode cL_law 601 = .ok (.aload_n 0, 1) := by decide +kernel
theorem dL_law_602 : decode cL_law 602 = .ok (.iload 4, 2) := by decide +kernel
theorem dL_law_604 : decode cL_law 604 = .ok (.iconst 3, 1) := by decide +kernel
theorem dL_law_605 : decode cL_law 605 = .ok (.iadd, 1) := by decide +kernel
theorem dL_law_606 : decode cL_law 606 = .ok (.iaload, 1) := by decide +kernel
theorem dL_law_607 : decode cL_law 607 = .ok (.aload_n 3, 1) := by decide +kernel
theorem dL_law_608 : decode cL_law 608 = .ok (.invokestatic 114, 3) := by decide +kernel
theorem dL_law_611 : decode cL_law 611 = .ok (.istore 5, 2) := by decide +kernel
theorem dL_law_613 : decode cL_law 613 = .ok (.aload_n 2, 1) := by decide +kernel
theorem dL_law_614 : decode cL_law 614 = .ok (.aload_n 0, 1) := by decide +kernel
theorem dL_law_615 : decode cL_law 615 = .ok (.iload 4, 2) := by decide +kernel
theorem dL_law_617 : decode cL_law 617 = .ok (.iconst 1, 1) := by decide +kernel
theorem dL_law_618 : decode cL_law 618 = .ok (.iadd, 1) := by decide +kernel
theorem dL_law_619 : decode cL_law 619 = .ok (.iaload, 1) := by decide +kernel
theorem dL_law_620 : decode cL_law 620 = .ok (.i2l, 1) := by decide +kernel
theorem dL_law_621 : decode cL_law 621 = .ok (.bipush 32, 2) := by decide +kernel
theorem dL_law_623 : decode cL_law 623 = .ok (.lshl, 1) := by decide +kernel
theorem dL_law_624 : decode cL_law 624 = .ok (.aload_n 0, 1) := by decide +kernel
theorem dL_law_625 : decode cL_law 625 = .ok (.iload 4, 2) := by decide +kernel
theorem dL_law_627 : decode cL_law 627 = .ok (.iconst 2, 1) := by decide +kernel
theorem dL_law_628 : decode cL_law 628 = .ok (.iadd, 1) := by decide +kernel
theorem dL_law_629 : decode cL_law 629 = .ok (.iaload, 1) := by decide +kernel
theorem dL_law_630 : decode cL_law 630 = .ok (.i2l, 1) := by decide +kernel
theorem dL_law_631 : decode cL_law 631 = .ok (.ldc2_w 78, 3) := by decide +kernel
theorem dL_law_634 : decode cL_law 634 = .ok (.land, 1) := by decide +kernel
theorem dL_law_635 : decode cL_law 635 = .ok (.lor, 1) := by decide +kernel
theorem dL_law_636 : decode cL_law 636 = .ok (.aload_n 0, 1) := by decide +kernel
theorem dL_law_637 : decode cL_law 637 = .ok (.iload 4, 2) := by decide +kernel
theorem dL_law_639 : decode cL_law 639 = .ok (.iconst 3, 1) := by decide +kernel
theorem dL_law_640 : decode cL_law 640 = .ok (.iadd, 1) := by decide +kernel
theorem dL_law_641 : decode cL_law 641 = .ok (.iaload, 1) := by decide +kernel
theorem dL_law_642 : decode cL_law 642 = .ok (.invokevirtual 116, 3) := by decide +kernel
theorem dL_law_645 : decode cL_law 645 = .ok (.istore 6, 2) := by decide +kernel
theorem dL_law_647 : decode cL_law 647 = .ok (.aload_n 2, 1) := by decide +kernel
theorem dL_law_648 : decode cL_law 648 = .ok (.invokevirtual 86, 3) := by decide +kernel
theorem dL_law_651 : decode cL_law 651 = .ok (.iload 5, 2) := by decide +kernel
theorem dL_law_653 : decode cL_law 653 = .ok (.if_icmp .eq 5, 3) := by decide +kernel
theorem dL_law_656 : decode cL_law 656 = .ok (.iconst 0, 1) := by decide +kernel
theorem dL_law_657 : decode cL_law 657 = .ok (.ireturn, 1) := by decide +kernel
theorem dL_law_658 : decode cL_law 658 = .ok (.iload 5, 2) := by decide +kernel
theorem dL_law_660 : decode cL_law 660 = .ok (.ifCond .ne 15, 3) := by decide +kernel
theorem dL_law_663 : decode cL_law 663 = .ok (.aload_n 3, 1) := by decide +kernel
theorem dL_law_664 : decode cL_law 664 = .ok (.iconst 0, 1) := by decide +kernel
theorem dL_law_665 : decode cL_law 665 = .ok (.laload, 1) := by decide +kernel
theorem dL_law_666 : decode cL_law 666 = .ok (.iload 6, 2) := by decide +kernel
theorem dL_law_668 : decode cL_law 668 = .ok (.i2l, 1) := by decide +kernel
theorem dL_law_669 : decode cL_law 669 = .ok (.lcmp, 1) := by decide +kernel
theorem dL_law_670 : decode cL_law 670 = .ok (.ifCond .eq 5, 3) := by decide +kernel
theorem dL_law_673 : decode cL_law 673 = .ok (.iconst 0, 1) := by decide +kernel
theorem dL_law_674 : decode cL_law 674 = .ok (.ireturn, 1) := by decide +kernel
theorem dL_law_675 : decode cL_law 675 = .ok (.goto 538, 3) := by decide +kernel
theorem dL_law_678 : decode cL_law 678 = .ok (.aload_n 1, 1) := by decide +kernel
theorem dL_law_679 : decode cL_law 679 = .ok (.invokevirtual 117, 3) := by decide +kernel
theorem dL_law_682 : decode cL_law 682 = .ok (.aload_n 2, 1) := by decide +kernel
theorem dL_law_683 : decode cL_law 683 = .ok (.invokevirtual 120, 3) := by decide +kernel
theorem dL_law_686 : decode cL_law 686 = .ok (.if_icmp .eq 527, 3) := by decide +kernel
theorem dL_law_689 : decode cL_law 689 = .ok (.iconst 0, 1) := by decide +kernel
theorem dL_law_690 : decode cL_law 690 = .ok (.ireturn, 1) := by decide +kernel
theorem dL_law_691 : decode cL_law 691 = .ok (.aload_n 1, 1) := by decide +kernel
theorem dL_law_692 : decode cL_law 692 = .ok (.aload_n 3, 1) := by decide +kernel
theorem dL_law_693 : decode cL_law 693 = .ok (.invokestatic 121, 3) := by decide +kernel
theorem dL_law_696 : decode cL_law 696 = .ok (.istore 5, 2) := by decide +kernel
theorem dL_law_698 : decode cL_law 698 = .ok (.aload_n 2, 1) := by decide +kernel
theorem dL_law_699 : decode cL_law 699 = .ok (.invokevirtual 123, 3) := by decide +kernel
theorem dL_law_702 : decode cL_law 702 = .ok (.istore 6, 2) := by decide +kernel
theorem dL_law_704 : decode cL_law 704 = .ok (.aload_n 2, 1) := by decide +kernel
theorem dL_law_705 : decode cL_law 705 = .ok (.invokevirtual 86, 3) := by decide +kernel
theorem dL_law_708 : decode cL_law 708 = .ok (.iload 5, 2) := by decide +kernel
theorem dL_law_710 : decode cL_law 710 = .ok (.if_icmp .eq 5, 3) := by decide +kernel
theorem dL_law_713 : decode cL_law 713 = .ok (.iconst 0, 1) := by decide +kernel
theorem dL_law_714 : decode cL_law 714 = .ok (.ireturn, 1) := by decide +kernel
theorem dL_law_715 : decode cL_law 715 = .ok (.iload 5, 2) := by decide +kernel
theorem dL_law_717 : decode cL_law 717 = .ok (.ifCond .ne 22, 3) := by decide +kernel
theorem dL_law_720 : decode cL_law 720 = .ok (.aload_n 3, 1) := by decide +kernel
theorem dL_law_721 : decode cL_law 721 = .ok (.iconst 0, 1) := by decide +kernel
theorem dL_law_722 : decode cL_law 722 = .ok (.laload, 1) := by decide +kernel
theorem dL_law_723 : decode cL_law 723 = .ok (.iload 6, 2) := by decide +kernel
theorem dL_law_725 : decode cL_law 725 = .ok (.ifCond .eq 7, 3) := by decide +kernel
theorem dL_law_728 : decode cL_law 728 = .ok (.lconst 1, 1) := by decide +kernel
theorem dL_law_729 : decode cL_law 729 = .ok (.goto 4, 3) := by decide +kernel
theorem dL_law_732 : decode cL_law 732 = .ok (.lconst 0, 1) := by decide +kernel
theorem dL_law_733 : decode cL_law 733 = .ok (.lcmp, 1) := by decide +kernel
theorem dL_law_734 : decode cL_law 734 = .ok (.ifCond .eq 5, 3) := by decide +kernel
theorem dL_law_737 : decode cL_law 737 = .ok (.iconst 0, 1) := by decide +kernel
theorem dL_law_738 : decode cL_law 738 = .ok (.ireturn, 1) := by decide +kernel
theorem dL_law_739 : decode cL_law 739 = .ok (.goto 474, 3) := by decide +kernel
theorem dL_law_742 : decode cL_law 742 = .ok (.aload_n 1, 1) := by decide +kernel
theorem dL_law_743 : decode cL_law 743 = .ok (.aload_n 3, 1) := by decide +kernel
theorem dL_law_744 : decode cL_law 744 = .ok (.invokestatic 124, 3) := by decide +kernel
theorem dL_law_747 : decode cL_law 747 = .ok (.istore 5, 2) := by decide +kernel
theorem dL_law_749 : decode cL_law 749 = .ok (.aload_n 2, 1) := by decide +kernel
theorem dL_law_750 : decode cL_law 750 = .ok (.invokevirtual 126, 3) := by decide +kernel
theorem dL_law_753 : decode cL_law 753 = .ok (.istore 6, 2) := by decide +kernel
theorem dL_law_755 : decode cL_law 755 = .ok (.aload_n 2, 1) := by decide +kernel
theorem dL_law_756 : decode cL_law 756 = .ok (.invokevirtual 86, 3) := by decide +kernel
theorem dL_law_759 : decode cL_law 759 = .ok (.iload 5, 2) := by decide +kernel
theorem dL_law_761 : decode cL_law 761 = .ok (.if_icmp .eq 5, 3) := by decide +kernel
theorem dL_law_764 : decode cL_law 764 = .ok (.iconst 0, 1) := by decide +kernel
theorem dL_law_765 : decode cL_law 765 = .ok (.ireturn, 1) := by decide +kernel
theorem dL_law_766 : decode cL_law 766 = .ok (.iload 5, 2) := by decide +kernel
theorem dL_law_768 : decode cL_law 768 = .ok (.ifCond .ne 15, 3) := by decide +kernel
theorem dL_law_771 : decode cL_law 771 = .ok (.aload_n 3, 1) := by decide +kernel
theorem dL_law_772 : decode cL_law 772 = .ok (.iconst 0, 1) := by decide +kernel
theorem dL_law_773 : decode cL_law 773 = .ok (.laload, 1) := by decide +kernel
theorem dL_law_774 : decode cL_law 774 = .ok (.iload 6, 2) := by decide +kernel
theorem dL_law_776 : decode cL_law 776 = .ok (.i2l, 1) := by decide +kernel
theorem dL_law_777 : decode cL_law 777 = .ok (.lcmp, 1) := by decide +kernel
theorem dL_law_778 : decode cL_law 778 = .ok (.ifCond .eq 5, 3) := by decide +kernel
theorem dL_law_781 : decode cL_law 781 = .ok (.iconst 0, 1) := by decide +kernel
theorem dL_law_782 : decode cL_law 782 = .ok (.ireturn, 1) := by decide +kernel
theorem dL_law_783 : decode cL_law 783 = .ok (.goto 430, 3) := by decide +kernel
theorem dL_law_786 : decode cL_law 786 = .ok (.aload_n 1, 1) := by decide +kernel
theorem dL_law_787 : decode cL_law 787 = .ok (.aload_n 0, 1) := by decide +kernel
theorem dL_law_788 : decode cL_law 788 = .ok (.iload 4, 2) := by decide +kernel
theorem dL_law_790 : decode cL_law 790 = .ok (.iconst 1, 1) := by decide +kernel
theorem dL_law_791 : decode cL_law 791 = .ok (.iadd, 1) := by decide +kernel
theorem dL_law_792 : decode cL_law 792 = .ok (.iaload, 1) := by decide +kernel
theorem dL_law_793 : decode cL_law 793 = .ok (.aload_n 0, 1) := by decide +kernel
theorem dL_law_794 : decode cL_law 794 = .ok (.iload 4, 2) := by decide +kernel
theorem dL_law_796 : decode cL_law 796 = .ok (.iconst 2, 1) := by decide +kernel
theorem dL_law_797 : decode cL_law 797 = .ok (.iadd, 1) := by decide +kernel
theorem dL_law_798 : decode cL_law 798 = .ok (.iaload, 1) := by decide +kernel
theorem dL_law_799 : decode cL_law 799 = .ok (.ifCond .eq 7, 3) := by decide +kernel
theorem dL_law_802 : decode cL_law 802 = .ok (.iconst 1, 1) := by decide +kernel
theorem dL_law_803 : decode cL_law 803 = .ok (.goto 4, 3) := by decide +kernel
theorem dL_law_806 : decode cL_law 806 = .ok (.iconst 0, 1) := by decide +kernel
theorem dL_law_807 : decode cL_law 807 = .ok (.aload_n 3, 1) := by decide +kernel
theorem dL_law_808 : decode cL_law 808 = .ok (.invokestatic 127, 3) := by decide +kernel
theorem dL_law_811 : decode cL_law 811 = .ok (.istore 5, 2) := by decide +kernel
theorem dL_law_813 : decode cL_law 813 = .ok (.aload_n 2, 1) := by decide +kernel
theorem dL_law_814 : decode cL_law 814 = .ok (.aload_n 0, 1) := by decide +kernel
theorem dL_law_815 : decode cL_law 815 = .ok (.iload 4, 2) := by decide +kernel
theorem dL_law_817 : decode cL_law 817 = .ok (.iconst 1, 1) := by decide +kernel
theorem dL_law_818 : decode cL_law 818 = .ok (.iadd, 1) := by decide +kernel
theorem dL_law_819 : decode cL_law 819 = .ok (.iaload, 1) := by decide +kernel
theorem dL_law_820 : decode cL_law 820 = .ok (.aload_n 0, 1) := by decide +kernel
theorem dL_law_821 : decode cL_law 821 = .ok (.iload 4, 2) := by decide +kernel
theorem dL_law_823 : decode cL_law 823 = .ok (.iconst 2, 1) := by decide +kernel
theorem dL_law_824 : decode cL_law 824 = .ok (.iadd, 1) := by decide +kernel
theorem dL_law_825 : decode cL_law 825 = .ok (.iaload, 1) := by decide +kernel
theorem dL_law_826 : decode cL_law 826 = .ok (.ifCond .eq 7, 3) := by decide +kernel
theorem dL_law_829 : decode cL_law 829 = .ok (.iconst 1, 1) := by decide +kernel
theorem dL_law_830 : decode cL_law 830 = .ok (.goto 4, 3) := by decide +kernel
theorem dL_law_833 : decode cL_law 833 = .ok (.iconst 0, 1) := by decide +kernel
theorem dL_law_834 : decode cL_law 834 = .ok (.invokevirtual 130, 3) := by decide +kernel
theorem dL_law_837 : decode cL_law 837 = .ok (.istore 6, 2) := by decide +kernel
theorem dL_law_839 : decode cL_law 839 = .ok (.aload_n 2, 1) := by decide +kernel
theorem dL_law_840 : decode cL_law 840 = .ok (.invokevirtual 86, 3) := by decide +kernel
theorem dL_law_843 : decode cL_law 843 = .ok (.iload 5, 2) := by decide +kernel
theorem dL_law_845 : decode cL_law 845 = .ok (.if_icmp .eq 5, 3) := by decide +kernel
theorem dL_law_848 : decode cL_law 848 = .ok (.iconst 0, 1) := by decide +kernel
theorem dL_law_849 : decode cL_law 849 = .ok (.ireturn, 1) := by decide +kernel
theorem dL_law_850 : decode cL_law 850 = .ok (.iload 5, 2) := by decide +kernel
theorem dL_law_852 : decode cL_law 852 = .ok (.ifCond .ne 15, 3) := by decide +kernel
theorem dL_law_855 : decode cL_law 855 = .ok (.aload_n 3, 1) := by decide +kernel
theorem dL_law_856 : decode cL_law 856 = .ok (.iconst 0, 1) := by decide +kernel
theorem dL_law_857 : decode cL_law 857 = .ok (.laload, 1) := by decide +kernel
theorem dL_law_858 : decode cL_law 858 = .ok (.iload 6, 2) := by decide +kernel
theorem dL_law_860 : decode cL_law 860 = .ok (.i2l, 1) := by decide +kernel
theorem dL_law_861 : decode cL_law 861 = .ok (.lcmp, 1) := by decide +kernel
theorem dL_law_862 : decode cL_law 862 = .ok (.ifCond .eq 5, 3) := by decide +kernel
theorem dL_law_865 : decode cL_law 865 = .ok (.iconst 0, 1) := by decide +kernel
theorem dL_law_866 : decode cL_law 866 = .ok (.ireturn, 1) := by decide +kernel
theorem dL_law_867 : decode cL_law 867 = .ok (.goto 346, 3) := by decide +kernel
theorem dL_law_870 : decode cL_law 870 = .ok (.aload_n 1, 1) := by decide +kernel
theorem dL_law_871 : decode cL_law 871 = .ok (.aload_n 3, 1) := by decide +kernel
theorem dL_law_872 : decode cL_law 872 = .ok (.invokestatic 131, 3) := by decide +kernel
theorem dL_law_875 : decode cL_law 875 = .ok (.istore 5, 2) := by decide +kernel
theorem dL_law_877 : decode cL_law 877 = .ok (.aload_n 2, 1) := by decide +kernel
theorem dL_law_878 : decode cL_law 878 = .ok (.invokevirtual 133, 3) := by decide +kernel
theorem dL_law_881 : decode cL_law 881 = .ok (.istore 6, 2) := by decide +kernel
theorem dL_law_883 : decode cL_law 883 = .ok (.aload_n 2, 1) := by decide +kernel
theorem dL_law_884 : decode cL_law 884 = .ok (.invokevirtual 86, 3) := by decide +kernel
theorem dL_law_887 : decode cL_law 887 = .ok (.iload 5, 2) := by decide +kernel
theorem dL_law_889 : decode cL_law 889 = .ok (.if_icmp .eq 5, 3) := by decide +kernel
theorem dL_law_892 : decode cL_law 892 = .ok (.iconst 0, 1) := by decide +kernel
theorem dL_law_893 : decode cL_law 893 = .ok (.ireturn, 1) := by decide +kernel
theorem dL_law_894 : decode cL_law 894 = .ok (.iload 5, 2) := by decide +kernel
theorem dL_law_896 : decode cL_law 896 = .ok (.ifCond .ne 15, 3) := by decide +kernel
theorem dL_law_899 : decode cL_law 899 = .ok (.aload_n 3, 1) := by decide +kernel
theorem dL_law_900 : decode cL_law 900 = .ok (.iconst 0, 1) := by decide +kernel
theorem dL_law_901 : decode cL_law 901 = .ok (.laload, 1) := by decide +kernel
theorem dL_law_902 : decode cL_law 902 = .ok (.iload 6, 2) := by decide +kernel
theorem dL_law_904 : decode cL_law 904 = .ok (.i2l, 1) := by decide +kernel
theorem dL_law_905 : decode cL_law 905 = .ok (.lcmp, 1) := by decide +kernel
theorem dL_law_906 : decode cL_law 906 = .ok (.ifCond .eq 5, 3) := by decide +kernel
theorem dL_law_909 : decode cL_law 909 = .ok (.iconst 0, 1) := by decide +kernel
theorem dL_law_910 : decode cL_law 910 = .ok (.ireturn, 1) := by decide +kernel
theorem dL_law_911 : decode cL_law 911 = .ok (.goto 302, 3) := by decide +kernel
theorem dL_law_914 : decode cL_law 914 = .ok (.aload_n 1, 1) := by decide +kernel
theorem dL_law_915 : decode cL_law 915 = .ok (.aload_n 0, 1) := by decide +kernel
theorem dL_law_916 : decode cL_law 916 = .ok (.iload 4, 2) := by decide +kernel
theorem dL_law_918 : decode cL_law 918 = .ok (.iconst 1, 1) := by decide +kernel
theorem dL_law_919 : decode cL_law 919 = .ok (.iadd, 1) := by decide +kernel
theorem dL_law_920 : decode cL_law 920 = .ok (.iaload, 1) := by decide +kernel
theorem dL_law_921 : decode cL_law 921 = .ok (.aload_n 0, 1) := by decide +kernel
theorem dL_law_922 : decode cL_law 922 = .ok (.iload 4, 2) := by decide +kernel
theorem dL_law_924 : decode cL_law 924 = .ok (.iconst 2, 1) := by decide +kernel
theorem dL_law_925 : decode cL_law 925 = .ok (.iadd, 1) := by decide +kernel
theorem dL_law_926 : decode cL_law 926 = .ok (.iaload, 1) := by decide +kernel
theorem dL_law_927 : decode cL_law 927 = .ok (.aload_n 3, 1) := by decide +kernel
theorem dL_law_928 : decode cL_law 928 = .ok (.invokestatic 134, 3) := by decide +kernel
theorem dL_law_931 : decode cL_law 931 = .ok (.istore 5, 2) := by decide +kernel
theorem dL_law_933 : decode cL_law 933 = .ok (.aload_n 2, 1) := by decide +kernel
theorem dL_law_934 : decode cL_law 934 = .ok (.aload_n 0, 1) := by decide +kernel
theorem dL_law_935 : decode cL_law 935 = .ok (.iload 4, 2) := by decide +kernel
theorem dL_law_937 : decode cL_law 937 = .ok (.iconst 1, 1) := by decide +kernel
theorem dL_law_938 : decode cL_law 938 = .ok (.iadd, 1) := by decide +kernel
theorem dL_law_939 : decode cL_law 939 = .ok (.iaload, 1) := by decide +kernel
theorem dL_law_940 : decode cL_law 940 = .ok (.aload_n 0, 1) := by decide +kernel
theorem dL_law_941 : decode cL_law 941 = .ok (.iload 4, 2) := by decide +kernel
theorem dL_law_943 : decode cL_law 943 = .ok (.iconst 2, 1) := by decide +kernel
theorem dL_law_944 : decode cL_law 944 = .ok (.iadd, 1) := by decide +kernel
theorem dL_law_945 : decode cL_law 945 = .ok (.iaload, 1) := by decide +kernel
theorem dL_law_946 : decode cL_law 946 = .ok (.invokevirtual 136, 3) := by decide +kernel
theorem dL_law_949 : decode cL_law 949 = .ok (.istore 6, 2) := by decide +kernel
theorem dL_law_951 : decode cL_law 951 = .ok (.aload_n 2, 1) := by decide +kernel
theorem dL_law_952 : decode cL_law 952 = .ok (.invokevirtual 86, 3) := by decide +kernel
theorem dL_law_955 : decode cL_law 955 = .ok (.iload 5, 2) := by decide +kernel
theorem dL_law_957 : decode cL_law 957 = .ok (.if_icmp .eq 5, 3) := by decide +kernel
theorem dL_law_960 : decode cL_law 960 = .ok (.iconst 0, 1) := by decide +kernel
theorem dL_law_961 : decode cL_law 961 = .ok (.ireturn, 1) := by decide +kernel
theorem dL_law_962 : decode cL_law 962 = .ok (.iload 5, 2) := by decide +kernel
theorem dL_law_964 : decode cL_law 964 = .ok (.ifCond .ne 15, 3) := by decide +kernel
theorem dL_law_967 : decode cL_law 967 = .ok (.aload_n 3, 1) := by decide +kernel
theorem dL_law_968 : decode cL_law 968 = .ok (.iconst 0, 1) := by decide +kernel
theorem dL_law_969 : decode cL_law 969 = .ok (.laload, 1) := by decide +kernel
theorem dL_law_970 : decode cL_law 970 = .ok (.iload 6, 2) := by decide +kernel
theorem dL_law_972 : decode cL_law 972 = .ok (.i2l, 1) := by decide +kernel
theorem dL_law_973 : decode cL_law 973 = .ok (.lcmp, 1) := by decide +kernel
theorem dL_law_974 : decode cL_law 974 = .ok (.ifCond .eq 5, 3) := by decide +kernel
theorem dL_law_977 : decode cL_law 977 = .ok (.iconst 0, 1) := by decide +kernel
theorem dL_law_978 : decode cL_law 978 = .ok (.ireturn, 1) := by decide +kernel
theorem dL_law_979 : decode cL_law 979 = .ok (.goto 234, 3) := by decide +kernel
theorem dL_law_982 : decode cL_law 982 = .ok (.aload_n 1, 1) := by decide +kernel
theorem dL_law_983 : decode cL_law 983 = .ok (.aload_n 0, 1) := by decide +kernel
theorem dL_law_984 : decode cL_law 984 = .ok (.iload 4, 2) := by decide +kernel
theorem dL_law_986 : decode cL_law 986 = .ok (.iconst 1, 1) := by decide +kernel
theorem dL_law_987 : decode cL_law 987 = .ok (.iadd, 1) := by decide +kernel
theorem dL_law_988 : decode cL_law 988 = .ok (.iaload, 1) := by decide +kernel
theorem dL_law_989 : decode cL_law 989 = .ok (.aload_n 3, 1) := by decide +kernel
theorem dL_law_990 : decode cL_law 990 = .ok (.invokestatic 137, 3) := by decide +kernel
theorem dL_law_993 : decode cL_law 993 = .ok (.istore 5, 2) := by decide +kernel
theorem dL_law_995 : decode cL_law 995 = .ok (.aload_n 2, 1) := by decide +kernel
theorem dL_law_996 : decode cL_law 996 = .ok (.aload_n 0, 1) := by decide +kernel
theorem dL_law_997 : decode cL_law 997 = .ok (.iload 4, 2) := by decide +kernel
theorem dL_law_999 : decode cL_law 999 = .ok (.iconst 1, 1) := by decide +kernel
theorem dL_law_1000 : decode cL_law 1000 = .ok (.iadd, 1) := by decide +kernel
theorem dL_law_1001 : decode cL_law 1001 = .ok (.iaload, 1) := by decide +kernel
theorem dL_law_1002 : decode cL_law 1002 = .ok (.invokevirtual 140, 3) := by decide +kernel
theorem dL_law_1005 : decode cL_law 1005 = .ok (.istore 6, 2) := by decide +kernel
theorem dL_law_1007 : decode cL_law 1007 = .ok (.aload_n 2, 1) := by decide +kernel
theorem dL_law_1008 : decode cL_law 1008 = .ok (.invokevirtual 86, 3) := by decide +kernel
theorem dL_law_1011 : decode cL_law 1011 = .ok (.iload 5, 2) := by decide +kernel
theorem dL_law_1013 : decode cL_law 1013 = .ok (.if_icmp .eq 5, 3) := by decide +kernel
theorem dL_law_1016 : decode cL_law 1016 = .ok (.iconst 0, 1) := by decide +kernel
theorem dL_law_1017 : decode cL_law 1017 = .ok (.ireturn, 1) := by decide +kernel
theorem dL_law_1018 : decode cL_law 1018 = .ok (.iload 5, 2) := by decide +kernel
theorem dL_law_1020 : decode cL_law 1020 = .ok (.ifCond .ne 22, 3) := by decide +kernel
theorem dL_law_1023 : decode cL_law 1023 = .ok (.aload_n 3, 1) := by decide +kernel
theorem dL_law_1024 : decode cL_law 1024 = .ok (.iconst 0, 1) := by decide +kernel
theorem dL_law_1025 : decode cL_law 1025 = .ok (.laload, 1) := by decide +kernel
theorem dL_law_1026 : decode cL_law 1026 = .ok (.iload 6, 2) := by decide +kernel
theorem dL_law_1028 : decode cL_law 1028 = .ok (.ifCond .eq 7, 3) := by decide +kernel
theorem dL_law_1031 : decode cL_law 1031 = .ok (.lconst 1, 1) := by decide +kernel
theorem dL_law_1032 : decode cL_law 1032 = .ok (.goto 4, 3) := by decide +kernel
theorem dL_law_1035 : decode cL_law 1035 = .ok (.lconst 0, 1) := by decide +kernel
theorem dL_law_1036 : decode cL_law 1036 = .ok (.lcmp, 1) := by decide +kernel
theorem dL_law_1037 : decode cL_law 1037 = .ok (.ifCond .eq 5, 3) := by decide +kernel
theorem dL_law_1040 : decode cL_law 1040 = .ok (.iconst 0, 1) := by decide +kernel
theorem dL_law_1041 : decode cL_law 1041 = .ok (.ireturn, 1) := by decide +kernel
theorem dL_law_1042 : decode cL_law 1042 = .ok (.goto 171, 3) := by decide +kernel
theorem dL_law_1045 : decode cL_law 1045 = .ok (.aload_n 1, 1) := by decide +kernel
theorem dL_law_1046 : decode cL_law 1046 = .ok (.aload_n 3, 1) := by decide +kernel
theorem dL_law_1047 : decode cL_law 1047 = .ok (.invokestatic 141, 3) := by decide +kernel
theorem dL_law_1050 : decode cL_law 1050 = .ok (.istore 5, 2) := by decide +kernel
theorem dL_law_1052 : decode cL_law 1052 = .ok (.aload_n 2, 1) := by decide +kernel
theorem dL_law_1053 : decode cL_law 1053 = .ok (.invokevirtual 143, 3) := by decide +kernel
theorem dL_law_1056 : decode cL_law 1056 = .ok (.istore 6, 2) := by decide +kernel
theorem dL_law_1058 : decode cL_law 1058 = .ok (.aload_n 2, 1) := by decide +kernel
theorem dL_law_1059 : decode cL_law 1059 = .ok (.invokevirtual 86, 3) := by decide +kernel
theorem dL_law_1062 : decode cL_law 1062 = .ok (.iload 5, 2) := by decide +kernel
theorem dL_law_1064 : decode cL_law 1064 = .ok (.if_icmp .eq 5, 3) := by decide +kernel
theorem dL_law_1067 : decode cL_law 1067 = .ok (.iconst 0, 1) := by decide +kernel
theorem dL_law_1068 : decode cL_law 1068 = .ok (.ireturn, 1) := by decide +kernel
theorem dL_law_1069 : decode cL_law 1069 = .ok (.iload 5, 2) := by decide +kernel
theorem dL_law_1071 : decode cL_law 1071 = .ok (.ifCond .ne 15, 3) := by decide +kernel
theorem dL_law_1074 : decode cL_law 1074 = .ok (.aload_n 3, 1) := by decide +kernel
theorem dL_law_1075 : decode cL_law 1075 = .ok (.iconst 0, 1) := by decide +kernel
theorem dL_law_1076 : decode cL_law 1076 = .ok (.laload, 1) := by decide +kernel
theorem dL_law_1077 : decode cL_law 1077 = .ok (.iload 6, 2) := by decide +kernel
theorem dL_law_1079 : decode cL_law 1079 = .ok (.i2l, 1) := by decide +kernel
theorem dL_law_1080 : decode cL_law 1080 = .ok (.lcmp, 1) := by decide +kernel
theorem dL_law_1081 : decode cL_law 1081 = .ok (.ifCond .eq 5, 3) := by decide +kernel
theorem dL_law_1084 : decode cL_law 1084 = .ok (.iconst 0, 1) := by decide +kernel
theorem dL_law_1085 : decode cL_law 1085 = .ok (.ireturn, 1) := by decide +kernel
theorem dL_law_1086 : decode cL_law 1086 = .ok (.goto 127, 3) := by decide +kernel
theorem dL_law_1089 : decode cL_law 1089 = .ok (.aload_n 1, 1) := by decide +kernel
theorem dL_law_1090 : decode cL_law 1090 = .ok (.invokestatic 144, 3) := by decide +kernel
theorem dL_law_1093 : decode cL_law 1093 = .ok (.istore 5, 2) := by decide +kernel
theorem dL_law_1095 : decode cL_law 1095 = .ok (.aload_n 2, 1) := by decide +kernel
theorem dL_law_1096 : decode cL_law 1096 = .ok (.invokevirtual 147, 3) := by decide +kernel
theorem dL_law_1099 : decode cL_law 1099 = .ok (.aload_n 2, 1) := by decide +kernel
theorem dL_law_1100 : decode cL_law 1100 = .ok (.invokevirtual 86, 3) := by decide +kernel
theorem dL_law_1103 : decode cL_law 1103 = .ok (.iload 5, 2) := by decide +kernel
theorem dL_law_1105 : decode cL_law 1105 = .ok (.if_icmp .eq 5, 3) := by decide +kernel
theorem dL_law_1108 : decode cL_law 1108 = .ok (.iconst 0, 1) := by decide +kernel
theorem dL_law_1109 : decode cL_law 1109 = .ok (.ireturn, 1) := by decide +kernel
theorem dL_law_1110 : decode cL_law 1110 = .ok (.goto 103, 3) := by decide +kernel
theorem dL_law_1113 : decode cL_law 1113 = .ok (.aload_n 1, 1) := by decide +kernel
theorem dL_law_1114 : decode cL_law 1114 = .ok (.aload_n 3, 1) := by decide +kernel
theorem dL_law_1115 : decode cL_law 1115 = .ok (.invokestatic 148, 3) := by decide +kernel
theorem dL_law_1118 : decode cL_law 1118 = .ok (.istore 5, 2) := by decide +kernel
theorem dL_law_1120 : decode cL_law 1120 = .ok (.aload_n 2, 1) := by decide +kernel
theorem dL_law_1121 : decode cL_law 1121 = .ok (.invokevirtual 150, 3) := by decide +kernel
theorem dL_law_1124 : decode cL_law 1124 = .ok (.istore 6, 2) := by decide +kernel
theorem dL_law_1126 : decode cL_law 1126 = .ok (.aload_n 2, 1) := by decide +kernel
theorem dL_law_1127 : decode cL_law 1127 = .ok (.invokevirtual 86, 3) := by decide +kernel
theorem dL_law_1130 : decode cL_law 1130 = .ok (.iload 5, 2) := by decide +kernel
theorem dL_law_1132 : decode cL_law 1132 = .ok (.if_icmp .eq 5, 3) := by decide +kernel
theorem dL_law_1135 : decode cL_law 1135 = .ok (.iconst 0, 1) := by decide +kernel
theorem dL_law_1136 : decode cL_law 1136 = .ok (.ireturn, 1) := by decide +kernel
theorem dL_law_1137 : decode cL_law 1137 = .ok (.iload 5, 2) := by decide +kernel
theorem dL_law_1139 : decode cL_law 1139 = .ok (.ifCond .ne 15, 3) := by decide +kernel
theorem dL_law_1142 : decode cL_law 1142 = .ok (.aload_n 3, 1) := by decide +kernel
theorem dL_law_1143 : decode cL_law 1143 = .ok (.iconst 0, 1) := by decide +kernel
theorem dL_law_1144 : decode cL_law 1144 = .ok (.laload, 1) := by decide +kernel
theorem dL_law_1145 : decode cL_law 1145 = .ok (.iload 6, 2) := by decide +kernel
theorem dL_law_1147 : decode cL_law 1147 = .ok (.i2l, 1) := by decide +kernel
theorem dL_law_1148 : decode cL_law 1148 = .ok (.lcmp, 1) := by decide +kernel
theorem dL_law_1149 : decode cL_law 1149 = .ok (.ifCond .eq 5, 3) := by decide +kernel
theorem dL_law_1152 : decode cL_law 1152 = .ok (.iconst 0, 1) := by decide +kernel
theorem dL_law_1153 : decode cL_law 1153 = .ok (.ireturn, 1) := by decide +kernel
theorem dL_law_1154 : decode cL_law 1154 = .ok (.goto 59, 3) := by decide +kernel
theorem dL_law_1157 : decode cL_law 1157 = .ok (.aload_n 1, 1) := by decide +kernel
theorem dL_law_1158 : decode cL_law 1158 = .ok (.aload_n 0, 1) := by decide +kernel
theorem dL_law_1159 : decode cL_law 1159 = .ok (.iload 4, 2) := by decide +kernel
theorem dL_law_1161 : decode cL_law 1161 = .ok (.iconst 1, 1) := by decide +kernel
theorem dL_law_1162 : decode cL_law 1162 = .ok (.iadd, 1) := by decide +kernel
theorem dL_law_1163 : decode cL_law 1163 = .ok (.iaload, 1) := by decide +kernel
theorem dL_law_1164 : decode cL_law 1164 = .ok (.aload_n 3, 1) := by decide +kernel
theorem dL_law_1165 : decode cL_law 1165 = .ok (.invokestatic 151, 3) := by decide +kernel
theorem dL_law_1168 : decode cL_law 1168 = .ok (.istore 5, 2) := by decide +kernel
theorem dL_law_1170 : decode cL_law 1170 = .ok (.aload_n 2, 1) := by decide +kernel
theorem dL_law_1171 : decode cL_law 1171 = .ok (.aload_n 0, 1) := by decide +kernel
theorem dL_law_1172 : decode cL_law 1172 = .ok (.iload 4, 2) := by decide +kernel
theorem dL_law_1174 : decode cL_law 1174 = .ok (.iconst 1, 1) := by decide +kernel
theorem dL_law_1175 : decode cL_law 1175 = .ok (.iadd, 1) := by decide +kernel
theorem dL_law_1176 : decode cL_law 1176 = .ok (.iaload, 1) := by decide +kernel
theorem dL_law_1177 : decode cL_law 1177 = .ok (.invokevirtual 153, 3) := by decide +kernel
theorem dL_law_1180 : decode cL_law 1180 = .ok (.istore 6, 2) := by decide +kernel
theorem dL_law_1182 : decode cL_law 1182 = .ok (.aload_n 2, 1) := by decide +kernel
theorem dL_law_1183 : decode cL_law 1183 = .ok (.invokevirtual 86, 3) := by decide +kernel
theorem dL_law_1186 : decode cL_law 1186 = .ok (.iload 5, 2) := by decide +kernel
theorem dL_law_1188 : decode cL_law 1188 = .ok (.if_icmp .eq 5, 3) := by decide +kernel
theorem dL_law_1191 : decode cL_law 1191 = .ok (.iconst 0, 1) := by decide +kernel
theorem dL_law_1192 : decode cL_law 1192 = .ok (.ireturn, 1) := by decide +kernel
theorem dL_law_1193 : decode cL_law 1193 = .ok (.iload 5, 2) := by decide +kernel
theorem dL_law_1195 : decode cL_law 1195 = .ok (.ifCond .ne 15, 3) := by decide +kernel
theorem dL_law_1198 : decode cL_law 1198 = .ok (.aload_n 3, 1) := by decide +kernel
theorem dL_law_1199 : decode cL_law 1199 = .ok (.iconst 0, 1) := by decide +kernel
theorem dL_law_1200 : decode cL_law 1200 = .ok (.laload, 1) := by decide +kernel
theorem dL_law_1201 : decode cL_law 1201 = .ok (.iload 6, 2) := by decide +kernel
theorem dL_law_1203 : decode cL_law 1203 = .ok (.i2l, 1) := by decide +kernel
theorem dL_law_1204 : decode cL_law 1204 = .ok (.lcmp, 1) := by decide +kernel
theorem dL_law_1205 : decode cL_law 1205 = .ok (.ifCond .eq 5, 3) := by decide +kernel
theorem dL_law_1208 : decode cL_law 1208 = .ok (.iconst 0, 1) := by decide +kernel
theorem dL_law_1209 : decode cL_law 1209 = .ok (.ireturn, 1) := by decide +kernel
theorem dL_law_1210 : decode cL_law 1210 = .ok (.goto 3, 3) := by decide +kernel
theorem dL_law_1213 : decode cL_law 1213 = .ok (.iinc 4 4, 3) := by decide +kernel
theorem dL_law_1216 : decode cL_law 1216 = .ok (.goto (-1193), 3) := by decide +kernel
theorem dL_law_1219 : decode cL_law 1219 = .ok (.iconst 1, 1) := by decide +kernel
theorem dL_law_1220 : decode cL_law 1220 = .ok (.ireturn, 1) := by decide +kernel
