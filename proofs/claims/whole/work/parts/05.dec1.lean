theorem d_H_init_0 : decode b_H_init 0 = .ok (.aload_n 0, 1) := by decide +kernel
theorem d_H_init_1 : decode b_H_init 1 = .ok (.invokespecial 3, 3) := by decide +kernel
theorem d_H_init_4 : decode b_H_init 4 = .ok (.aload_n 0, 1) := by decide +kernel
theorem d_H_init_5 : decode b_H_init 5 = .ok (.bipush (8), 2) := by decide +kernel
theorem d_H_init_7 : decode b_H_init 7 = .ok (.anewarray 9, 3) := by decide +kernel
theorem d_H_init_10 : decode b_H_init 10 = .ok (.putfield 11, 3) := by decide +kernel
theorem d_H_init_13 : decode b_H_init 13 = .ok (.iconst 0, 1) := by decide +kernel
theorem d_H_init_14 : decode b_H_init 14 = .ok (.istore_n 1, 1) := by decide +kernel
theorem d_H_init_15 : decode b_H_init 15 = .ok (.iload_n 1, 1) := by decide +kernel
theorem d_H_init_16 : decode b_H_init 16 = .ok (.aload_n 0, 1) := by decide +kernel
theorem d_H_init_17 : decode b_H_init 17 = .ok (.getfield 11, 3) := by decide +kernel
theorem d_H_init_20 : decode b_H_init 20 = .ok (.arraylength, 1) := by decide +kernel
theorem d_H_init_21 : decode b_H_init 21 = .ok (.if_icmp .ge (22), 3) := by decide +kernel
theorem d_H_init_24 : decode b_H_init 24 = .ok (.aload_n 0, 1) := by decide +kernel
theorem d_H_init_25 : decode b_H_init 25 = .ok (.getfield 11, 3) := by decide +kernel
theorem d_H_init_28 : decode b_H_init 28 = .ok (.iload_n 1, 1) := by decide +kernel
theorem d_H_init_29 : decode b_H_init 29 = .ok (.new 9, 3) := by decide +kernel
theorem d_H_init_32 : decode b_H_init 32 = .ok (.dup, 1) := by decide +kernel
theorem d_H_init_33 : decode b_H_init 33 = .ok (.invokespecial 15, 3) := by decide +kernel
theorem d_H_init_36 : decode b_H_init 36 = .ok (.aastore, 1) := by decide +kernel
theorem d_H_init_37 : decode b_H_init 37 = .ok (.iinc 1 (1), 3) := by decide +kernel
theorem d_H_init_40 : decode b_H_init 40 = .ok (.goto (-25), 3) := by decide +kernel
theorem d_H_init_43 : decode b_H_init 43 = .ok (.aload_n 0, 1) := by decide +kernel
theorem d_H_init_44 : decode b_H_init 44 = .ok (.new 9, 3) := by decide +kernel
theorem d_H_init_47 : decode b_H_init 47 = .ok (.dup, 1) := by decide +kernel
theorem d_H_init_48 : decode b_H_init 48 = .ok (.invokespecial 15, 3) := by decide +kernel
theorem d_H_init_51 : decode b_H_init 51 = .ok (.putfield 16, 3) := by decide +kernel
theorem d_H_init_54 : decode b_H_init 54 = .ok (.aload_n 0, 1) := by decide +kernel
theorem d_H_init_55 : decode b_H_init 55 = .ok (.new 9, 3) := by decide +kernel
theorem d_H_init_58 : decode b_H_init 58 = .ok (.dup, 1) := by decide +kernel
theorem d_H_init_59 : decode b_H_init 59 = .ok (.invokespecial 15, 3) := by decide +kernel
theorem d_H_init_62 : decode b_H_init 62 = .ok (.putfield 20, 3) := by decide +kernel
theorem d_H_init_65 : decode b_H_init 65 = .ok (.aload_n 0, 1) := by decide +kernel
theorem d_H_init_66 : decode b_H_init 66 = .ok (.new 9, 3) := by decide +kernel
theorem d_H_init_69 : decode b_H_init 69 = .ok (.dup, 1) := by decide +kernel
theorem d_H_init_70 : decode b_H_init 70 = .ok (.invokespecial 15, 3) := by decide +kernel
theorem d_H_init_73 : decode b_H_init 73 = .ok (.putfield 23, 3) := by decide +kernel
theorem d_H_init_76 : decode b_H_init 76 = .ok (.aload_n 0, 1) := by decide +kernel
theorem d_H_init_77 : decode b_H_init 77 = .ok (.new 9, 3) := by decide +kernel
theorem d_H_init_80 : decode b_H_init 80 = .ok (.dup, 1) := by decide +kernel
theorem d_H_init_81 : decode b_H_init 81 = .ok (.invokespecial 15, 3) := by decide +kernel
theorem d_H_init_84 : decode b_H_init 84 = .ok (.putfield 26, 3) := by decide +kernel
theorem d_H_init_87 : decode b_H_init 87 = .ok (.aload_n 0, 1) := by decide +kernel
theorem d_H_init_88 : decode b_H_init 88 = .ok (.new 29, 3) := by decide +kernel
theorem d_H_init_91 : decode b_H_init 91 = .ok (.dup, 1) := by decide +kernel
theorem d_H_init_92 : decode b_H_init 92 = .ok (.invokespecial 31, 3) := by decide +kernel
theorem d_H_init_95 : decode b_H_init 95 = .ok (.putfield 32, 3) := by decide +kernel
theorem d_H_init_98 : decode b_H_init 98 = .ok (.aload_n 0, 1) := by decide +kernel
theorem d_H_init_99 : decode b_H_init 99 = .ok (.new 36, 3) := by decide +kernel
theorem d_H_init_102 : decode b_H_init 102 = .ok (.dup, 1) := by decide +kernel
theorem d_H_init_103 : decode b_H_init 103 = .ok (.invokespecial 38, 3) := by decide +kernel
theorem d_H_init_106 : decode b_H_init 106 = .ok (.putfield 39, 3) := by decide +kernel
theorem d_H_init_109 : decode b_H_init 109 = .ok (.aload_n 0, 1) := by decide +kernel
theorem d_H_init_110 : decode b_H_init 110 = .ok (.iconst 0, 1) := by decide +kernel
theorem d_H_init_111 : decode b_H_init 111 = .ok (.putfield 43, 3) := by decide +kernel
theorem d_H_init_114 : decode b_H_init 114 = .ok (.aload_n 0, 1) := by decide +kernel
theorem d_H_init_115 : decode b_H_init 115 = .ok (.lconst 0, 1) := by decide +kernel
theorem d_H_init_116 : decode b_H_init 116 = .ok (.putfield 47, 3) := by decide +kernel
theorem d_H_init_119 : decode b_H_init 119 = .ok (.aload_n 0, 1) := by decide +kernel
theorem d_H_init_120 : decode b_H_init 120 = .ok (.lconst 1, 1) := by decide +kernel
theorem d_H_init_121 : decode b_H_init 121 = .ok (.putfield 51, 3) := by decide +kernel
theorem d_H_init_124 : decode b_H_init 124 = .ok (.return_, 1) := by decide +kernel
theorem d_H_clear_0 : decode b_H_clear 0 = .ok (.aload_n 0, 1) := by decide +kernel
theorem d_H_clear_1 : decode b_H_clear 1 = .ok (.iconst 0, 1) := by decide +kernel
theorem d_H_clear_2 : decode b_H_clear 2 = .ok (.putfield 43, 3) := by decide +kernel
theorem d_H_clear_5 : decode b_H_clear 5 = .ok (.aload_n 0, 1) := by decide +kernel
theorem d_H_clear_6 : decode b_H_clear 6 = .ok (.lconst 0, 1) := by decide +kernel
theorem d_H_clear_7 : decode b_H_clear 7 = .ok (.lconst 1, 1) := by decide +kernel
theorem d_H_clear_8 : decode b_H_clear 8 = .ok (.invokevirtual 54, 3) := by decide +kernel
theorem d_H_clear_11 : decode b_H_clear 11 = .ok (.return_, 1) := by decide +kernel
theorem d_H_set_0 : decode b_H_set 0 = .ok (.aload_n 0, 1) := by decide +kernel
theorem d_H_set_1 : decode b_H_set 1 = .ok (.getfield 43, 3) := by decide +kernel
theorem d_H_set_4 : decode b_H_set 4 = .ok (.bipush (8), 2) := by decide +kernel
theorem d_H_set_6 : decode b_H_set 6 = .ok (.if_icmp .lt (6), 3) := by decide +kernel
theorem d_H_set_9 : decode b_H_set 9 = .ok (.bipush (-5), 2) := by decide +kernel
theorem d_H_set_11 : decode b_H_set 11 = .ok (.ireturn, 1) := by decide +kernel
theorem d_H_set_12 : decode b_H_set 12 = .ok (.aload_n 0, 1) := by decide +kernel
theorem d_H_set_13 : decode b_H_set 13 = .ok (.getfield 43, 3) := by decide +kernel
theorem d_H_set_16 : decode b_H_set 16 = .ok (.istore_n 1, 1) := by decide +kernel
theorem d_H_set_17 : decode b_H_set 17 = .ok (.aload_n 0, 1) := by decide +kernel
theorem d_H_set_18 : decode b_H_set 18 = .ok (.dup, 1) := by decide +kernel
theorem d_H_set_19 : decode b_H_set 19 = .ok (.getfield 43, 3) := by decide +kernel
theorem d_H_set_22 : decode b_H_set 22 = .ok (.iconst 1, 1) := by decide +kernel
theorem d_H_set_23 : decode b_H_set 23 = .ok (.iadd, 1) := by decide +kernel
theorem d_H_set_24 : decode b_H_set 24 = .ok (.putfield 43, 3) := by decide +kernel
theorem d_H_set_27 : decode b_H_set 27 = .ok (.aload_n 0, 1) := by decide +kernel
theorem d_H_set_28 : decode b_H_set 28 = .ok (.iload_n 1, 1) := by decide +kernel
theorem d_H_set_29 : decode b_H_set 29 = .ok (.invokevirtual 58, 3) := by decide +kernel
theorem d_H_set_32 : decode b_H_set 32 = .ok (.astore_n 2, 1) := by decide +kernel
theorem d_H_set_33 : decode b_H_set 33 = .ok (.aload_n 2, 1) := by decide +kernel
theorem d_H_set_34 : decode b_H_set 34 = .ok (.ifnull (7), 3) := by decide +kernel
theorem d_H_set_37 : decode b_H_set 37 = .ok (.aload_n 2, 1) := by decide +kernel
theorem d_H_set_38 : decode b_H_set 38 = .ok (.invokevirtual 62, 3) := by decide +kernel
theorem d_H_set_41 : decode b_H_set 41 = .ok (.iload_n 1, 1) := by decide +kernel
theorem d_H_set_42 : decode b_H_set 42 = .ok (.ireturn, 1) := by decide +kernel
theorem d_H_point_0 : decode b_H_point 0 = .ok (.aload_n 0, 1) := by decide +kernel
theorem d_H_point_1 : decode b_H_point 1 = .ok (.iload_n 1, 1) := by decide +kernel
theorem d_H_point_2 : decode b_H_point 2 = .ok (.invokevirtual 58, 3) := by decide +kernel
theorem d_H_point_5 : decode b_H_point 5 = .ok (.astore 4, 2) := by decide +kernel
theorem d_H_point_7 : decode b_H_point 7 = .ok (.aload 4, 2) := by decide +kernel
theorem d_H_point_9 : decode b_H_point 9 = .ok (.ifnonnull (5), 3) := by decide +kernel
theorem d_H_point_12 : decode b_H_point 12 = .ok (.iconst (-1), 1) := by decide +kernel
theorem d_H_point_13 : decode b_H_point 13 = .ok (.ireturn, 1) := by decide +kernel
theorem d_H_point_14 : decode b_H_point 14 = .ok (.iload_n 2, 1) := by decide +kernel
theorem d_H_point_15 : decode b_H_point 15 = .ok (.bipush (100), 2) := by decide +kernel
theorem d_H_point_17 : decode b_H_point 17 = .ok (.invokestatic 65, 3) := by decide +kernel
theorem d_H_point_20 : decode b_H_point 20 = .ok (.ifCond .eq (12), 3) := by decide +kernel
theorem d_H_point_23 : decode b_H_point 23 = .ok (.iload_n 3, 1) := by decide +kernel
theorem d_H_point_24 : decode b_H_point 24 = .ok (.bipush (100), 2) := by decide +kernel
theorem d_H_point_26 : decode b_H_point 26 = .ok (.invokestatic 65, 3) := by decide +kernel
theorem d_H_point_29 : decode b_H_point 29 = .ok (.ifCond .ne (6), 3) := by decide +kernel
theorem d_H_point_32 : decode b_H_point 32 = .ok (.bipush (-2), 2) := by decide +kernel
theorem d_H_point_34 : decode b_H_point 34 = .ok (.ireturn, 1) := by decide +kernel
theorem d_H_point_35 : decode b_H_point 35 = .ok (.aload 4, 2) := by decide +kernel
theorem d_H_point_37 : decode b_H_point 37 = .ok (.iload_n 2, 1) := by decide +kernel
theorem d_H_point_38 : decode b_H_point 38 = .ok (.iload_n 3, 1) := by decide +kernel
theorem d_H_point_39 : decode b_H_point 39 = .ok (.invokevirtual 69, 3) := by decide +kernel
theorem d_H_point_42 : decode b_H_point 42 = .ok (.ifCond .eq (5), 3) := by decide +kernel
theorem d_H_point_45 : decode b_H_point 45 = .ok (.iconst 0, 1) := by decide +kernel
theorem d_H_point_46 : decode b_H_point 46 = .ok (.ireturn, 1) := by decide +kernel
theorem d_H_point_47 : decode b_H_point 47 = .ok (.aload 4, 2) := by decide +kernel
theorem d_H_point_49 : decode b_H_point 49 = .ok (.invokevirtual 72, 3) := by decide +kernel
theorem d_H_point_52 : decode b_H_point 52 = .ok (.bipush (24), 2) := by decide +kernel
theorem d_H_point_54 : decode b_H_point 54 = .ok (.if_icmp .lt (6), 3) := by decide +kernel
theorem d_H_point_57 : decode b_H_point 57 = .ok (.bipush (-5), 2) := by decide +kernel
theorem d_H_point_59 : decode b_H_point 59 = .ok (.ireturn, 1) := by decide +kernel
theorem d_H_point_60 : decode b_H_point 60 = .ok (.aload 4, 2) := by decide +kernel
theorem d_H_point_62 : decode b_H_point 62 = .ok (.iload_n 2, 1) := by decide +kernel
theorem d_H_point_63 : decode b_H_point 63 = .ok (.iload_n 3, 1) := by decide +kernel
theorem d_H_point_64 : decode b_H_point 64 = .ok (.invokevirtual 76, 3) := by decide +kernel
theorem d_H_point_67 : decode b_H_point 67 = .ok (.iconst 1, 1) := by decide +kernel
theorem d_H_point_68 : decode b_H_point 68 = .ok (.ireturn, 1) := by decide +kernel
theorem d_H_points_0 : decode b_H_points 0 = .ok (.aload_n 0, 1) := by decide +kernel
theorem d_H_points_1 : decode b_H_points 1 = .ok (.iload_n 1, 1) := by decide +kernel
theorem d_H_points_2 : decode b_H_points 2 = .ok (.invokevirtual 58, 3) := by decide +kernel
theorem d_H_points_5 : decode b_H_points 5 = .ok (.astore_n 2, 1) := by decide +kernel
theorem d_H_points_6 : decode b_H_points 6 = .ok (.aload_n 2, 1) := by decide +kernel
theorem d_H_points_7 : decode b_H_points 7 = .ok (.ifnonnull (7), 3) := by decide +kernel
theorem d_H_points_10 : decode b_H_points 10 = .ok (.iconst (-1), 1) := by decide +kernel
theorem d_H_points_11 : decode b_H_points 11 = .ok (.goto (7), 3) := by decide +kernel
theorem d_H_points_14 : decode b_H_points 14 = .ok (.aload_n 2, 1) := by decide +kernel
theorem d_H_points_15 : decode b_H_points 15 = .ok (.invokevirtual 72, 3) := by decide +kernel
theorem d_H_points_18 : decode b_H_points 18 = .ok (.ireturn, 1) := by decide +kernel
theorem d_H_kind_0 : decode b_H_kind 0 = .ok (.aload_n 0, 1) := by decide +kernel
theorem d_H_kind_1 : decode b_H_kind 1 = .ok (.iload_n 1, 1) := by decide +kernel
theorem d_H_kind_2 : decode b_H_kind 2 = .ok (.invokevirtual 58, 3) := by decide +kernel
theorem d_H_kind_5 : decode b_H_kind 5 = .ok (.astore_n 2, 1) := by decide +kernel
theorem d_H_kind_6 : decode b_H_kind 6 = .ok (.aload_n 2, 1) := by decide +kernel
theorem d_H_kind_7 : decode b_H_kind 7 = .ok (.ifnonnull (5), 3) := by decide +kernel
theorem d_H_kind_10 : decode b_H_kind 10 = .ok (.iconst (-1), 1) := by decide +kernel
theorem d_H_kind_11 : decode b_H_kind 11 = .ok (.ireturn, 1) := by decide +kernel
theorem d_H_kind_12 : decode b_H_kind 12 = .ok (.aload_n 0, 1) := by decide +kernel
theorem d_H_kind_13 : decode b_H_kind 13 = .ok (.aload_n 2, 1) := by decide +kernel
theorem d_H_kind_14 : decode b_H_kind 14 = .ok (.invokevirtual 80, 3) := by decide +kernel
theorem d_H_kind_17 : decode b_H_kind 17 = .ok (.invokevirtual 72, 3) := by decide +kernel
theorem d_H_kind_20 : decode b_H_kind 20 = .ok (.iconst 3, 1) := by decide +kernel
theorem d_H_kind_21 : decode b_H_kind 21 = .ok (.invokestatic 84, 3) := by decide +kernel
theorem d_H_kind_24 : decode b_H_kind 24 = .ok (.ireturn, 1) := by decide +kernel
theorem d_H_corners_0 : decode b_H_corners 0 = .ok (.aload_n 0, 1) := by decide +kernel
theorem d_H_corners_1 : decode b_H_corners 1 = .ok (.iload_n 1, 1) := by decide +kernel
theorem d_H_corners_2 : decode b_H_corners 2 = .ok (.invokevirtual 58, 3) := by decide +kernel
theorem d_H_corners_5 : decode b_H_corners 5 = .ok (.astore_n 2, 1) := by decide +kernel
theorem d_H_corners_6 : decode b_H_corners 6 = .ok (.aload_n 2, 1) := by decide +kernel
theorem d_H_corners_7 : decode b_H_corners 7 = .ok (.ifnonnull (7), 3) := by decide +kernel
theorem d_H_corners_10 : decode b_H_corners 10 = .ok (.iconst (-1), 1) := by decide +kernel
theorem d_H_corners_11 : decode b_H_corners 11 = .ok (.goto (11), 3) := by decide +kernel
theorem d_H_corners_14 : decode b_H_corners 14 = .ok (.aload_n 0, 1) := by decide +kernel
theorem d_H_corners_15 : decode b_H_corners 15 = .ok (.aload_n 2, 1) := by decide +kernel
theorem d_H_corners_16 : decode b_H_corners 16 = .ok (.invokevirtual 80, 3) := by decide +kernel
theorem d_H_corners_19 : decode b_H_corners 19 = .ok (.invokevirtual 72, 3) := by decide +kernel
theorem d_H_corners_22 : decode b_H_corners 22 = .ok (.ireturn, 1) := by decide +kernel
theorem d_H_corner_0 : decode b_H_corner 0 = .ok (.aload_n 0, 1) := by decide +kernel
theorem d_H_corner_1 : decode b_H_corner 1 = .ok (.iload_n 1, 1) := by decide +kernel
theorem d_H_corner_2 : decode b_H_corner 2 = .ok (.invokevirtual 58, 3) := by decide +kernel
theorem d_H_corner_5 : decode b_H_corner 5 = .ok (.astore_n 3, 1) := by decide +kernel
theorem d_H_corner_6 : decode b_H_corner 6 = .ok (.aload_n 3, 1) := by decide +kernel
theorem d_H_corner_7 : decode b_H_corner 7 = .ok (.ifnonnull (5), 3) := by decide +kernel
theorem d_H_corner_10 : decode b_H_corner 10 = .ok (.iconst (-1), 1) := by decide +kernel
theorem d_H_corner_11 : decode b_H_corner 11 = .ok (.ireturn, 1) := by decide +kernel
theorem d_H_corner_12 : decode b_H_corner 12 = .ok (.aload_n 0, 1) := by decide +kernel
theorem d_H_corner_13 : decode b_H_corner 13 = .ok (.aload_n 3, 1) := by decide +kernel
theorem d_H_corner_14 : decode b_H_corner 14 = .ok (.invokevirtual 80, 3) := by decide +kernel
theorem d_H_corner_17 : decode b_H_corner 17 = .ok (.astore 4, 2) := by decide +kernel
theorem d_H_corner_19 : decode b_H_corner 19 = .ok (.iload_n 2, 1) := by decide +kernel
theorem d_H_corner_20 : decode b_H_corner 20 = .ok (.ifCond .lt (12), 3) := by decide +kernel
theorem d_H_corner_23 : decode b_H_corner 23 = .ok (.iload_n 2, 1) := by decide +kernel
theorem d_H_corner_24 : decode b_H_corner 24 = .ok (.aload 4, 2) := by decide +kernel
theorem d_H_corner_26 : decode b_H_corner 26 = .ok (.invokevirtual 72, 3) := by decide +kernel
theorem d_H_corner_29 : decode b_H_corner 29 = .ok (.if_icmp .lt (6), 3) := by decide +kernel
theorem d_H_corner_32 : decode b_H_corner 32 = .ok (.bipush (-2), 2) := by decide +kernel
theorem d_H_corner_34 : decode b_H_corner 34 = .ok (.ireturn, 1) := by decide +kernel
theorem d_H_corner_35 : decode b_H_corner 35 = .ok (.aload_n 0, 1) := by decide +kernel
theorem d_H_corner_36 : decode b_H_corner 36 = .ok (.aload 4, 2) := by decide +kernel
theorem d_H_corner_38 : decode b_H_corner 38 = .ok (.iload_n 2, 1) := by decide +kernel
theorem d_H_corner_39 : decode b_H_corner 39 = .ok (.invokevirtual 90, 3) := by decide +kernel
theorem d_H_corner_42 : decode b_H_corner 42 = .ok (.i2l, 1) := by decide +kernel
theorem d_H_corner_43 : decode b_H_corner 43 = .ok (.aload 4, 2) := by decide +kernel
theorem d_H_corner_45 : decode b_H_corner 45 = .ok (.iload_n 2, 1) := by decide +kernel
theorem d_H_corner_46 : decode b_H_corner 46 = .ok (.invokevirtual 94, 3) := by decide +kernel
theorem d_H_corner_49 : decode b_H_corner 49 = .ok (.i2l, 1) := by decide +kernel
theorem d_H_corner_50 : decode b_H_corner 50 = .ok (.invokevirtual 54, 3) := by decide +kernel
theorem d_H_corner_53 : decode b_H_corner 53 = .ok (.iconst 1, 1) := by decide +kernel
theorem d_H_corner_54 : decode b_H_corner 54 = .ok (.ireturn, 1) := by decide +kernel
theorem d_H_beside_0 : decode b_H_beside 0 = .ok (.aload_n 0, 1) := by decide +kernel
theorem d_H_beside_1 : decode b_H_beside 1 = .ok (.iload_n 1, 1) := by decide +kernel
theorem d_H_beside_2 : decode b_H_beside 2 = .ok (.invokevirtual 58, 3) := by decide +kernel
theorem d_H_beside_5 : decode b_H_beside 5 = .ok (.astore_n 2, 1) := by decide +kernel
theorem d_H_beside_6 : decode b_H_beside 6 = .ok (.aload_n 2, 1) := by decide +kernel
theorem d_H_beside_7 : decode b_H_beside 7 = .ok (.ifnonnull (5), 3) := by decide +kernel
theorem d_H_beside_10 : decode b_H_beside 10 = .ok (.iconst (-1), 1) := by decide +kernel
theorem d_H_beside_11 : decode b_H_beside 11 = .ok (.ireturn, 1) := by decide +kernel
theorem d_H_beside_12 : decode b_H_beside 12 = .ok (.aload_n 0, 1) := by decide +kernel
theorem d_H_beside_13 : decode b_H_beside 13 = .ok (.aload_n 2, 1) := by decide +kernel
theorem d_H_beside_14 : decode b_H_beside 14 = .ok (.invokevirtual 80, 3) := by decide +kernel
theorem d_H_beside_17 : decode b_H_beside 17 = .ok (.astore_n 3, 1) := by decide +kernel
theorem d_H_beside_18 : decode b_H_beside 18 = .ok (.iconst 0, 1) := by decide +kernel
theorem d_H_beside_19 : decode b_H_beside 19 = .ok (.istore 4, 2) := by decide +kernel
theorem d_H_beside_21 : decode b_H_beside 21 = .ok (.iconst 0, 1) := by decide +kernel
theorem d_H_beside_22 : decode b_H_beside 22 = .ok (.istore 5, 2) := by decide +kernel
theorem d_H_beside_24 : decode b_H_beside 24 = .ok (.iload 5, 2) := by decide +kernel
theorem d_H_beside_26 : decode b_H_beside 26 = .ok (.aload_n 2, 1) := by decide +kernel
theorem d_H_beside_27 : decode b_H_beside 27 = .ok (.invokevirtual 72, 3) := by decide +kernel
theorem d_H_beside_30 : decode b_H_beside 30 = .ok (.if_icmp .ge (32), 3) := by decide +kernel
theorem d_H_beside_33 : decode b_H_beside 33 = .ok (.aload_n 3, 1) := by decide +kernel
theorem d_H_beside_34 : decode b_H_beside 34 = .ok (.aload_n 2, 1) := by decide +kernel
theorem d_H_beside_35 : decode b_H_beside 35 = .ok (.iload 5, 2) := by decide +kernel
theorem d_H_beside_37 : decode b_H_beside 37 = .ok (.invokevirtual 90, 3) := by decide +kernel
theorem d_H_beside_40 : decode b_H_beside 40 = .ok (.aload_n 2, 1) := by decide +kernel
theorem d_H_beside_41 : decode b_H_beside 41 = .ok (.iload 5, 2) := by decide +kernel
theorem d_H_beside_43 : decode b_H_beside 43 = .ok (.invokevirtual 94, 3) := by decide +kernel
theorem d_H_beside_46 : decode b_H_beside 46 = .ok (.invokevirtual 97, 3) := by decide +kernel
theorem d_H_beside_49 : decode b_H_beside 49 = .ok (.iconst 1, 1) := by decide +kernel
theorem d_H_beside_50 : decode b_H_beside 50 = .ok (.if_icmp .ne (6), 3) := by decide +kernel
theorem d_H_beside_53 : decode b_H_beside 53 = .ok (.iinc 4 (1), 3) := by decide +kernel
theorem d_H_beside_56 : decode b_H_beside 56 = .ok (.iinc 5 (1), 3) := by decide +kernel
theorem d_H_beside_59 : decode b_H_beside 59 = .ok (.goto (-35), 3) := by decide +kernel
theorem d_H_beside_62 : decode b_H_beside 62 = .ok (.iload 4, 2) := by decide +kernel
theorem d_H_beside_64 : decode b_H_beside 64 = .ok (.aload_n 3, 1) := by decide +kernel
theorem d_H_beside_65 : decode b_H_beside 65 = .ok (.invokevirtual 72, 3) := by decide +kernel
theorem d_H_beside_68 : decode b_H_beside 68 = .ok (.isub, 1) := by decide +kernel
theorem d_H_beside_69 : decode b_H_beside 69 = .ok (.ireturn, 1) := by decide +kernel
theorem d_H_area_0 : decode b_H_area 0 = .ok (.aload_n 0, 1) := by decide +kernel
theorem d_H_area_1 : decode b_H_area 1 = .ok (.iload_n 1, 1) := by decide +kernel
theorem d_H_area_2 : decode b_H_area 2 = .ok (.invokevirtual 58, 3) := by decide +kernel
theorem d_H_area_5 : decode b_H_area 5 = .ok (.astore_n 2, 1) := by decide +kernel
theorem d_H_area_6 : decode b_H_area 6 = .ok (.aload_n 2, 1) := by decide +kernel
theorem d_H_area_7 : decode b_H_area 7 = .ok (.ifnonnull (7), 3) := by decide +kernel
theorem d_H_area_10 : decode b_H_area 10 = .ok (.iconst (-1), 1) := by decide +kernel
theorem d_H_area_11 : decode b_H_area 11 = .ok (.goto (11), 3) := by decide +kernel
theorem d_H_area_14 : decode b_H_area 14 = .ok (.aload_n 0, 1) := by decide +kernel
theorem d_H_area_15 : decode b_H_area 15 = .ok (.aload_n 2, 1) := by decide +kernel
theorem d_H_area_16 : decode b_H_area 16 = .ok (.invokevirtual 80, 3) := by decide +kernel
theorem d_H_area_19 : decode b_H_area 19 = .ok (.invokevirtual 100, 3) := by decide +kernel
theorem d_H_area_22 : decode b_H_area 22 = .ok (.ireturn, 1) := by decide +kernel
theorem d_H_border_0 : decode b_H_border 0 = .ok (.aload_n 0, 1) := by decide +kernel
theorem d_H_border_1 : decode b_H_border 1 = .ok (.iload_n 1, 1) := by decide +kernel
theorem d_H_border_2 : decode b_H_border 2 = .ok (.invokevirtual 58, 3) := by decide +kernel
theorem d_H_border_5 : decode b_H_border 5 = .ok (.astore_n 2, 1) := by decide +kernel
theorem d_H_border_6 : decode b_H_border 6 = .ok (.aload_n 2, 1) := by decide +kernel
theorem d_H_border_7 : decode b_H_border 7 = .ok (.ifnonnull (7), 3) := by decide +kernel
theorem d_H_border_10 : decode b_H_border 10 = .ok (.iconst (-1), 1) := by decide +kernel
theorem d_H_border_11 : decode b_H_border 11 = .ok (.goto (11), 3) := by decide +kernel
theorem d_H_border_14 : decode b_H_border 14 = .ok (.aload_n 0, 1) := by decide +kernel
theorem d_H_border_15 : decode b_H_border 15 = .ok (.aload_n 2, 1) := by decide +kernel
theorem d_H_border_16 : decode b_H_border 16 = .ok (.invokevirtual 80, 3) := by decide +kernel
theorem d_H_border_19 : decode b_H_border 19 = .ok (.invokevirtual 103, 3) := by decide +kernel
theorem d_H_border_22 : decode b_H_border 22 = .ok (.ireturn, 1) := by decide +kernel
theorem d_H_inside_0 : decode b_H_inside 0 = .ok (.aload_n 0, 1) := by decide +kernel
theorem d_H_inside_1 : decode b_H_inside 1 = .ok (.iload_n 1, 1) := by decide +kernel
theorem d_H_inside_2 : decode b_H_inside 2 = .ok (.invokevirtual 58, 3) := by decide +kernel
theorem d_H_inside_5 : decode b_H_inside 5 = .ok (.astore_n 2, 1) := by decide +kernel
theorem d_H_inside_6 : decode b_H_inside 6 = .ok (.aload_n 2, 1) := by decide +kernel
theorem d_H_inside_7 : decode b_H_inside 7 = .ok (.ifnonnull (5), 3) := by decide +kernel
theorem d_H_inside_10 : decode b_H_inside 10 = .ok (.iconst (-1), 1) := by decide +kernel
theorem d_H_inside_11 : decode b_H_inside 11 = .ok (.ireturn, 1) := by decide +kernel
theorem d_H_inside_12 : decode b_H_inside 12 = .ok (.aload_n 0, 1) := by decide +kernel
theorem d_H_inside_13 : decode b_H_inside 13 = .ok (.aload_n 2, 1) := by decide +kernel
theorem d_H_inside_14 : decode b_H_inside 14 = .ok (.invokevirtual 80, 3) := by decide +kernel
theorem d_H_inside_17 : decode b_H_inside 17 = .ok (.astore_n 3, 1) := by decide +kernel
theorem d_H_inside_18 : decode b_H_inside 18 = .ok (.aload_n 3, 1) := by decide +kernel
theorem d_H_inside_19 : decode b_H_inside 19 = .ok (.iconst 1, 1) := by decide +kernel
theorem d_H_inside_20 : decode b_H_inside 20 = .ok (.invokevirtual 106, 3) := by decide +kernel
theorem d_H_inside_23 : decode b_H_inside 23 = .ok (.aload_n 3, 1) := by decide +kernel
theorem d_H_inside_24 : decode b_H_inside 24 = .ok (.invokevirtual 103, 3) := by decide +kernel
theorem d_H_inside_27 : decode b_H_inside 27 = .ok (.isub, 1) := by decide +kernel
theorem d_H_inside_28 : decode b_H_inside 28 = .ok (.ireturn, 1) := by decide +kernel
theorem d_H_grown_0 : decode b_H_grown 0 = .ok (.aload_n 0, 1) := by decide +kernel
theorem d_H_grown_1 : decode b_H_grown 1 = .ok (.iload_n 1, 1) := by decide +kernel
theorem d_H_grown_2 : decode b_H_grown 2 = .ok (.invokevirtual 58, 3) := by decide +kernel
theorem d_H_grown_5 : decode b_H_grown 5 = .ok (.astore_n 3, 1) := by decide +kernel
theorem d_H_grown_6 : decode b_H_grown 6 = .ok (.aload_n 3, 1) := by decide +kernel
theorem d_H_grown_7 : decode b_H_grown 7 = .ok (.ifnonnull (5), 3) := by decide +kernel
theorem d_H_grown_10 : decode b_H_grown 10 = .ok (.iconst (-1), 1) := by decide +kernel
theorem d_H_grown_11 : decode b_H_grown 11 = .ok (.ireturn, 1) := by decide +kernel
theorem d_H_grown_12 : decode b_H_grown 12 = .ok (.iload_n 2, 1) := by decide +kernel
theorem d_H_grown_13 : decode b_H_grown 13 = .ok (.ifCond .lt (9), 3) := by decide +kernel
theorem d_H_grown_16 : decode b_H_grown 16 = .ok (.iload_n 2, 1) := by decide +kernel
theorem d_H_grown_17 : decode b_H_grown 17 = .ok (.bipush (6), 2) := by decide +kernel
theorem d_H_grown_19 : decode b_H_grown 19 = .ok (.if_icmp .le (6), 3) := by decide +kernel
theorem d_H_grown_22 : decode b_H_grown 22 = .ok (.bipush (-2), 2) := by decide +kernel
theorem d_H_grown_24 : decode b_H_grown 24 = .ok (.ireturn, 1) := by decide +kernel
theorem d_H_grown_25 : decode b_H_grown 25 = .ok (.aload_n 0, 1) := by decide +kernel
theorem d_H_grown_26 : decode b_H_grown 26 = .ok (.aload_n 3, 1) := by decide +kernel
theorem d_H_grown_27 : decode b_H_grown 27 = .ok (.invokevirtual 80, 3) := by decide +kernel
theorem d_H_grown_30 : decode b_H_grown 30 = .ok (.iload_n 2, 1) := by decide +kernel
theorem d_H_grown_31 : decode b_H_grown 31 = .ok (.invokevirtual 106, 3) := by decide +kernel
theorem d_H_grown_34 : decode b_H_grown 34 = .ok (.ireturn, 1) := by decide +kernel
theorem d_H_wide_0 : decode b_H_wide 0 = .ok (.aload_n 0, 1) := by decide +kernel
theorem d_H_wide_1 : decode b_H_wide 1 = .ok (.iload_n 1, 1) := by decide +kernel
theorem d_H_wide_2 : decode b_H_wide 2 = .ok (.invokevirtual 58, 3) := by decide +kernel
theorem d_H_wide_5 : decode b_H_wide 5 = .ok (.astore_n 2, 1) := by decide +kernel
theorem d_H_wide_6 : decode b_H_wide 6 = .ok (.aload_n 2, 1) := by decide +kernel
theorem d_H_wide_7 : decode b_H_wide 7 = .ok (.ifnonnull (5), 3) := by decide +kernel
theorem d_H_wide_10 : decode b_H_wide 10 = .ok (.iconst (-1), 1) := by decide +kernel
theorem d_H_wide_11 : decode b_H_wide 11 = .ok (.ireturn, 1) := by decide +kernel
theorem d_H_wide_12 : decode b_H_wide 12 = .ok (.aload_n 2, 1) := by decide +kernel
theorem d_H_wide_13 : decode b_H_wide 13 = .ok (.invokevirtual 72, 3) := by decide +kernel
theorem d_H_wide_16 : decode b_H_wide 16 = .ok (.ifCond .ne (6), 3) := by decide +kernel
theorem d_H_wide_19 : decode b_H_wide 19 = .ok (.bipush (-3), 2) := by decide +kernel
theorem d_H_wide_21 : decode b_H_wide 21 = .ok (.ireturn, 1) := by decide +kernel
theorem d_H_wide_22 : decode b_H_wide 22 = .ok (.iconst 0, 1) := by decide +kernel
theorem d_H_wide_23 : decode b_H_wide 23 = .ok (.istore_n 3, 1) := by decide +kernel
theorem d_H_wide_24 : decode b_H_wide 24 = .ok (.iconst 1, 1) := by decide +kernel
theorem d_H_wide_25 : decode b_H_wide 25 = .ok (.istore 4, 2) := by decide +kernel
theorem d_H_wide_27 : decode b_H_wide 27 = .ok (.iload 4, 2) := by decide +kernel
theorem d_H_wide_29 : decode b_H_wide 29 = .ok (.aload_n 2, 1) := by decide +kernel
theorem d_H_wide_30 : decode b_H_wide 30 = .ok (.invokevirtual 72, 3) := by decide +kernel
theorem d_H_wide_33 : decode b_H_wide 33 = .ok (.if_icmp .ge (38), 3) := by decide +kernel
theorem d_H_wide_36 : decode b_H_wide 36 = .ok (.iconst 0, 1) := by decide +kernel
theorem d_H_wide_37 : decode b_H_wide 37 = .ok (.istore 5, 2) := by decide +kernel
theorem d_H_wide_39 : decode b_H_wide 39 = .ok (.iload 5, 2) := by decide +kernel
theorem d_H_wide_41 : decode b_H_wide 41 = .ok (.iload 4, 2) := by decide +kernel
theorem d_H_wide_43 : decode b_H_wide 43 = .ok (.if_icmp .ge (22), 3) := by decide +kernel
theorem d_H_wide_46 : decode b_H_wide 46 = .ok (.iload_n 3, 1) := by decide +kernel
theorem d_H_wide_47 : decode b_H_wide 47 = .ok (.aload_n 2, 1) := by decide +kernel
theorem d_H_wide_48 : decode b_H_wide 48 = .ok (.iload 4, 2) := by decide +kernel
theorem d_H_wide_50 : decode b_H_wide 50 = .ok (.iload 5, 2) := by decide +kernel
theorem d_H_wide_52 : decode b_H_wide 52 = .ok (.invokevirtual 109, 3) := by decide +kernel
theorem d_H_wide_55 : decode b_H_wide 55 = .ok (.invokestatic 112, 3) := by decide +kernel
theorem d_H_wide_58 : decode b_H_wide 58 = .ok (.istore_n 3, 1) := by decide +kernel
theorem d_H_wide_59 : decode b_H_wide 59 = .ok (.iinc 5 (1), 3) := by decide +kernel
theorem d_H_wide_62 : decode b_H_wide 62 = .ok (.goto (-23), 3) := by decide +kernel
theorem d_H_wide_65 : decode b_H_wide 65 = .ok (.iinc 4 (1), 3) := by decide +kernel
theorem d_H_wide_68 : decode b_H_wide 68 = .ok (.goto (-41), 3) := by decide +kernel
theorem d_H_wide_71 : decode b_H_wide 71 = .ok (.iload_n 3, 1) := by decide +kernel
theorem d_H_wide_72 : decode b_H_wide 72 = .ok (.ireturn, 1) := by decide +kernel
theorem d_H_width_0 : decode b_H_width 0 = .ok (.aload_n 0, 1) := by decide +kernel
theorem d_H_width_1 : decode b_H_width 1 = .ok (.iload_n 1, 1) := by decide +kernel
theorem d_H_width_2 : decode b_H_width 2 = .ok (.invokevirtual 58, 3) := by decide +kernel
theorem d_H_width_5 : decode b_H_width 5 = .ok (.astore_n 2, 1) := by decide +kernel
theorem d_H_width_6 : decode b_H_width 6 = .ok (.aload_n 2, 1) := by decide +kernel
theorem d_H_width_7 : decode b_H_width 7 = .ok (.ifnonnull (5), 3) := by decide +kernel
theorem d_H_width_10 : decode b_H_width 10 = .ok (.iconst (-1), 1) := by decide +kernel
theorem d_H_width_11 : decode b_H_width 11 = .ok (.ireturn, 1) := by decide +kernel
theorem d_H_width_12 : decode b_H_width 12 = .ok (.aload_n 2, 1) := by decide +kernel
theorem d_H_width_13 : decode b_H_width 13 = .ok (.invokevirtual 72, 3) := by decide +kernel
theorem d_H_width_16 : decode b_H_width 16 = .ok (.ifCond .ne (6), 3) := by decide +kernel
theorem d_H_width_19 : decode b_H_width 19 = .ok (.bipush (-3), 2) := by decide +kernel
theorem d_H_width_21 : decode b_H_width 21 = .ok (.ireturn, 1) := by decide +kernel
theorem d_H_width_22 : decode b_H_width 22 = .ok (.aload_n 0, 1) := by decide +kernel
theorem d_H_width_23 : decode b_H_width 23 = .ok (.aload_n 2, 1) := by decide +kernel
theorem d_H_width_24 : decode b_H_width 24 = .ok (.invokevirtual 80, 3) := by decide +kernel
theorem d_H_width_27 : decode b_H_width 27 = .ok (.astore_n 3, 1) := by decide +kernel
theorem d_H_width_28 : decode b_H_width 28 = .ok (.aload_n 0, 1) := by decide +kernel
theorem d_H_width_29 : decode b_H_width 29 = .ok (.getfield 39, 3) := by decide +kernel
theorem d_H_width_32 : decode b_H_width 32 = .ok (.invokevirtual 115, 3) := by decide +kernel
theorem d_H_width_35 : decode b_H_width 35 = .ok (.iconst 0, 1) := by decide +kernel
theorem d_H_width_36 : decode b_H_width 36 = .ok (.istore 4, 2) := by decide +kernel
theorem d_H_width_38 : decode b_H_width 38 = .ok (.iload 4, 2) := by decide +kernel
theorem d_H_width_40 : decode b_H_width 40 = .ok (.aload_n 3, 1) := by decide +kernel
theorem d_H_width_41 : decode b_H_width 41 = .ok (.invokevirtual 118, 3) := by decide +kernel
theorem d_H_width_44 : decode b_H_width 44 = .ok (.if_icmp .ge (37), 3) := by decide +kernel
theorem d_H_width_47 : decode b_H_width 47 = .ok (.aload_n 3, 1) := by decide +kernel
theorem d_H_width_48 : decode b_H_width 48 = .ok (.iload 4, 2) := by decide +kernel
theorem d_H_width_50 : decode b_H_width 50 = .ok (.invokevirtual 121, 3) := by decide +kernel
theorem d_H_width_53 : decode b_H_width 53 = .ok (.i2l, 1) := by decide +kernel
theorem d_H_width_54 : decode b_H_width 54 = .ok (.lstore 5, 2) := by decide +kernel
theorem d_H_width_56 : decode b_H_width 56 = .ok (.aload_n 0, 1) := by decide +kernel
theorem d_H_width_57 : decode b_H_width 57 = .ok (.getfield 39, 3) := by decide +kernel
theorem d_H_width_60 : decode b_H_width 60 = .ok (.lload 5, 2) := by decide +kernel
theorem d_H_width_62 : decode b_H_width 62 = .ok (.lload 5, 2) := by decide +kernel
theorem d_H_width_64 : decode b_H_width 64 = .ok (.lmul, 1) := by decide +kernel
theorem d_H_width_65 : decode b_H_width 65 = .ok (.aload_n 3, 1) := by decide +kernel
theorem d_H_width_66 : decode b_H_width 66 = .ok (.iload 4, 2) := by decide +kernel
theorem d_H_width_68 : decode b_H_width 68 = .ok (.invokevirtual 124, 3) := by decide +kernel
theorem d_H_width_71 : decode b_H_width 71 = .ok (.i2l, 1) := by decide +kernel
theorem d_H_width_72 : decode b_H_width 72 = .ok (.invokevirtual 127, 3) := by decide +kernel
theorem d_H_width_75 : decode b_H_width 75 = .ok (.iinc 4 (1), 3) := by decide +kernel
theorem d_H_width_78 : decode b_H_width 78 = .ok (.goto (-40), 3) := by decide +kernel
theorem d_H_width_81 : decode b_H_width 81 = .ok (.aload_n 0, 1) := by decide +kernel
theorem d_H_width_82 : decode b_H_width 82 = .ok (.aload_n 0, 1) := by decide +kernel
theorem d_H_width_83 : decode b_H_width 83 = .ok (.getfield 39, 3) := by decide +kernel
theorem d_H_width_86 : decode b_H_width 86 = .ok (.invokevirtual 130, 3) := by decide +kernel
theorem d_H_width_89 : decode b_H_width 89 = .ok (.aload_n 0, 1) := by decide +kernel
theorem d_H_width_90 : decode b_H_width 90 = .ok (.getfield 39, 3) := by decide +kernel
theorem d_H_width_93 : decode b_H_width 93 = .ok (.invokevirtual 134, 3) := by decide +kernel
theorem d_H_width_96 : decode b_H_width 96 = .ok (.invokevirtual 137, 3) := by decide +kernel
theorem d_H_width_99 : decode b_H_width 99 = .ok (.iconst 1, 1) := by decide +kernel
theorem d_H_width_100 : decode b_H_width 100 = .ok (.ireturn, 1) := by decide +kernel
theorem d_H_circle_0 : decode b_H_circle 0 = .ok (.aload_n 0, 1) := by decide +kernel
theorem d_H_circle_1 : decode b_H_circle 1 = .ok (.iload_n 1, 1) := by decide +kernel
theorem d_H_circle_2 : decode b_H_circle 2 = .ok (.invokevirtual 58, 3) := by decide +kernel
theorem d_H_circle_5 : decode b_H_circle 5 = .ok (.astore_n 3, 1) := by decide +kernel
theorem d_H_circle_6 : decode b_H_circle 6 = .ok (.aload_n 3, 1) := by decide +kernel
theorem d_H_circle_7 : decode b_H_circle 7 = .ok (.ifnonnull (5), 3) := by decide +kernel
theorem d_H_circle_10 : decode b_H_circle 10 = .ok (.iconst (-1), 1) := by decide +kernel
theorem d_H_circle_11 : decode b_H_circle 11 = .ok (.ireturn, 1) := by decide +kernel
theorem d_H_circle_12 : decode b_H_circle 12 = .ok (.iload_n 2, 1) := by decide +kernel
theorem d_H_circle_13 : decode b_H_circle 13 = .ok (.ifCond .lt (8), 3) := by decide +kernel
theorem d_H_circle_16 : decode b_H_circle 16 = .ok (.iload_n 2, 1) := by decide +kernel
theorem d_H_circle_17 : decode b_H_circle 17 = .ok (.iconst 2, 1) := by decide +kernel
theorem d_H_circle_18 : decode b_H_circle 18 = .ok (.if_icmp .le (6), 3) := by decide +kernel
theorem d_H_circle_21 : decode b_H_circle 21 = .ok (.bipush (-2), 2) := by decide +kernel
theorem d_H_circle_23 : decode b_H_circle 23 = .ok (.ireturn, 1) := by decide +kernel
theorem d_H_circle_24 : decode b_H_circle 24 = .ok (.aload_n 3, 1) := by decide +kernel
theorem d_H_circle_25 : decode b_H_circle 25 = .ok (.invokevirtual 72, 3) := by decide +kernel
theorem d_H_circle_28 : decode b_H_circle 28 = .ok (.ifCond .ne (6), 3) := by decide +kernel
theorem d_H_circle_31 : decode b_H_circle 31 = .ok (.bipush (-3), 2) := by decide +kernel
theorem d_H_circle_33 : decode b_H_circle 33 = .ok (.ireturn, 1) := by decide +kernel
theorem d_H_circle_34 : decode b_H_circle 34 = .ok (.aload_n 0, 1) := by decide +kernel
theorem d_H_circle_35 : decode b_H_circle 35 = .ok (.getfield 32, 3) := by decide +kernel
theorem d_H_circle_38 : decode b_H_circle 38 = .ok (.aload_n 0, 1) := by decide +kernel
theorem d_H_circle_39 : decode b_H_circle 39 = .ok (.aload_n 3, 1) := by decide +kernel
theorem d_H_circle_40 : decode b_H_circle 40 = .ok (.invokevirtual 80, 3) := by decide +kernel
theorem d_H_circle_43 : decode b_H_circle 43 = .ok (.invokevirtual 140, 3) := by decide +kernel
theorem d_H_circle_46 : decode b_H_circle 46 = .ok (.iload_n 2, 1) := by decide +kernel
theorem d_H_circle_47 : decode b_H_circle 47 = .ok (.ifCond .ne (24), 3) := by decide +kernel
theorem d_H_circle_50 : decode b_H_circle 50 = .ok (.aload_n 0, 1) := by decide +kernel
theorem d_H_circle_51 : decode b_H_circle 51 = .ok (.aload_n 0, 1) := by decide +kernel
theorem d_H_circle_52 : decode b_H_circle 52 = .ok (.getfield 32, 3) := by decide +kernel
theorem d_H_circle_55 : decode b_H_circle 55 = .ok (.invokevirtual 144, 3) := by decide +kernel
theorem d_H_circle_58 : decode b_H_circle 58 = .ok (.aload_n 0, 1) := by decide +kernel
theorem d_H_circle_59 : decode b_H_circle 59 = .ok (.getfield 32, 3) := by decide +kernel
theorem d_H_circle_62 : decode b_H_circle 62 = .ok (.invokevirtual 147, 3) := by decide +kernel
theorem d_H_circle_65 : decode b_H_circle 65 = .ok (.invokevirtual 137, 3) := by decide +kernel
theorem d_H_circle_68 : decode b_H_circle 68 = .ok (.goto (47), 3) := by decide +kernel
theorem d_H_circle_71 : decode b_H_circle 71 = .ok (.iload_n 2, 1) := by decide +kernel
theorem d_H_circle_72 : decode b_H_circle 72 = .ok (.iconst 1, 1) := by decide +kernel
theorem d_H_circle_73 : decode b_H_circle 73 = .ok (.if_icmp .ne (24), 3) := by decide +kernel
theorem d_H_circle_76 : decode b_H_circle 76 = .ok (.aload_n 0, 1) := by decide +kernel
theorem d_H_circle_77 : decode b_H_circle 77 = .ok (.aload_n 0, 1) := by decide +kernel
theorem d_H_circle_78 : decode b_H_circle 78 = .ok (.getfield 32, 3) := by decide +kernel
theorem d_H_circle_81 : decode b_H_circle 81 = .ok (.invokevirtual 150, 3) := by decide +kernel
theorem d_H_circle_84 : decode b_H_circle 84 = .ok (.aload_n 0, 1) := by decide +kernel
theorem d_H_circle_85 : decode b_H_circle 85 = .ok (.getfield 32, 3) := by decide +kernel
theorem d_H_circle_88 : decode b_H_circle 88 = .ok (.invokevirtual 147, 3) := by decide +kernel
theorem d_H_circle_91 : decode b_H_circle 91 = .ok (.invokevirtual 137, 3) := by decide +kernel
theorem d_H_circle_94 : decode b_H_circle 94 = .ok (.goto (21), 3) := by decide +kernel
theorem d_H_circle_97 : decode b_H_circle 97 = .ok (.aload_n 0, 1) := by decide +kernel
theorem d_H_circle_98 : decode b_H_circle 98 = .ok (.aload_n 0, 1) := by decide +kernel
theorem d_H_circle_99 : decode b_H_circle 99 = .ok (.getfield 32, 3) := by decide +kernel
theorem d_H_circle_102 : decode b_H_circle 102 = .ok (.invokevirtual 153, 3) := by decide +kernel
theorem d_H_circle_105 : decode b_H_circle 105 = .ok (.aload_n 0, 1) := by decide +kernel
theorem d_H_circle_106 : decode b_H_circle 106 = .ok (.getfield 32, 3) := by decide +kernel
theorem d_H_circle_109 : decode b_H_circle 109 = .ok (.invokevirtual 156, 3) := by decide +kernel
theorem d_H_circle_112 : decode b_H_circle 112 = .ok (.invokevirtual 137, 3) := by decide +kernel
theorem d_H_circle_115 : decode b_H_circle 115 = .ok (.iconst 1, 1) := by decide +kernel
theorem d_H_circle_116 : decode b_H_circle 116 = .ok (.ireturn, 1) := by decide +kernel
theorem d_H_sum_0 : decode b_H_sum 0 = .ok (.aload_n 0, 1) := by decide +kernel
theorem d_H_sum_1 : decode b_H_sum 1 = .ok (.iload_n 1, 1) := by decide +kernel
theorem d_H_sum_2 : decode b_H_sum 2 = .ok (.iload_n 2, 1) := by decide +kernel
theorem d_H_sum_3 : decode b_H_sum 3 = .ok (.iconst 1, 1) := by decide +kernel
theorem d_H_sum_4 : decode b_H_sum 4 = .ok (.invokevirtual 159, 3) := by decide +kernel
theorem d_H_sum_7 : decode b_H_sum 7 = .ok (.istore_n 3, 1) := by decide +kernel
theorem d_H_sum_8 : decode b_H_sum 8 = .ok (.iload_n 3, 1) := by decide +kernel
theorem d_H_sum_9 : decode b_H_sum 9 = .ok (.ifCond .ge (5), 3) := by decide +kernel
theorem d_H_sum_12 : decode b_H_sum 12 = .ok (.iload_n 3, 1) := by decide +kernel
theorem d_H_sum_13 : decode b_H_sum 13 = .ok (.ireturn, 1) := by decide +kernel
theorem d_H_sum_14 : decode b_H_sum 14 = .ok (.aload_n 0, 1) := by decide +kernel
theorem d_H_sum_15 : decode b_H_sum 15 = .ok (.getfield 26, 3) := by decide +kernel
theorem d_H_sum_18 : decode b_H_sum 18 = .ok (.sipush (300), 3) := by decide +kernel
theorem d_H_sum_21 : decode b_H_sum 21 = .ok (.invokevirtual 163, 3) := by decide +kernel
theorem d_H_sum_24 : decode b_H_sum 24 = .ok (.ifCond .ne (6), 3) := by decide +kernel
theorem d_H_sum_27 : decode b_H_sum 27 = .ok (.bipush (-6), 2) := by decide +kernel
theorem d_H_sum_29 : decode b_H_sum 29 = .ok (.ireturn, 1) := by decide +kernel
theorem d_H_sum_30 : decode b_H_sum 30 = .ok (.aload_n 0, 1) := by decide +kernel
theorem d_H_sum_31 : decode b_H_sum 31 = .ok (.getfield 26, 3) := by decide +kernel
theorem d_H_sum_34 : decode b_H_sum 34 = .ok (.invokevirtual 72, 3) := by decide +kernel
theorem d_H_sum_37 : decode b_H_sum 37 = .ok (.bipush (24), 2) := by decide +kernel
theorem d_H_sum_39 : decode b_H_sum 39 = .ok (.if_icmp .le (8), 3) := by decide +kernel
theorem d_H_sum_42 : decode b_H_sum 42 = .ok (.bipush (-5), 2) := by decide +kernel
theorem d_H_sum_44 : decode b_H_sum 44 = .ok (.goto (11), 3) := by decide +kernel
theorem d_H_sum_47 : decode b_H_sum 47 = .ok (.aload_n 0, 1) := by decide +kernel
theorem d_H_sum_48 : decode b_H_sum 48 = .ok (.aload_n 0, 1) := by decide +kernel
theorem d_H_sum_49 : decode b_H_sum 49 = .ok (.getfield 26, 3) := by decide +kernel
theorem d_H_sum_52 : decode b_H_sum 52 = .ok (.invokevirtual 167, 3) := by decide +kernel
theorem d_H_sum_55 : decode b_H_sum 55 = .ok (.ireturn, 1) := by decide +kernel
theorem d_H_turned_0 : decode b_H_turned 0 = .ok (.aload_n 0, 1) := by decide +kernel
theorem d_H_turned_1 : decode b_H_turned 1 = .ok (.iload_n 1, 1) := by decide +kernel
theorem d_H_turned_2 : decode b_H_turned 2 = .ok (.invokevirtual 58, 3) := by decide +kernel
theorem d_H_turned_5 : decode b_H_turned 5 = .ok (.astore_n 2, 1) := by decide +kernel
theorem d_H_turned_6 : decode b_H_turned 6 = .ok (.aload_n 2, 1) := by decide +kernel
theorem d_H_turned_7 : decode b_H_turned 7 = .ok (.ifnonnull (5), 3) := by decide +kernel
theorem d_H_turned_10 : decode b_H_turned 10 = .ok (.iconst (-1), 1) := by decide +kernel
theorem d_H_turned_11 : decode b_H_turned 11 = .ok (.ireturn, 1) := by decide +kernel
theorem d_H_turned_12 : decode b_H_turned 12 = .ok (.aload_n 2, 1) := by decide +kernel
theorem d_H_turned_13 : decode b_H_turned 13 = .ok (.invokevirtual 72, 3) := by decide +kernel
theorem d_H_turned_16 : decode b_H_turned 16 = .ok (.ifCond .ne (6), 3) := by decide +kernel
theorem d_H_turned_19 : decode b_H_turned 19 = .ok (.bipush (-3), 2) := by decide +kernel
theorem d_H_turned_21 : decode b_H_turned 21 = .ok (.ireturn, 1) := by decide +kernel
theorem d_H_turned_22 : decode b_H_turned 22 = .ok (.aload_n 0, 1) := by decide +kernel
theorem d_H_turned_23 : decode b_H_turned 23 = .ok (.getfield 23, 3) := by decide +kernel
theorem d_H_turned_26 : decode b_H_turned 26 = .ok (.aload_n 2, 1) := by decide +kernel
theorem d_H_turned_27 : decode b_H_turned 27 = .ok (.iconst (-1), 1) := by decide +kernel
theorem d_H_turned_28 : decode b_H_turned 28 = .ok (.aload_n 0, 1) := by decide +kernel
theorem d_H_turned_29 : decode b_H_turned 29 = .ok (.getfield 16, 3) := by decide +kernel
theorem d_H_turned_32 : decode b_H_turned 32 = .ok (.invokevirtual 171, 3) := by decide +kernel
theorem d_H_turned_35 : decode b_H_turned 35 = .ok (.aload_n 0, 1) := by decide +kernel
theorem d_H_turned_36 : decode b_H_turned 36 = .ok (.aload_n 0, 1) := by decide +kernel
theorem d_H_turned_37 : decode b_H_turned 37 = .ok (.getfield 23, 3) := by decide +kernel
theorem d_H_turned_40 : decode b_H_turned 40 = .ok (.invokevirtual 167, 3) := by decide +kernel
theorem d_H_turned_43 : decode b_H_turned 43 = .ok (.ireturn, 1) := by decide +kernel
theorem d_H_meets_0 : decode b_H_meets 0 = .ok (.aload_n 0, 1) := by decide +kernel
theorem d_H_meets_1 : decode b_H_meets 1 = .ok (.iload_n 1, 1) := by decide +kernel
theorem d_H_meets_2 : decode b_H_meets 2 = .ok (.iload_n 2, 1) := by decide +kernel
theorem d_H_meets_3 : decode b_H_meets 3 = .ok (.iconst (-1), 1) := by decide +kernel
theorem d_H_meets_4 : decode b_H_meets 4 = .ok (.invokevirtual 159, 3) := by decide +kernel
theorem d_H_meets_7 : decode b_H_meets 7 = .ok (.istore_n 3, 1) := by decide +kernel
theorem d_H_meets_8 : decode b_H_meets 8 = .ok (.iload_n 3, 1) := by decide +kernel
theorem d_H_meets_9 : decode b_H_meets 9 = .ok (.ifCond .ge (5), 3) := by decide +kernel
theorem d_H_meets_12 : decode b_H_meets 12 = .ok (.iload_n 3, 1) := by decide +kernel
theorem d_H_meets_13 : decode b_H_meets 13 = .ok (.ireturn, 1) := by decide +kernel
theorem d_H_meets_14 : decode b_H_meets 14 = .ok (.aload_n 0, 1) := by decide +kernel
theorem d_H_meets_15 : decode b_H_meets 15 = .ok (.getfield 26, 3) := by decide +kernel
theorem d_H_meets_18 : decode b_H_meets 18 = .ok (.iconst 0, 1) := by decide +kernel
theorem d_H_meets_19 : decode b_H_meets 19 = .ok (.iconst 0, 1) := by decide +kernel
theorem d_H_meets_20 : decode b_H_meets 20 = .ok (.invokevirtual 97, 3) := by decide +kernel
theorem d_H_meets_23 : decode b_H_meets 23 = .ok (.ifCond .ne (7), 3) := by decide +kernel
theorem d_H_meets_26 : decode b_H_meets 26 = .ok (.iconst 0, 1) := by decide +kernel
theorem d_H_meets_27 : decode b_H_meets 27 = .ok (.goto (4), 3) := by decide +kernel
theorem d_H_meets_30 : decode b_H_meets 30 = .ok (.iconst 1, 1) := by decide +kernel
theorem d_H_meets_31 : decode b_H_meets 31 = .ok (.ireturn, 1) := by decide +kernel
theorem d_H_apart_0 : decode b_H_apart 0 = .ok (.aload_n 0, 1) := by decide +kernel
theorem d_H_apart_1 : decode b_H_apart 1 = .ok (.iload_n 1, 1) := by decide +kernel
theorem d_H_apart_2 : decode b_H_apart 2 = .ok (.iload_n 2, 1) := by decide +kernel
theorem d_H_apart_3 : decode b_H_apart 3 = .ok (.iconst (-1), 1) := by decide +kernel
theorem d_H_apart_4 : decode b_H_apart 4 = .ok (.invokevirtual 159, 3) := by decide +kernel
theorem d_H_apart_7 : decode b_H_apart 7 = .ok (.istore_n 3, 1) := by decide +kernel
theorem d_H_apart_8 : decode b_H_apart 8 = .ok (.iload_n 3, 1) := by decide +kernel
theorem d_H_apart_9 : decode b_H_apart 9 = .ok (.ifCond .ge (5), 3) := by decide +kernel
theorem d_H_apart_12 : decode b_H_apart 12 = .ok (.iload_n 3, 1) := by decide +kernel
theorem d_H_apart_13 : decode b_H_apart 13 = .ok (.ireturn, 1) := by decide +kernel
theorem d_H_apart_14 : decode b_H_apart 14 = .ok (.aload_n 0, 1) := by decide +kernel
theorem d_H_apart_15 : decode b_H_apart 15 = .ok (.getfield 39, 3) := by decide +kernel
theorem d_H_apart_18 : decode b_H_apart 18 = .ok (.invokevirtual 115, 3) := by decide +kernel
theorem d_H_apart_21 : decode b_H_apart 21 = .ok (.aload_n 0, 1) := by decide +kernel
theorem d_H_apart_22 : decode b_H_apart 22 = .ok (.getfield 26, 3) := by decide +kernel
theorem d_H_apart_25 : decode b_H_apart 25 = .ok (.iconst 0, 1) := by decide +kernel
theorem d_H_apart_26 : decode b_H_apart 26 = .ok (.iconst 0, 1) := by decide +kernel
theorem d_H_apart_27 : decode b_H_apart 27 = .ok (.invokevirtual 97, 3) := by decide +kernel
theorem d_H_apart_30 : decode b_H_apart 30 = .ok (.ifCond .ne (11), 3) := by decide +kernel
theorem d_H_apart_33 : decode b_H_apart 33 = .ok (.aload_n 0, 1) := by decide +kernel
theorem d_H_apart_34 : decode b_H_apart 34 = .ok (.aload_n 0, 1) := by decide +kernel
theorem d_H_apart_35 : decode b_H_apart 35 = .ok (.getfield 26, 3) := by decide +kernel
theorem d_H_apart_38 : decode b_H_apart 38 = .ok (.invokevirtual 175, 3) := by decide +kernel
theorem d_H_apart_41 : decode b_H_apart 41 = .ok (.aload_n 0, 1) := by decide +kernel
theorem d_H_apart_42 : decode b_H_apart 42 = .ok (.aload_n 0, 1) := by decide +kernel
theorem d_H_apart_43 : decode b_H_apart 43 = .ok (.getfield 39, 3) := by decide +kernel
theorem d_H_apart_46 : decode b_H_apart 46 = .ok (.invokevirtual 130, 3) := by decide +kernel
theorem d_H_apart_49 : decode b_H_apart 49 = .ok (.aload_n 0, 1) := by decide +kernel
theorem d_H_apart_50 : decode b_H_apart 50 = .ok (.getfield 39, 3) := by decide +kernel
theorem d_H_apart_53 : decode b_H_apart 53 = .ok (.invokevirtual 134, 3) := by decide +kernel
theorem d_H_apart_56 : decode b_H_apart 56 = .ok (.invokevirtual 137, 3) := by decide +kernel
theorem d_H_apart_59 : decode b_H_apart 59 = .ok (.iconst 1, 1) := by decide +kernel
theorem d_H_apart_60 : decode b_H_apart 60 = .ok (.ireturn, 1) := by decide +kernel
theorem d_H_holds_0 : decode b_H_holds 0 = .ok (.aload_n 0, 1) := by decide +kernel
theorem d_H_holds_1 : decode b_H_holds 1 = .ok (.iload_n 1, 1) := by decide +kernel
theorem d_H_holds_2 : decode b_H_holds 2 = .ok (.invokevirtual 58, 3) := by decide +kernel
theorem d_H_holds_5 : decode b_H_holds 5 = .ok (.astore 4, 2) := by decide +kernel
theorem d_H_holds_7 : decode b_H_holds 7 = .ok (.aload 4, 2) := by decide +kernel
theorem d_H_holds_9 : decode b_H_holds 9 = .ok (.ifnonnull (5), 3) := by decide +kernel
theorem d_H_holds_12 : decode b_H_holds 12 = .ok (.iconst (-1), 1) := by decide +kernel
theorem d_H_holds_13 : decode b_H_holds 13 = .ok (.ireturn, 1) := by decide +kernel
theorem d_H_holds_14 : decode b_H_holds 14 = .ok (.iload_n 2, 1) := by decide +kernel
theorem d_H_holds_15 : decode b_H_holds 15 = .ok (.sipush (1000), 3) := by decide +kernel
theorem d_H_holds_18 : decode b_H_holds 18 = .ok (.invokestatic 65, 3) := by decide +kernel
theorem d_H_holds_21 : decode b_H_holds 21 = .ok (.ifCond .eq (13), 3) := by decide +kernel
theorem d_H_holds_24 : decode b_H_holds 24 = .ok (.iload_n 3, 1) := by decide +kernel
theorem d_H_holds_25 : decode b_H_holds 25 = .ok (.sipush (1000), 3) := by decide +kernel
theorem d_H_holds_28 : decode b_H_holds 28 = .ok (.invokestatic 65, 3) := by decide +kernel
theorem d_H_holds_31 : decode b_H_holds 31 = .ok (.ifCond .ne (6), 3) := by decide +kernel
theorem d_H_holds_34 : decode b_H_holds 34 = .ok (.bipush (-2), 2) := by decide +kernel
theorem d_H_holds_36 : decode b_H_holds 36 = .ok (.ireturn, 1) := by decide +kernel
theorem d_H_holds_37 : decode b_H_holds 37 = .ok (.aload_n 0, 1) := by decide +kernel
theorem d_H_holds_38 : decode b_H_holds 38 = .ok (.aload 4, 2) := by decide +kernel
theorem d_H_holds_40 : decode b_H_holds 40 = .ok (.invokevirtual 80, 3) := by decide +kernel
theorem d_H_holds_43 : decode b_H_holds 43 = .ok (.iload_n 2, 1) := by decide +kernel
theorem d_H_holds_44 : decode b_H_holds 44 = .ok (.iload_n 3, 1) := by decide +kernel
theorem d_H_holds_45 : decode b_H_holds 45 = .ok (.invokevirtual 97, 3) := by decide +kernel
theorem d_H_holds_48 : decode b_H_holds 48 = .ok (.ireturn, 1) := by decide +kernel
theorem d_H_supports_0 : decode b_H_supports 0 = .ok (.aload_n 0, 1) := by decide +kernel
theorem d_H_supports_1 : decode b_H_supports 1 = .ok (.iload_n 1, 1) := by decide +kernel
theorem d_H_supports_2 : decode b_H_supports 2 = .ok (.invokevirtual 58, 3) := by decide +kernel
theorem d_H_supports_5 : decode b_H_supports 5 = .ok (.astore 4, 2) := by decide +kernel
theorem d_H_supports_7 : decode b_H_supports 7 = .ok (.aload 4, 2) := by decide +kernel
theorem d_H_supports_9 : decode b_H_supports 9 = .ok (.ifnonnull (5), 3) := by decide +kernel
theorem d_H_supports_12 : decode b_H_supports 12 = .ok (.iconst (-1), 1) := by decide +kernel
theorem d_H_supports_13 : decode b_H_supports 13 = .ok (.ireturn, 1) := by decide +kernel
theorem d_H_supports_14 : decode b_H_supports 14 = .ok (.iload_n 2, 1) := by decide +kernel
theorem d_H_supports_15 : decode b_H_supports 15 = .ok (.bipush (100), 2) := by decide +kernel
theorem d_H_supports_17 : decode b_H_supports 17 = .ok (.invokestatic 65, 3) := by decide +kernel
theorem d_H_supports_20 : decode b_H_supports 20 = .ok (.ifCond .eq (12), 3) := by decide +kernel
theorem d_H_supports_23 : decode b_H_supports 23 = .ok (.iload_n 3, 1) := by decide +kernel
theorem d_H_supports_24 : decode b_H_supports 24 = .ok (.bipush (100), 2) := by decide +kernel
theorem d_H_supports_26 : decode b_H_supports 26 = .ok (.invokestatic 65, 3) := by decide +kernel
theorem d_H_supports_29 : decode b_H_supports 29 = .ok (.ifCond .ne (6), 3) := by decide +kernel
theorem d_H_supports_32 : decode b_H_supports 32 = .ok (.bipush (-2), 2) := by decide +kernel
theorem d_H_supports_34 : decode b_H_supports 34 = .ok (.ireturn, 1) := by decide +kernel
theorem d_H_supports_35 : decode b_H_supports 35 = .ok (.aload 4, 2) := by decide +kernel
theorem d_H_supports_37 : decode b_H_supports 37 = .ok (.invokevirtual 72, 3) := by decide +kernel
theorem d_H_supports_40 : decode b_H_supports 40 = .ok (.ifCond .ne (6), 3) := by decide +kernel
theorem d_H_supports_43 : decode b_H_supports 43 = .ok (.bipush (-3), 2) := by decide +kernel
theorem d_H_supports_45 : decode b_H_supports 45 = .ok (.ireturn, 1) := by decide +kernel
theorem d_H_supports_46 : decode b_H_supports 46 = .ok (.aload_n 0, 1) := by decide +kernel
theorem d_H_supports_47 : decode b_H_supports 47 = .ok (.aload 4, 2) := by decide +kernel
theorem d_H_supports_49 : decode b_H_supports 49 = .ok (.invokevirtual 80, 3) := by decide +kernel
theorem d_H_supports_52 : decode b_H_supports 52 = .ok (.astore 5, 2) := by decide +kernel
theorem d_H_supports_54 : decode b_H_supports 54 = .ok (.iconst 0, 1) := by decide +kernel
theorem d_H_supports_55 : decode b_H_supports 55 = .ok (.istore 6, 2) := by decide +kernel
theorem d_H_supports_57 : decode b_H_supports 57 = .ok (.iconst 0, 1) := by decide +kernel
theorem d_H_supports_58 : decode b_H_supports 58 = .ok (.istore 7, 2) := by decide +kernel
theorem d_H_supports_60 : decode b_H_supports 60 = .ok (.iconst 0, 1) := by decide +kernel
theorem d_H_supports_61 : decode b_H_supports 61 = .ok (.istore 8, 2) := by decide +kernel
theorem d_H_supports_63 : decode b_H_supports 63 = .ok (.iload 8, 2) := by decide +kernel
theorem d_H_supports_65 : decode b_H_supports 65 = .ok (.aload 5, 2) := by decide +kernel
theorem d_H_supports_67 : decode b_H_supports 67 = .ok (.invokevirtual 72, 3) := by decide +kernel
theorem d_H_supports_70 : decode b_H_supports 70 = .ok (.if_icmp .ge (62), 3) := by decide +kernel
theorem d_H_supports_73 : decode b_H_supports 73 = .ok (.iload_n 2, 1) := by decide +kernel
theorem d_H_supports_74 : decode b_H_supports 74 = .ok (.aload 5, 2) := by decide +kernel
theorem d_H_supports_76 : decode b_H_supports 76 = .ok (.iload 8, 2) := by decide +kernel
theorem d_H_supports_78 : decode b_H_supports 78 = .ok (.invokevirtual 90, 3) := by decide +kernel
theorem d_H_supports_81 : decode b_H_supports 81 = .ok (.imul, 1) := by decide +kernel
theorem d_H_supports_82 : decode b_H_supports 82 = .ok (.iload_n 3, 1) := by decide +kernel
theorem d_H_supports_83 : decode b_H_supports 83 = .ok (.aload 5, 2) := by decide +kernel
theorem d_H_supports_85 : decode b_H_supports 85 = .ok (.iload 8, 2) := by decide +kernel
theorem d_H_supports_87 : decode b_H_supports 87 = .ok (.invokevirtual 94, 3) := by decide +kernel
theorem d_H_supports_90 : decode b_H_supports 90 = .ok (.imul, 1) := by decide +kernel
theorem d_H_supports_91 : decode b_H_supports 91 = .ok (.iadd, 1) := by decide +kernel
theorem d_H_supports_92 : decode b_H_supports 92 = .ok (.istore 9, 2) := by decide +kernel
theorem d_H_supports_94 : decode b_H_supports 94 = .ok (.iload 7, 2) := by decide +kernel
theorem d_H_supports_96 : decode b_H_supports 96 = .ok (.ifCond .eq (10), 3) := by decide +kernel
theorem d_H_supports_99 : decode b_H_supports 99 = .ok (.iload 9, 2) := by decide +kernel
theorem d_H_supports_101 : decode b_H_supports 101 = .ok (.iload 6, 2) := by decide +kernel
theorem d_H_supports_103 : decode b_H_supports 103 = .ok (.if_icmp .le (13), 3) := by decide +kernel
theorem d_H_supports_106 : decode b_H_supports 106 = .ok (.iload 9, 2) := by decide +kernel
theorem d_H_supports_108 : decode b_H_supports 108 = .ok (.istore 6, 2) := by decide +kernel
theorem d_H_supports_110 : decode b_H_supports 110 = .ok (.iconst 1, 1) := by decide +kernel
theorem d_H_supports_111 : decode b_H_supports 111 = .ok (.istore 7, 2) := by decide +kernel
theorem d_H_supports_113 : decode b_H_supports 113 = .ok (.goto (13), 3) := by decide +kernel
theorem d_H_supports_116 : decode b_H_supports 116 = .ok (.iload 9, 2) := by decide +kernel
theorem d_H_supports_118 : decode b_H_supports 118 = .ok (.iload 6, 2) := by decide +kernel
theorem d_H_supports_120 : decode b_H_supports 120 = .ok (.if_icmp .ne (6), 3) := by decide +kernel
theorem d_H_supports_123 : decode b_H_supports 123 = .ok (.iinc 7 (1), 3) := by decide +kernel
theorem d_H_supports_126 : decode b_H_supports 126 = .ok (.iinc 8 (1), 3) := by decide +kernel
theorem d_H_supports_129 : decode b_H_supports 129 = .ok (.goto (-66), 3) := by decide +kernel
theorem d_H_supports_132 : decode b_H_supports 132 = .ok (.aload_n 0, 1) := by decide +kernel
theorem d_H_supports_133 : decode b_H_supports 133 = .ok (.iload 6, 2) := by decide +kernel
theorem d_H_supports_135 : decode b_H_supports 135 = .ok (.i2l, 1) := by decide +kernel
theorem d_H_supports_136 : decode b_H_supports 136 = .ok (.iload 7, 2) := by decide +kernel
theorem d_H_supports_138 : decode b_H_supports 138 = .ok (.i2l, 1) := by decide +kernel
theorem d_H_supports_139 : decode b_H_supports 139 = .ok (.invokevirtual 54, 3) := by decide +kernel
theorem d_H_supports_142 : decode b_H_supports 142 = .ok (.iconst 1, 1) := by decide +kernel
theorem d_H_supports_143 : decode b_H_supports 143 = .ok (.ireturn, 1) := by decide +kernel
theorem d_H_mixed_0 : decode b_H_mixed 0 = .ok (.aload_n 0, 1) := by decide +kernel
theorem d_H_mixed_1 : decode b_H_mixed 1 = .ok (.iload_n 1, 1) := by decide +kernel
theorem d_H_mixed_2 : decode b_H_mixed 2 = .ok (.iload_n 2, 1) := by decide +kernel
theorem d_H_mixed_3 : decode b_H_mixed 3 = .ok (.iconst 1, 1) := by decide +kernel
theorem d_H_mixed_4 : decode b_H_mixed 4 = .ok (.invokevirtual 159, 3) := by decide +kernel
theorem d_H_mixed_7 : decode b_H_mixed 7 = .ok (.istore_n 3, 1) := by decide +kernel
theorem d_H_mixed_8 : decode b_H_mixed 8 = .ok (.iload_n 3, 1) := by decide +kernel
theorem d_H_mixed_9 : decode b_H_mixed 9 = .ok (.ifCond .ge (5), 3) := by decide +kernel
theorem d_H_mixed_12 : decode b_H_mixed 12 = .ok (.iload_n 3, 1) := by decide +kernel
theorem d_H_mixed_13 : decode b_H_mixed 13 = .ok (.ireturn, 1) := by decide +kernel
theorem d_H_mixed_14 : decode b_H_mixed 14 = .ok (.aload_n 0, 1) := by decide +kernel
theorem d_H_mixed_15 : decode b_H_mixed 15 = .ok (.getfield 26, 3) := by decide +kernel
theorem d_H_mixed_18 : decode b_H_mixed 18 = .ok (.invokevirtual 100, 3) := by decide +kernel
theorem d_H_mixed_21 : decode b_H_mixed 21 = .ok (.aload_n 0, 1) := by decide +kernel
theorem d_H_mixed_22 : decode b_H_mixed 22 = .ok (.getfield 20, 3) := by decide +kernel
theorem d_H_mixed_25 : decode b_H_mixed 25 = .ok (.invokevirtual 100, 3) := by decide +kernel
theorem d_H_mixed_28 : decode b_H_mixed 28 = .ok (.isub, 1) := by decide +kernel
theorem d_H_mixed_29 : decode b_H_mixed 29 = .ok (.aload_n 0, 1) := by decide +kernel
theorem d_H_mixed_30 : decode b_H_mixed 30 = .ok (.getfield 23, 3) := by decide +kernel
theorem d_H_mixed_33 : decode b_H_mixed 33 = .ok (.invokevirtual 100, 3) := by decide +kernel
theorem d_H_mixed_36 : decode b_H_mixed 36 = .ok (.isub, 1) := by decide +kernel
theorem d_H_mixed_37 : decode b_H_mixed 37 = .ok (.ireturn, 1) := by decide +kernel
theorem d_H_nearest_0 : decode b_H_nearest 0 = .ok (.aload_n 0, 1) := by decide +kernel
theorem d_H_nearest_1 : decode b_H_nearest 1 = .ok (.iload_n 1, 1) := by decide +kernel
theorem d_H_nearest_2 : decode b_H_nearest 2 = .ok (.invokevirtual 58, 3) := by decide +kernel
theorem d_H_nearest_5 : decode b_H_nearest 5 = .ok (.astore_n 2, 1) := by decide +kernel
theorem d_H_nearest_6 : decode b_H_nearest 6 = .ok (.aload_n 2, 1) := by decide +kernel
theorem d_H_nearest_7 : decode b_H_nearest 7 = .ok (.ifnonnull (5), 3) := by decide +kernel
theorem d_H_nearest_10 : decode b_H_nearest 10 = .ok (.iconst (-1), 1) := by decide +kernel
theorem d_H_nearest_11 : decode b_H_nearest 11 = .ok (.ireturn, 1) := by decide +kernel
theorem d_H_nearest_12 : decode b_H_nearest 12 = .ok (.aload_n 2, 1) := by decide +kernel
theorem d_H_nearest_13 : decode b_H_nearest 13 = .ok (.invokevirtual 72, 3) := by decide +kernel
theorem d_H_nearest_16 : decode b_H_nearest 16 = .ok (.iconst 2, 1) := by decide +kernel
theorem d_H_nearest_17 : decode b_H_nearest 17 = .ok (.if_icmp .ge (6), 3) := by decide +kernel
theorem d_H_nearest_20 : decode b_H_nearest 20 = .ok (.bipush (-3), 2) := by decide +kernel
theorem d_H_nearest_22 : decode b_H_nearest 22 = .ok (.ireturn, 1) := by decide +kernel
theorem d_H_nearest_23 : decode b_H_nearest 23 = .ok (.aload_n 2, 1) := by decide +kernel
theorem d_H_nearest_24 : decode b_H_nearest 24 = .ok (.iconst 0, 1) := by decide +kernel
theorem d_H_nearest_25 : decode b_H_nearest 25 = .ok (.iconst 1, 1) := by decide +kernel
theorem d_H_nearest_26 : decode b_H_nearest 26 = .ok (.invokevirtual 109, 3) := by decide +kernel
theorem d_H_nearest_29 : decode b_H_nearest 29 = .ok (.istore_n 3, 1) := by decide +kernel
theorem d_H_nearest_30 : decode b_H_nearest 30 = .ok (.iconst 2, 1) := by decide +kernel
theorem d_H_nearest_31 : decode b_H_nearest 31 = .ok (.istore 4, 2) := by decide +kernel
theorem d_H_nearest_33 : decode b_H_nearest 33 = .ok (.iload 4, 2) := by decide +kernel
theorem d_H_nearest_35 : decode b_H_nearest 35 = .ok (.aload_n 2, 1) := by decide +kernel
theorem d_H_nearest_36 : decode b_H_nearest 36 = .ok (.invokevirtual 72, 3) := by decide +kernel
theorem d_H_nearest_39 : decode b_H_nearest 39 = .ok (.if_icmp .ge (38), 3) := by decide +kernel
theorem d_H_nearest_42 : decode b_H_nearest 42 = .ok (.iconst 0, 1) := by decide +kernel
theorem d_H_nearest_43 : decode b_H_nearest 43 = .ok (.istore 5, 2) := by decide +kernel
theorem d_H_nearest_45 : decode b_H_nearest 45 = .ok (.iload 5, 2) := by decide +kernel
theorem d_H_nearest_47 : decode b_H_nearest 47 = .ok (.iload 4, 2) := by decide +kernel
theorem d_H_nearest_49 : decode b_H_nearest 49 = .ok (.if_icmp .ge (22), 3) := by decide +kernel
theorem d_H_nearest_52 : decode b_H_nearest 52 = .ok (.iload_n 3, 1) := by decide +kernel
theorem d_H_nearest_53 : decode b_H_nearest 53 = .ok (.aload_n 2, 1) := by decide +kernel
theorem d_H_nearest_54 : decode b_H_nearest 54 = .ok (.iload 4, 2) := by decide +kernel
theorem d_H_nearest_56 : decode b_H_nearest 56 = .ok (.iload 5, 2) := by decide +kernel
theorem d_H_nearest_58 : decode b_H_nearest 58 = .ok (.invokevirtual 109, 3) := by decide +kernel
theorem d_H_nearest_61 : decode b_H_nearest 61 = .ok (.invokestatic 84, 3) := by decide +kernel
theorem d_H_nearest_64 : decode b_H_nearest 64 = .ok (.istore_n 3, 1) := by decide +kernel
theorem d_H_nearest_65 : decode b_H_nearest 65 = .ok (.iinc 5 (1), 3) := by decide +kernel
theorem d_H_nearest_68 : decode b_H_nearest 68 = .ok (.goto (-23), 3) := by decide +kernel
theorem d_H_nearest_71 : decode b_H_nearest 71 = .ok (.iinc 4 (1), 3) := by decide +kernel
theorem d_H_nearest_74 : decode b_H_nearest 74 = .ok (.goto (-41), 3) := by decide +kernel
theorem d_H_nearest_77 : decode b_H_nearest 77 = .ok (.iload_n 3, 1) := by decide +kernel
theorem d_H_nearest_78 : decode b_H_nearest 78 = .ok (.ireturn, 1) := by decide +kernel
theorem d_H_within_0 : decode b_H_within 0 = .ok (.aload_n 0, 1) := by decide +kernel
theorem d_H_within_1 : decode b_H_within 1 = .ok (.iload_n 1, 1) := by decide +kernel
theorem d_H_within_2 : decode b_H_within 2 = .ok (.invokevirtual 58, 3) := by decide +kernel
theorem d_H_within_5 : decode b_H_within 5 = .ok (.astore_n 3, 1) := by decide +kernel
theorem d_H_within_6 : decode b_H_within 6 = .ok (.aload_n 0, 1) := by decide +kernel
theorem d_H_within_7 : decode b_H_within 7 = .ok (.iload_n 2, 1) := by decide +kernel
theorem d_H_within_8 : decode b_H_within 8 = .ok (.invokevirtual 58, 3) := by decide +kernel
theorem d_H_within_11 : decode b_H_within 11 = .ok (.astore 4, 2) := by decide +kernel
theorem d_H_within_13 : decode b_H_within 13 = .ok (.aload_n 3, 1) := by decide +kernel
theorem d_H_within_14 : decode b_H_within 14 = .ok (.ifnull (8), 3) := by decide +kernel
theorem d_H_within_17 : decode b_H_within 17 = .ok (.aload 4, 2) := by decide +kernel
theorem d_H_within_19 : decode b_H_within 19 = .ok (.ifnonnull (5), 3) := by decide +kernel
theorem d_H_within_22 : decode b_H_within 22 = .ok (.iconst (-1), 1) := by decide +kernel
theorem d_H_within_23 : decode b_H_within 23 = .ok (.ireturn, 1) := by decide +kernel
theorem d_H_within_24 : decode b_H_within 24 = .ok (.aload_n 0, 1) := by decide +kernel
theorem d_H_within_25 : decode b_H_within 25 = .ok (.aload 4, 2) := by decide +kernel
theorem d_H_within_27 : decode b_H_within 27 = .ok (.invokevirtual 80, 3) := by decide +kernel
theorem d_H_within_30 : decode b_H_within 30 = .ok (.astore 5, 2) := by decide +kernel
theorem d_H_within_32 : decode b_H_within 32 = .ok (.iconst 0, 1) := by decide +kernel
theorem d_H_within_33 : decode b_H_within 33 = .ok (.istore 6, 2) := by decide +kernel
theorem d_H_within_35 : decode b_H_within 35 = .ok (.iload 6, 2) := by decide +kernel
theorem d_H_within_37 : decode b_H_within 37 = .ok (.aload_n 3, 1) := by decide +kernel
theorem d_H_within_38 : decode b_H_within 38 = .ok (.invokevirtual 72, 3) := by decide +kernel
theorem d_H_within_41 : decode b_H_within 41 = .ok (.if_icmp .ge (31), 3) := by decide +kernel
theorem d_H_within_44 : decode b_H_within 44 = .ok (.aload 5, 2) := by decide +kernel
theorem d_H_within_46 : decode b_H_within 46 = .ok (.aload_n 3, 1) := by decide +kernel
theorem d_H_within_47 : decode b_H_within 47 = .ok (.iload 6, 2) := by decide +kernel
theorem d_H_within_49 : decode b_H_within 49 = .ok (.invokevirtual 90, 3) := by decide +kernel
theorem d_H_within_52 : decode b_H_within 52 = .ok (.aload_n 3, 1) := by decide +kernel
theorem d_H_within_53 : decode b_H_within 53 = .ok (.iload 6, 2) := by decide +kernel
theorem d_H_within_55 : decode b_H_within 55 = .ok (.invokevirtual 94, 3) := by decide +kernel
theorem d_H_within_58 : decode b_H_within 58 = .ok (.invokevirtual 97, 3) := by decide +kernel
theorem d_H_within_61 : decode b_H_within 61 = .ok (.ifCond .ne (5), 3) := by decide +kernel
theorem d_H_within_64 : decode b_H_within 64 = .ok (.iconst 0, 1) := by decide +kernel
theorem d_H_within_65 : decode b_H_within 65 = .ok (.ireturn, 1) := by decide +kernel
theorem d_H_within_66 : decode b_H_within 66 = .ok (.iinc 6 (1), 3) := by decide +kernel
theorem d_H_within_69 : decode b_H_within 69 = .ok (.goto (-34), 3) := by decide +kernel
theorem d_H_within_72 : decode b_H_within 72 = .ok (.iconst 1, 1) := by decide +kernel
theorem d_H_within_73 : decode b_H_within 73 = .ok (.ireturn, 1) := by decide +kernel
theorem d_H_first_0 : decode b_H_first 0 = .ok (.aload_n 0, 1) := by decide +kernel
theorem d_H_first_1 : decode b_H_first 1 = .ok (.getfield 47, 3) := by decide +kernel
theorem d_H_first_4 : decode b_H_first 4 = .ok (.lreturn, 1) := by decide +kernel
theorem d_H_second_0 : decode b_H_second 0 = .ok (.aload_n 0, 1) := by decide +kernel
theorem d_H_second_1 : decode b_H_second 1 = .ok (.getfield 51, 3) := by decide +kernel
theorem d_H_second_4 : decode b_H_second 4 = .ok (.lreturn, 1) := by decide +kernel
theorem d_H_told_0 : decode b_H_told 0 = .ok (.iload_n 1, 1) := by decide +kernel
theorem d_H_told_1 : decode b_H_told 1 = .ok (.ifCond .ne (8), 3) := by decide +kernel
theorem d_H_told_4 : decode b_H_told 4 = .ok (.aload_n 0, 1) := by decide +kernel
theorem d_H_told_5 : decode b_H_told 5 = .ok (.getfield 43, 3) := by decide +kernel
theorem d_H_told_8 : decode b_H_told 8 = .ok (.ireturn, 1) := by decide +kernel
theorem d_H_told_9 : decode b_H_told 9 = .ok (.iload_n 1, 1) := by decide +kernel
theorem d_H_told_10 : decode b_H_told 10 = .ok (.iconst 1, 1) := by decide +kernel
theorem d_H_told_11 : decode b_H_told 11 = .ok (.if_icmp .eq (6), 3) := by decide +kernel
theorem d_H_told_14 : decode b_H_told 14 = .ok (.bipush (-2), 2) := by decide +kernel
theorem d_H_told_16 : decode b_H_told 16 = .ok (.ireturn, 1) := by decide +kernel
theorem d_H_told_17 : decode b_H_told 17 = .ok (.iconst 0, 1) := by decide +kernel
theorem d_H_told_18 : decode b_H_told 18 = .ok (.istore_n 2, 1) := by decide +kernel
theorem d_H_told_19 : decode b_H_told 19 = .ok (.iconst 0, 1) := by decide +kernel
theorem d_H_told_20 : decode b_H_told 20 = .ok (.istore_n 3, 1) := by decide +kernel
theorem d_H_told_21 : decode b_H_told 21 = .ok (.iload_n 3, 1) := by decide +kernel
theorem d_H_told_22 : decode b_H_told 22 = .ok (.aload_n 0, 1) := by decide +kernel
theorem d_H_told_23 : decode b_H_told 23 = .ok (.getfield 43, 3) := by decide +kernel
theorem d_H_told_26 : decode b_H_told 26 = .ok (.if_icmp .ge (29), 3) := by decide +kernel
theorem d_H_told_29 : decode b_H_told 29 = .ok (.aload_n 0, 1) := by decide +kernel
theorem d_H_told_30 : decode b_H_told 30 = .ok (.iload_n 3, 1) := by decide +kernel
theorem d_H_told_31 : decode b_H_told 31 = .ok (.invokevirtual 58, 3) := by decide +kernel
theorem d_H_told_34 : decode b_H_told 34 = .ok (.astore 4, 2) := by decide +kernel
theorem d_H_told_36 : decode b_H_told 36 = .ok (.aload 4, 2) := by decide +kernel
theorem d_H_told_38 : decode b_H_told 38 = .ok (.ifnull (11), 3) := by decide +kernel
theorem d_H_told_41 : decode b_H_told 41 = .ok (.iload_n 2, 1) := by decide +kernel
theorem d_H_told_42 : decode b_H_told 42 = .ok (.aload 4, 2) := by decide +kernel
theorem d_H_told_44 : decode b_H_told 44 = .ok (.invokevirtual 72, 3) := by decide +kernel
theorem d_H_told_47 : decode b_H_told 47 = .ok (.iadd, 1) := by decide +kernel
theorem d_H_told_48 : decode b_H_told 48 = .ok (.istore_n 2, 1) := by decide +kernel
theorem d_H_told_49 : decode b_H_told 49 = .ok (.iinc 3 (1), 3) := by decide +kernel
theorem d_H_told_52 : decode b_H_told 52 = .ok (.goto (-31), 3) := by decide +kernel
theorem d_H_told_55 : decode b_H_told 55 = .ok (.iload_n 2, 1) := by decide +kernel
theorem d_H_told_56 : decode b_H_told 56 = .ok (.ireturn, 1) := by decide +kernel
theorem d_H_rowOf_0 : decode b_H_rowOf 0 = .ok (.iload_n 1, 1) := by decide +kernel
theorem d_H_rowOf_1 : decode b_H_rowOf 1 = .ok (.ifCond .lt (20), 3) := by decide +kernel
theorem d_H_rowOf_4 : decode b_H_rowOf 4 = .ok (.iload_n 1, 1) := by decide +kernel
theorem d_H_rowOf_5 : decode b_H_rowOf 5 = .ok (.aload_n 0, 1) := by decide +kernel
theorem d_H_rowOf_6 : decode b_H_rowOf 6 = .ok (.getfield 43, 3) := by decide +kernel
theorem d_H_rowOf_9 : decode b_H_rowOf 9 = .ok (.if_icmp .ge (12), 3) := by decide +kernel
theorem d_H_rowOf_12 : decode b_H_rowOf 12 = .ok (.iload_n 1, 1) := by decide +kernel
theorem d_H_rowOf_13 : decode b_H_rowOf 13 = .ok (.aload_n 0, 1) := by decide +kernel
theorem d_H_rowOf_14 : decode b_H_rowOf 14 = .ok (.getfield 11, 3) := by decide +kernel
theorem d_H_rowOf_17 : decode b_H_rowOf 17 = .ok (.arraylength, 1) := by decide +kernel
theorem d_H_rowOf_18 : decode b_H_rowOf 18 = .ok (.if_icmp .lt (5), 3) := by decide +kernel
theorem d_H_rowOf_21 : decode b_H_rowOf 21 = .ok (.aconst_null, 1) := by decide +kernel
theorem d_H_rowOf_22 : decode b_H_rowOf 22 = .ok (.areturn, 1) := by decide +kernel
theorem d_H_rowOf_23 : decode b_H_rowOf 23 = .ok (.aload_n 0, 1) := by decide +kernel
theorem d_H_rowOf_24 : decode b_H_rowOf 24 = .ok (.getfield 11, 3) := by decide +kernel
theorem d_H_rowOf_27 : decode b_H_rowOf 27 = .ok (.iload_n 1, 1) := by decide +kernel
theorem d_H_rowOf_28 : decode b_H_rowOf 28 = .ok (.aaload, 1) := by decide +kernel
theorem d_H_rowOf_29 : decode b_H_rowOf 29 = .ok (.areturn, 1) := by decide +kernel
theorem d_H_hullOf_0 : decode b_H_hullOf 0 = .ok (.aload_n 0, 1) := by decide +kernel
theorem d_H_hullOf_1 : decode b_H_hullOf 1 = .ok (.getfield 20, 3) := by decide +kernel
theorem d_H_hullOf_4 : decode b_H_hullOf 4 = .ok (.aload_n 1, 1) := by decide +kernel
theorem d_H_hullOf_5 : decode b_H_hullOf 5 = .ok (.iconst 1, 1) := by decide +kernel
theorem d_H_hullOf_6 : decode b_H_hullOf 6 = .ok (.aload_n 0, 1) := by decide +kernel
theorem d_H_hullOf_7 : decode b_H_hullOf 7 = .ok (.getfield 16, 3) := by decide +kernel
theorem d_H_hullOf_10 : decode b_H_hullOf 10 = .ok (.invokevirtual 171, 3) := by decide +kernel
theorem d_H_hullOf_13 : decode b_H_hullOf 13 = .ok (.aload_n 0, 1) := by decide +kernel
theorem d_H_hullOf_14 : decode b_H_hullOf 14 = .ok (.getfield 20, 3) := by decide +kernel
theorem d_H_hullOf_17 : decode b_H_hullOf 17 = .ok (.areturn, 1) := by decide +kernel
theorem d_H_fillSums_0 : decode b_H_fillSums 0 = .ok (.aload_n 0, 1) := by decide +kernel
theorem d_H_fillSums_1 : decode b_H_fillSums 1 = .ok (.iload_n 1, 1) := by decide +kernel
theorem d_H_fillSums_2 : decode b_H_fillSums 2 = .ok (.invokevirtual 58, 3) := by decide +kernel
theorem d_H_fillSums_5 : decode b_H_fillSums 5 = .ok (.astore 4, 2) := by decide +kernel
theorem d_H_fillSums_7 : decode b_H_fillSums 7 = .ok (.aload_n 0, 1) := by decide +kernel
theorem d_H_fillSums_8 : decode b_H_fillSums 8 = .ok (.iload_n 2, 1) := by decide +kernel
theorem d_H_fillSums_9 : decode b_H_fillSums 9 = .ok (.invokevirtual 58, 3) := by decide +kernel
theorem d_H_fillSums_12 : decode b_H_fillSums 12 = .ok (.astore 5, 2) := by decide +kernel
theorem d_H_fillSums_14 : decode b_H_fillSums 14 = .ok (.aload 4, 2) := by decide +kernel
theorem d_H_fillSums_16 : decode b_H_fillSums 16 = .ok (.ifnull (8), 3) := by decide +kernel
theorem d_H_fillSums_19 : decode b_H_fillSums 19 = .ok (.aload 5, 2) := by decide +kernel
theorem d_H_fillSums_21 : decode b_H_fillSums 21 = .ok (.ifnonnull (5), 3) := by decide +kernel
theorem d_H_fillSums_24 : decode b_H_fillSums 24 = .ok (.iconst (-1), 1) := by decide +kernel
theorem d_H_fillSums_25 : decode b_H_fillSums 25 = .ok (.ireturn, 1) := by decide +kernel
theorem d_H_fillSums_26 : decode b_H_fillSums 26 = .ok (.aload 4, 2) := by decide +kernel
theorem d_H_fillSums_28 : decode b_H_fillSums 28 = .ok (.invokevirtual 72, 3) := by decide +kernel
theorem d_H_fillSums_31 : decode b_H_fillSums 31 = .ok (.ifCond .eq (11), 3) := by decide +kernel
theorem d_H_fillSums_34 : decode b_H_fillSums 34 = .ok (.aload 5, 2) := by decide +kernel
theorem d_H_fillSums_36 : decode b_H_fillSums 36 = .ok (.invokevirtual 72, 3) := by decide +kernel
theorem d_H_fillSums_39 : decode b_H_fillSums 39 = .ok (.ifCond .ne (6), 3) := by decide +kernel
theorem d_H_fillSums_42 : decode b_H_fillSums 42 = .ok (.bipush (-3), 2) := by decide +kernel
theorem d_H_fillSums_44 : decode b_H_fillSums 44 = .ok (.ireturn, 1) := by decide +kernel
theorem d_H_fillSums_45 : decode b_H_fillSums 45 = .ok (.aload_n 0, 1) := by decide +kernel
theorem d_H_fillSums_46 : decode b_H_fillSums 46 = .ok (.getfield 20, 3) := by decide +kernel
theorem d_H_fillSums_49 : decode b_H_fillSums 49 = .ok (.aload 4, 2) := by decide +kernel
theorem d_H_fillSums_51 : decode b_H_fillSums 51 = .ok (.iconst 1, 1) := by decide +kernel
theorem d_H_fillSums_52 : decode b_H_fillSums 52 = .ok (.aload_n 0, 1) := by decide +kernel
theorem d_H_fillSums_53 : decode b_H_fillSums 53 = .ok (.getfield 16, 3) := by decide +kernel
theorem d_H_fillSums_56 : decode b_H_fillSums 56 = .ok (.invokevirtual 171, 3) := by decide +kernel
theorem d_H_fillSums_59 : decode b_H_fillSums 59 = .ok (.aload_n 0, 1) := by decide +kernel
theorem d_H_fillSums_60 : decode b_H_fillSums 60 = .ok (.getfield 23, 3) := by decide +kernel
theorem d_H_fillSums_63 : decode b_H_fillSums 63 = .ok (.aload 5, 2) := by decide +kernel
theorem d_H_fillSums_65 : decode b_H_fillSums 65 = .ok (.iload_n 3, 1) := by decide +kernel
theorem d_H_fillSums_66 : decode b_H_fillSums 66 = .ok (.aload_n 0, 1) := by decide +kernel
theorem d_H_fillSums_67 : decode b_H_fillSums 67 = .ok (.getfield 16, 3) := by decide +kernel
theorem d_H_fillSums_70 : decode b_H_fillSums 70 = .ok (.invokevirtual 171, 3) := by decide +kernel
theorem d_H_fillSums_73 : decode b_H_fillSums 73 = .ok (.aload_n 0, 1) := by decide +kernel
theorem d_H_fillSums_74 : decode b_H_fillSums 74 = .ok (.getfield 26, 3) := by decide +kernel
theorem d_H_fillSums_77 : decode b_H_fillSums 77 = .ok (.aload_n 0, 1) := by decide +kernel
theorem d_H_fillSums_78 : decode b_H_fillSums 78 = .ok (.getfield 20, 3) := by decide +kernel
theorem d_H_fillSums_81 : decode b_H_fillSums 81 = .ok (.aload_n 0, 1) := by decide +kernel
theorem d_H_fillSums_82 : decode b_H_fillSums 82 = .ok (.getfield 23, 3) := by decide +kernel
theorem d_H_fillSums_85 : decode b_H_fillSums 85 = .ok (.invokevirtual 178, 3) := by decide +kernel
theorem d_H_fillSums_88 : decode b_H_fillSums 88 = .ok (.iconst 0, 1) := by decide +kernel
theorem d_H_fillSums_89 : decode b_H_fillSums 89 = .ok (.ireturn, 1) := by decide +kernel
theorem d_H_setOf_0 : decode b_H_setOf 0 = .ok (.aload_n 0, 1) := by decide +kernel
theorem d_H_setOf_1 : decode b_H_setOf 1 = .ok (.invokevirtual 182, 3) := by decide +kernel
theorem d_H_setOf_4 : decode b_H_setOf 4 = .ok (.istore_n 2, 1) := by decide +kernel
theorem d_H_setOf_5 : decode b_H_setOf 5 = .ok (.aload_n 0, 1) := by decide +kernel
theorem d_H_setOf_6 : decode b_H_setOf 6 = .ok (.iload_n 2, 1) := by decide +kernel
theorem d_H_setOf_7 : decode b_H_setOf 7 = .ok (.invokevirtual 58, 3) := by decide +kernel
theorem d_H_setOf_10 : decode b_H_setOf 10 = .ok (.astore_n 3, 1) := by decide +kernel
theorem d_H_setOf_11 : decode b_H_setOf 11 = .ok (.aload_n 3, 1) := by decide +kernel
theorem d_H_setOf_12 : decode b_H_setOf 12 = .ok (.ifnull (37), 3) := by decide +kernel
theorem d_H_setOf_15 : decode b_H_setOf 15 = .ok (.iconst 0, 1) := by decide +kernel
theorem d_H_setOf_16 : decode b_H_setOf 16 = .ok (.istore 4, 2) := by decide +kernel
theorem d_H_setOf_18 : decode b_H_setOf 18 = .ok (.iload 4, 2) := by decide +kernel
theorem d_H_setOf_20 : decode b_H_setOf 20 = .ok (.aload_n 1, 1) := by decide +kernel
theorem d_H_setOf_21 : decode b_H_setOf 21 = .ok (.invokevirtual 72, 3) := by decide +kernel
theorem d_H_setOf_24 : decode b_H_setOf 24 = .ok (.if_icmp .ge (25), 3) := by decide +kernel
theorem d_H_setOf_27 : decode b_H_setOf 27 = .ok (.aload_n 3, 1) := by decide +kernel
theorem d_H_setOf_28 : decode b_H_setOf 28 = .ok (.aload_n 1, 1) := by decide +kernel
theorem d_H_setOf_29 : decode b_H_setOf 29 = .ok (.iload 4, 2) := by decide +kernel
theorem d_H_setOf_31 : decode b_H_setOf 31 = .ok (.invokevirtual 90, 3) := by decide +kernel
theorem d_H_setOf_34 : decode b_H_setOf 34 = .ok (.aload_n 1, 1) := by decide +kernel
theorem d_H_setOf_35 : decode b_H_setOf 35 = .ok (.iload 4, 2) := by decide +kernel
theorem d_H_setOf_37 : decode b_H_setOf 37 = .ok (.invokevirtual 94, 3) := by decide +kernel
theorem d_H_setOf_40 : decode b_H_setOf 40 = .ok (.invokevirtual 76, 3) := by decide +kernel
theorem d_H_setOf_43 : decode b_H_setOf 43 = .ok (.iinc 4 (1), 3) := by decide +kernel
theorem d_H_setOf_46 : decode b_H_setOf 46 = .ok (.goto (-28), 3) := by decide +kernel
theorem d_H_setOf_49 : decode b_H_setOf 49 = .ok (.iload_n 2, 1) := by decide +kernel
theorem d_H_setOf_50 : decode b_H_setOf 50 = .ok (.ireturn, 1) := by decide +kernel
theorem d_H_takeDistancesFromZero_0 : decode b_H_takeDistancesFromZero 0 = .ok (.iconst 0, 1) := by decide +kernel
theorem d_H_takeDistancesFromZero_1 : decode b_H_takeDistancesFromZero 1 = .ok (.istore_n 2, 1) := by decide +kernel
theorem d_H_takeDistancesFromZero_2 : decode b_H_takeDistancesFromZero 2 = .ok (.iload_n 2, 1) := by decide +kernel
theorem d_H_takeDistancesFromZero_3 : decode b_H_takeDistancesFromZero 3 = .ok (.aload_n 1, 1) := by decide +kernel
theorem d_H_takeDistancesFromZero_4 : decode b_H_takeDistancesFromZero 4 = .ok (.invokevirtual 72, 3) := by decide +kernel
theorem d_H_takeDistancesFromZero_7 : decode b_H_takeDistancesFromZero 7 = .ok (.if_icmp .ge (23), 3) := by decide +kernel
theorem d_H_takeDistancesFromZero_10 : decode b_H_takeDistancesFromZero 10 = .ok (.aload_n 0, 1) := by decide +kernel
theorem d_H_takeDistancesFromZero_11 : decode b_H_takeDistancesFromZero 11 = .ok (.getfield 39, 3) := by decide +kernel
theorem d_H_takeDistancesFromZero_14 : decode b_H_takeDistancesFromZero 14 = .ok (.aload_n 1, 1) := by decide +kernel
theorem d_H_takeDistancesFromZero_15 : decode b_H_takeDistancesFromZero 15 = .ok (.iload_n 2, 1) := by decide +kernel
theorem d_H_takeDistancesFromZero_16 : decode b_H_takeDistancesFromZero 16 = .ok (.invokevirtual 185, 3) := by decide +kernel
theorem d_H_takeDistancesFromZero_19 : decode b_H_takeDistancesFromZero 19 = .ok (.i2l, 1) := by decide +kernel
theorem d_H_takeDistancesFromZero_20 : decode b_H_takeDistancesFromZero 20 = .ok (.lconst 1, 1) := by decide +kernel
theorem d_H_takeDistancesFromZero_21 : decode b_H_takeDistancesFromZero 21 = .ok (.invokevirtual 127, 3) := by decide +kernel
theorem d_H_takeDistancesFromZero_24 : decode b_H_takeDistancesFromZero 24 = .ok (.iinc 2 (1), 3) := by decide +kernel
theorem d_H_takeDistancesFromZero_27 : decode b_H_takeDistancesFromZero 27 = .ok (.goto (-25), 3) := by decide +kernel
theorem d_H_takeDistancesFromZero_30 : decode b_H_takeDistancesFromZero 30 = .ok (.iconst 0, 1) := by decide +kernel
theorem d_H_takeDistancesFromZero_31 : decode b_H_takeDistancesFromZero 31 = .ok (.istore_n 2, 1) := by decide +kernel
theorem d_H_takeDistancesFromZero_32 : decode b_H_takeDistancesFromZero 32 = .ok (.iload_n 2, 1) := by decide +kernel
theorem d_H_takeDistancesFromZero_33 : decode b_H_takeDistancesFromZero 33 = .ok (.aload_n 1, 1) := by decide +kernel
theorem d_H_takeDistancesFromZero_34 : decode b_H_takeDistancesFromZero 34 = .ok (.invokevirtual 118, 3) := by decide +kernel
theorem d_H_takeDistancesFromZero_37 : decode b_H_takeDistancesFromZero 37 = .ok (.if_icmp .ge (42), 3) := by decide +kernel
theorem d_H_takeDistancesFromZero_40 : decode b_H_takeDistancesFromZero 40 = .ok (.aload_n 1, 1) := by decide +kernel
theorem d_H_takeDistancesFromZero_41 : decode b_H_takeDistancesFromZero 41 = .ok (.iload_n 2, 1) := by decide +kernel
theorem d_H_takeDistancesFromZero_42 : decode b_H_takeDistancesFromZero 42 = .ok (.invokevirtual 188, 3) := by decide +kernel
theorem d_H_takeDistancesFromZero_45 : decode b_H_takeDistancesFromZero 45 = .ok (.ifCond .eq (28), 3) := by decide +kernel
theorem d_H_takeDistancesFromZero_48 : decode b_H_takeDistancesFromZero 48 = .ok (.aload_n 1, 1) := by decide +kernel
theorem d_H_takeDistancesFromZero_49 : decode b_H_takeDistancesFromZero 49 = .ok (.iload_n 2, 1) := by decide +kernel
theorem d_H_takeDistancesFromZero_50 : decode b_H_takeDistancesFromZero 50 = .ok (.iconst 0, 1) := by decide +kernel
theorem d_H_takeDistancesFromZero_51 : decode b_H_takeDistancesFromZero 51 = .ok (.iconst 0, 1) := by decide +kernel
theorem d_H_takeDistancesFromZero_52 : decode b_H_takeDistancesFromZero 52 = .ok (.invokevirtual 191, 3) := by decide +kernel
theorem d_H_takeDistancesFromZero_55 : decode b_H_takeDistancesFromZero 55 = .ok (.i2l, 1) := by decide +kernel
theorem d_H_takeDistancesFromZero_56 : decode b_H_takeDistancesFromZero 56 = .ok (.lstore_n 3, 1) := by decide +kernel
theorem d_H_takeDistancesFromZero_57 : decode b_H_takeDistancesFromZero 57 = .ok (.aload_n 0, 1) := by decide +kernel
theorem d_H_takeDistancesFromZero_58 : decode b_H_takeDistancesFromZero 58 = .ok (.getfield 39, 3) := by decide +kernel
theorem d_H_takeDistancesFromZero_61 : decode b_H_takeDistancesFromZero 61 = .ok (.lload_n 3, 1) := by decide +kernel
theorem d_H_takeDistancesFromZero_62 : decode b_H_takeDistancesFromZero 62 = .ok (.lload_n 3, 1) := by decide +kernel
theorem d_H_takeDistancesFromZero_63 : decode b_H_takeDistancesFromZero 63 = .ok (.lmul, 1) := by decide +kernel
theorem d_H_takeDistancesFromZero_64 : decode b_H_takeDistancesFromZero 64 = .ok (.aload_n 1, 1) := by decide +kernel
theorem d_H_takeDistancesFromZero_65 : decode b_H_takeDistancesFromZero 65 = .ok (.iload_n 2, 1) := by decide +kernel
theorem d_H_takeDistancesFromZero_66 : decode b_H_takeDistancesFromZero 66 = .ok (.invokevirtual 124, 3) := by decide +kernel
theorem d_H_takeDistancesFromZero_69 : decode b_H_takeDistancesFromZero 69 = .ok (.i2l, 1) := by decide +kernel
theorem d_H_takeDistancesFromZero_70 : decode b_H_takeDistancesFromZero 70 = .ok (.invokevirtual 127, 3) := by decide +kernel
theorem d_H_takeDistancesFromZero_73 : decode b_H_takeDistancesFromZero 73 = .ok (.iinc 2 (1), 3) := by decide +kernel
theorem d_H_takeDistancesFromZero_76 : decode b_H_takeDistancesFromZero 76 = .ok (.goto (-44), 3) := by decide +kernel
theorem d_H_takeDistancesFromZero_79 : decode b_H_takeDistancesFromZero 79 = .ok (.return_, 1) := by decide +kernel
theorem d_H_tell_0 : decode b_H_tell 0 = .ok (.aload_n 0, 1) := by decide +kernel
theorem d_H_tell_1 : decode b_H_tell 1 = .ok (.lload_n 1, 1) := by decide +kernel
theorem d_H_tell_2 : decode b_H_tell 2 = .ok (.putfield 47, 3) := by decide +kernel
theorem d_H_tell_5 : decode b_H_tell 5 = .ok (.aload_n 0, 1) := by decide +kernel
theorem d_H_tell_6 : decode b_H_tell 6 = .ok (.lload_n 3, 1) := by decide +kernel
theorem d_H_tell_7 : decode b_H_tell 7 = .ok (.putfield 51, 3) := by decide +kernel
theorem d_H_tell_10 : decode b_H_tell 10 = .ok (.return_, 1) := by decide +kernel
theorem d_H_tellFraction_0 : decode b_H_tellFraction 0 = .ok (.lload_n 1, 1) := by decide +kernel
theorem d_H_tellFraction_1 : decode b_H_tellFraction 1 = .ok (.lload_n 3, 1) := by decide +kernel
theorem d_H_tellFraction_2 : decode b_H_tellFraction 2 = .ok (.invokestatic 194, 3) := by decide +kernel
theorem d_H_tellFraction_5 : decode b_H_tellFraction 5 = .ok (.lstore 5, 2) := by decide +kernel
theorem d_H_tellFraction_7 : decode b_H_tellFraction 7 = .ok (.lload 5, 2) := by decide +kernel
theorem d_H_tellFraction_9 : decode b_H_tellFraction 9 = .ok (.lconst 0, 1) := by decide +kernel
theorem d_H_tellFraction_10 : decode b_H_tellFraction 10 = .ok (.lcmp, 1) := by decide +kernel
theorem d_H_tellFraction_11 : decode b_H_tellFraction 11 = .ok (.ifCond .ne (10), 3) := by decide +kernel
theorem d_H_tellFraction_14 : decode b_H_tellFraction 14 = .ok (.aload_n 0, 1) := by decide +kernel
theorem d_H_tellFraction_15 : decode b_H_tellFraction 15 = .ok (.lconst 0, 1) := by decide +kernel
theorem d_H_tellFraction_16 : decode b_H_tellFraction 16 = .ok (.lconst 1, 1) := by decide +kernel
theorem d_H_tellFraction_17 : decode b_H_tellFraction 17 = .ok (.invokevirtual 54, 3) := by decide +kernel
theorem d_H_tellFraction_20 : decode b_H_tellFraction 20 = .ok (.return_, 1) := by decide +kernel
theorem d_H_tellFraction_21 : decode b_H_tellFraction 21 = .ok (.aload_n 0, 1) := by decide +kernel
theorem d_H_tellFraction_22 : decode b_H_tellFraction 22 = .ok (.lload_n 1, 1) := by decide +kernel
theorem d_H_tellFraction_23 : decode b_H_tellFraction 23 = .ok (.lload 5, 2) := by decide +kernel
theorem d_H_tellFraction_25 : decode b_H_tellFraction 25 = .ok (.ldiv, 1) := by decide +kernel
theorem d_H_tellFraction_26 : decode b_H_tellFraction 26 = .ok (.lload_n 3, 1) := by decide +kernel
theorem d_H_tellFraction_27 : decode b_H_tellFraction 27 = .ok (.lload 5, 2) := by decide +kernel
theorem d_H_tellFraction_29 : decode b_H_tellFraction 29 = .ok (.ldiv, 1) := by decide +kernel
theorem d_H_tellFraction_30 : decode b_H_tellFraction 30 = .ok (.invokevirtual 54, 3) := by decide +kernel
theorem d_H_tellFraction_33 : decode b_H_tellFraction 33 = .ok (.return_, 1) := by decide +kernel
theorem d_H_isNear_0 : decode b_H_isNear 0 = .ok (.iload_n 0, 1) := by decide +kernel
theorem d_H_isNear_1 : decode b_H_isNear 1 = .ok (.iload_n 1, 1) := by decide +kernel
theorem d_H_isNear_2 : decode b_H_isNear 2 = .ok (.ineg, 1) := by decide +kernel
theorem d_H_isNear_3 : decode b_H_isNear 3 = .ok (.if_icmp .lt (12), 3) := by decide +kernel
theorem d_H_isNear_6 : decode b_H_isNear 6 = .ok (.iload_n 0, 1) := by decide +kernel
theorem d_H_isNear_7 : decode b_H_isNear 7 = .ok (.iload_n 1, 1) := by decide +kernel
theorem d_H_isNear_8 : decode b_H_isNear 8 = .ok (.if_icmp .gt (7), 3) := by decide +kernel
theorem d_H_isNear_11 : decode b_H_isNear 11 = .ok (.iconst 1, 1) := by decide +kernel
theorem d_H_isNear_12 : decode b_H_isNear 12 = .ok (.goto (4), 3) := by decide +kernel
theorem d_H_isNear_15 : decode b_H_isNear 15 = .ok (.iconst 0, 1) := by decide +kernel
theorem d_H_isNear_16 : decode b_H_isNear 16 = .ok (.ireturn, 1) := by decide +kernel
theorem d_H_commonDivisor_0 : decode b_H_commonDivisor 0 = .ok (.lload_n 0, 1) := by decide +kernel
theorem d_H_commonDivisor_1 : decode b_H_commonDivisor 1 = .ok (.invokestatic 198, 3) := by decide +kernel
theorem d_H_commonDivisor_4 : decode b_H_commonDivisor 4 = .ok (.lstore 4, 2) := by decide +kernel
theorem d_H_commonDivisor_6 : decode b_H_commonDivisor 6 = .ok (.lload_n 2, 1) := by decide +kernel
theorem d_H_commonDivisor_7 : decode b_H_commonDivisor 7 = .ok (.invokestatic 198, 3) := by decide +kernel
theorem d_H_commonDivisor_10 : decode b_H_commonDivisor 10 = .ok (.lstore 6, 2) := by decide +kernel
theorem d_H_commonDivisor_12 : decode b_H_commonDivisor 12 = .ok (.iconst 0, 1) := by decide +kernel
theorem d_H_commonDivisor_13 : decode b_H_commonDivisor 13 = .ok (.istore 8, 2) := by decide +kernel
theorem d_H_commonDivisor_15 : decode b_H_commonDivisor 15 = .ok (.iload 8, 2) := by decide +kernel
theorem d_H_commonDivisor_17 : decode b_H_commonDivisor 17 = .ok (.bipush (100), 2) := by decide +kernel
theorem d_H_commonDivisor_19 : decode b_H_commonDivisor 19 = .ok (.if_icmp .ge (31), 3) := by decide +kernel
theorem d_H_commonDivisor_22 : decode b_H_commonDivisor 22 = .ok (.lload 6, 2) := by decide +kernel
theorem d_H_commonDivisor_24 : decode b_H_commonDivisor 24 = .ok (.lconst 0, 1) := by decide +kernel
theorem d_H_commonDivisor_25 : decode b_H_commonDivisor 25 = .ok (.lcmp, 1) := by decide +kernel
theorem d_H_commonDivisor_26 : decode b_H_commonDivisor 26 = .ok (.ifCond .eq (24), 3) := by decide +kernel
theorem d_H_commonDivisor_29 : decode b_H_commonDivisor 29 = .ok (.lload 4, 2) := by decide +kernel
theorem d_H_commonDivisor_31 : decode b_H_commonDivisor 31 = .ok (.lload 6, 2) := by decide +kernel
theorem d_H_commonDivisor_33 : decode b_H_commonDivisor 33 = .ok (.lrem, 1) := by decide +kernel
theorem d_H_commonDivisor_34 : decode b_H_commonDivisor 34 = .ok (.lstore 9, 2) := by decide +kernel
theorem d_H_commonDivisor_36 : decode b_H_commonDivisor 36 = .ok (.lload 6, 2) := by decide +kernel
theorem d_H_commonDivisor_38 : decode b_H_commonDivisor 38 = .ok (.lstore 4, 2) := by decide +kernel
theorem d_H_commonDivisor_40 : decode b_H_commonDivisor 40 = .ok (.lload 9, 2) := by decide +kernel
theorem d_H_commonDivisor_42 : decode b_H_commonDivisor 42 = .ok (.lstore 6, 2) := by decide +kernel
theorem d_H_commonDivisor_44 : decode b_H_commonDivisor 44 = .ok (.iinc 8 (1), 3) := by decide +kernel
theorem d_H_commonDivisor_47 : decode b_H_commonDivisor 47 = .ok (.goto (-32), 3) := by decide +kernel
theorem d_H_commonDivisor_50 : decode b_H_commonDivisor 50 = .ok (.lload 4, 2) := by decide +kernel
theorem d_H_commonDivisor_52 : decode b_H_commonDivisor 52 = .ok (.lreturn, 1) := by decide +kernel
theorem d_M_init_0 : decode b_M_init 0 = .ok (.aload_n 0, 1) := by decide +kernel
theorem d_M_init_1 : decode b_M_init 1 = .ok (.invokespecial 1, 3) := by decide +kernel
theorem d_M_init_4 : decode b_M_init 4 = .ok (.aload_n 0, 1) := by decide +kernel
theorem d_M_init_5 : decode b_M_init 5 = .ok (.sipush (192), 3) := by decide +kernel
theorem d_M_init_8 : decode b_M_init 8 = .ok (.newarray .int, 2) := by decide +kernel
theorem d_M_init_10 : decode b_M_init 10 = .ok (.putfield 7, 3) := by decide +kernel
theorem d_M_init_13 : decode b_M_init 13 = .ok (.aload_n 0, 1) := by decide +kernel
theorem d_M_init_14 : decode b_M_init 14 = .ok (.sipush (192), 3) := by decide +kernel
theorem d_M_init_17 : decode b_M_init 17 = .ok (.newarray .int, 2) := by decide +kernel
theorem d_M_init_19 : decode b_M_init 19 = .ok (.putfield 13, 3) := by decide +kernel
theorem d_M_init_22 : decode b_M_init 22 = .ok (.aload_n 0, 1) := by decide +kernel
theorem d_M_init_23 : decode b_M_init 23 = .ok (.bipush (8), 2) := by decide +kernel
theorem d_M_init_25 : decode b_M_init 25 = .ok (.newarray .int, 2) := by decide +kernel
theorem d_M_init_27 : decode b_M_init 27 = .ok (.putfield 16, 3) := by decide +kernel
theorem d_M_init_30 : decode b_M_init 30 = .ok (.aload_n 0, 1) := by decide +kernel
theorem d_M_init_31 : decode b_M_init 31 = .ok (.sipush (576), 3) := by decide +kernel
theorem d_M_init_34 : decode b_M_init 34 = .ok (.newarray .int, 2) := by decide +kernel
theorem d_M_init_36 : decode b_M_init 36 = .ok (.putfield 19, 3) := by decide +kernel
theorem d_M_init_39 : decode b_M_init 39 = .ok (.aload_n 0, 1) := by decide +kernel
theorem d_M_init_40 : decode b_M_init 40 = .ok (.sipush (576), 3) := by decide +kernel
theorem d_M_init_43 : decode b_M_init 43 = .ok (.newarray .int, 2) := by decide +kernel
theorem d_M_init_45 : decode b_M_init 45 = .ok (.putfield 22, 3) := by decide +kernel
theorem d_M_init_48 : decode b_M_init 48 = .ok (.aload_n 0, 1) := by decide +kernel
theorem d_M_init_49 : decode b_M_init 49 = .ok (.sipush (576), 3) := by decide +kernel
theorem d_M_init_52 : decode b_M_init 52 = .ok (.newarray .int, 2) := by decide +kernel
theorem d_M_init_54 : decode b_M_init 54 = .ok (.putfield 25, 3) := by decide +kernel
theorem d_M_init_57 : decode b_M_init 57 = .ok (.aload_n 0, 1) := by decide +kernel
theorem d_M_init_58 : decode b_M_init 58 = .ok (.sipush (576), 3) := by decide +kernel
theorem d_M_init_61 : decode b_M_init 61 = .ok (.newarray .int, 2) := by decide +kernel
theorem d_M_init_63 : decode b_M_init 63 = .ok (.putfield 28, 3) := by decide +kernel
theorem d_M_init_66 : decode b_M_init 66 = .ok (.aload_n 0, 1) := by decide +kernel
theorem d_M_init_67 : decode b_M_init 67 = .ok (.lconst 1, 1) := by decide +kernel
theorem d_M_init_68 : decode b_M_init 68 = .ok (.putfield 31, 3) := by decide +kernel
theorem d_M_init_71 : decode b_M_init 71 = .ok (.return_, 1) := by decide +kernel
theorem d_M_clear_0 : decode b_M_clear 0 = .ok (.aload_n 0, 1) := by decide +kernel
theorem d_M_clear_1 : decode b_M_clear 1 = .ok (.iconst 0, 1) := by decide +kernel
theorem d_M_clear_2 : decode b_M_clear 2 = .ok (.putfield 35, 3) := by decide +kernel
theorem d_M_clear_5 : decode b_M_clear 5 = .ok (.aload_n 0, 1) := by decide +kernel
theorem d_M_clear_6 : decode b_M_clear 6 = .ok (.iconst 0, 1) := by decide +kernel
theorem d_M_clear_7 : decode b_M_clear 7 = .ok (.putfield 39, 3) := by decide +kernel
theorem d_M_clear_10 : decode b_M_clear 10 = .ok (.aload_n 0, 1) := by decide +kernel
theorem d_M_clear_11 : decode b_M_clear 11 = .ok (.lconst 0, 1) := by decide +kernel
theorem d_M_clear_12 : decode b_M_clear 12 = .ok (.putfield 42, 3) := by decide +kernel
theorem d_M_clear_15 : decode b_M_clear 15 = .ok (.aload_n 0, 1) := by decide +kernel
theorem d_M_clear_16 : decode b_M_clear 16 = .ok (.lconst 1, 1) := by decide +kernel
theorem d_M_clear_17 : decode b_M_clear 17 = .ok (.putfield 31, 3) := by decide +kernel
theorem d_M_clear_20 : decode b_M_clear 20 = .ok (.return_, 1) := by decide +kernel
theorem d_M_is_0 : decode b_M_is 0 = .ok (.aload_n 0, 1) := by decide +kernel
theorem d_M_is_1 : decode b_M_is 1 = .ok (.iconst 0, 1) := by decide +kernel
theorem d_M_is_2 : decode b_M_is 2 = .ok (.putfield 35, 3) := by decide +kernel
theorem d_M_is_5 : decode b_M_is 5 = .ok (.iload_n 1, 1) := by decide +kernel
theorem d_M_is_6 : decode b_M_is 6 = .ok (.ifCond .lt (15), 3) := by decide +kernel
theorem d_M_is_9 : decode b_M_is 9 = .ok (.iload_n 1, 1) := by decide +kernel
theorem d_M_is_10 : decode b_M_is 10 = .ok (.aload_n 0, 1) := by decide +kernel
theorem d_M_is_11 : decode b_M_is 11 = .ok (.getfield 39, 3) := by decide +kernel
theorem d_M_is_14 : decode b_M_is 14 = .ok (.if_icmp .ge (7), 3) := by decide +kernel
theorem d_M_is_17 : decode b_M_is 17 = .ok (.iconst 1, 1) := by decide +kernel
theorem d_M_is_18 : decode b_M_is 18 = .ok (.goto (4), 3) := by decide +kernel
theorem d_M_is_21 : decode b_M_is 21 = .ok (.iconst 0, 1) := by decide +kernel
theorem d_M_is_22 : decode b_M_is 22 = .ok (.ireturn, 1) := by decide +kernel
theorem d_M_in_0 : decode b_M_in 0 = .ok (.iload_n 0, 1) := by decide +kernel
theorem d_M_in_1 : decode b_M_in 1 = .ok (.iload_n 1, 1) := by decide +kernel
theorem d_M_in_2 : decode b_M_in 2 = .ok (.if_icmp .lt (12), 3) := by decide +kernel
theorem d_M_in_5 : decode b_M_in 5 = .ok (.iload_n 0, 1) := by decide +kernel
theorem d_M_in_6 : decode b_M_in 6 = .ok (.iload_n 2, 1) := by decide +kernel
theorem d_M_in_7 : decode b_M_in 7 = .ok (.if_icmp .gt (7), 3) := by decide +kernel
theorem d_M_in_10 : decode b_M_in 10 = .ok (.iconst 1, 1) := by decide +kernel
theorem d_M_in_11 : decode b_M_in 11 = .ok (.goto (4), 3) := by decide +kernel
theorem d_M_in_14 : decode b_M_in 14 = .ok (.iconst 0, 1) := by decide +kernel
theorem d_M_in_15 : decode b_M_in 15 = .ok (.ireturn, 1) := by decide +kernel
theorem d_M_load_0 : decode b_M_load 0 = .ok (.aload_n 0, 1) := by decide +kernel
theorem d_M_load_1 : decode b_M_load 1 = .ok (.aload_n 0, 1) := by decide +kernel
theorem d_M_load_2 : decode b_M_load 2 = .ok (.getfield 16, 3) := by decide +kernel
theorem d_M_load_5 : decode b_M_load 5 = .ok (.iload_n 1, 1) := by decide +kernel
theorem d_M_load_6 : decode b_M_load 6 = .ok (.iaload, 1) := by decide +kernel
theorem d_M_load_7 : decode b_M_load 7 = .ok (.putfield 45, 3) := by decide +kernel
theorem d_M_load_10 : decode b_M_load 10 = .ok (.iconst 0, 1) := by decide +kernel
theorem d_M_load_11 : decode b_M_load 11 = .ok (.istore_n 2, 1) := by decide +kernel
theorem d_M_load_12 : decode b_M_load 12 = .ok (.iload_n 2, 1) := by decide +kernel
theorem d_M_load_13 : decode b_M_load 13 = .ok (.aload_n 0, 1) := by decide +kernel
theorem d_M_load_14 : decode b_M_load 14 = .ok (.getfield 45, 3) := by decide +kernel
theorem d_M_load_17 : decode b_M_load 17 = .ok (.if_icmp .ge (43), 3) := by decide +kernel
theorem d_M_load_20 : decode b_M_load 20 = .ok (.aload_n 0, 1) := by decide +kernel
theorem d_M_load_21 : decode b_M_load 21 = .ok (.getfield 19, 3) := by decide +kernel
theorem d_M_load_24 : decode b_M_load 24 = .ok (.iload_n 2, 1) := by decide +kernel
theorem d_M_load_25 : decode b_M_load 25 = .ok (.aload_n 0, 1) := by decide +kernel
theorem d_M_load_26 : decode b_M_load 26 = .ok (.getfield 7, 3) := by decide +kernel
theorem d_M_load_29 : decode b_M_load 29 = .ok (.bipush (24), 2) := by decide +kernel
theorem d_M_load_31 : decode b_M_load 31 = .ok (.iload_n 1, 1) := by decide +kernel
theorem d_M_load_32 : decode b_M_load 32 = .ok (.imul, 1) := by decide +kernel
theorem d_M_load_33 : decode b_M_load 33 = .ok (.iload_n 2, 1) := by decide +kernel
theorem d_M_load_34 : decode b_M_load 34 = .ok (.iadd, 1) := by decide +kernel
theorem d_M_load_35 : decode b_M_load 35 = .ok (.iaload, 1) := by decide +kernel
theorem d_M_load_36 : decode b_M_load 36 = .ok (.iastore, 1) := by decide +kernel
theorem d_M_load_37 : decode b_M_load 37 = .ok (.aload_n 0, 1) := by decide +kernel
theorem d_M_load_38 : decode b_M_load 38 = .ok (.getfield 22, 3) := by decide +kernel
theorem d_M_load_41 : decode b_M_load 41 = .ok (.iload_n 2, 1) := by decide +kernel
theorem d_M_load_42 : decode b_M_load 42 = .ok (.aload_n 0, 1) := by decide +kernel
theorem d_M_load_43 : decode b_M_load 43 = .ok (.getfield 13, 3) := by decide +kernel
theorem d_M_load_46 : decode b_M_load 46 = .ok (.bipush (24), 2) := by decide +kernel
theorem d_M_load_48 : decode b_M_load 48 = .ok (.iload_n 1, 1) := by decide +kernel
theorem d_M_load_49 : decode b_M_load 49 = .ok (.imul, 1) := by decide +kernel
theorem d_M_load_50 : decode b_M_load 50 = .ok (.iload_n 2, 1) := by decide +kernel
theorem d_M_load_51 : decode b_M_load 51 = .ok (.iadd, 1) := by decide +kernel
theorem d_M_load_52 : decode b_M_load 52 = .ok (.iaload, 1) := by decide +kernel
theorem d_M_load_53 : decode b_M_load 53 = .ok (.iastore, 1) := by decide +kernel
theorem d_M_load_54 : decode b_M_load 54 = .ok (.iinc 2 (1), 3) := by decide +kernel
theorem d_M_load_57 : decode b_M_load 57 = .ok (.goto (-45), 3) := by decide +kernel
theorem d_M_load_60 : decode b_M_load 60 = .ok (.aload_n 0, 1) := by decide +kernel
theorem d_M_load_61 : decode b_M_load 61 = .ok (.invokevirtual 48, 3) := by decide +kernel
theorem d_M_load_64 : decode b_M_load 64 = .ok (.return_, 1) := by decide +kernel
theorem d_M_loadBoth_0 : decode b_M_loadBoth 0 = .ok (.aload_n 0, 1) := by decide +kernel
theorem d_M_loadBoth_1 : decode b_M_loadBoth 1 = .ok (.iconst 0, 1) := by decide +kernel
theorem d_M_loadBoth_2 : decode b_M_loadBoth 2 = .ok (.putfield 45, 3) := by decide +kernel
theorem d_M_loadBoth_5 : decode b_M_loadBoth 5 = .ok (.iconst 0, 1) := by decide +kernel
theorem d_M_loadBoth_6 : decode b_M_loadBoth 6 = .ok (.istore 4, 2) := by decide +kernel
theorem d_M_loadBoth_8 : decode b_M_loadBoth 8 = .ok (.iload 4, 2) := by decide +kernel
theorem d_M_loadBoth_10 : decode b_M_loadBoth 10 = .ok (.aload_n 0, 1) := by decide +kernel
theorem d_M_loadBoth_11 : decode b_M_loadBoth 11 = .ok (.getfield 16, 3) := by decide +kernel
theorem d_M_loadBoth_14 : decode b_M_loadBoth 14 = .ok (.iload_n 1, 1) := by decide +kernel
theorem d_M_loadBoth_15 : decode b_M_loadBoth 15 = .ok (.iaload, 1) := by decide +kernel
theorem d_M_loadBoth_16 : decode b_M_loadBoth 16 = .ok (.if_icmp .ge (111), 3) := by decide +kernel
theorem d_M_loadBoth_19 : decode b_M_loadBoth 19 = .ok (.iconst 0, 1) := by decide +kernel
theorem d_M_loadBoth_20 : decode b_M_loadBoth 20 = .ok (.istore 5, 2) := by decide +kernel
theorem d_M_loadBoth_22 : decode b_M_loadBoth 22 = .ok (.iload 5, 2) := by decide +kernel
theorem d_M_loadBoth_24 : decode b_M_loadBoth 24 = .ok (.aload_n 0, 1) := by decide +kernel
theorem d_M_loadBoth_25 : decode b_M_loadBoth 25 = .ok (.getfield 16, 3) := by decide +kernel
theorem d_M_loadBoth_28 : decode b_M_loadBoth 28 = .ok (.iload_n 2, 1) := by decide +kernel
theorem d_M_loadBoth_29 : decode b_M_loadBoth 29 = .ok (.iaload, 1) := by decide +kernel
theorem d_M_loadBoth_30 : decode b_M_loadBoth 30 = .ok (.if_icmp .ge (91), 3) := by decide +kernel
theorem d_M_loadBoth_33 : decode b_M_loadBoth 33 = .ok (.aload_n 0, 1) := by decide +kernel
theorem d_M_loadBoth_34 : decode b_M_loadBoth 34 = .ok (.getfield 19, 3) := by decide +kernel
theorem d_M_loadBoth_37 : decode b_M_loadBoth 37 = .ok (.aload_n 0, 1) := by decide +kernel
theorem d_M_loadBoth_38 : decode b_M_loadBoth 38 = .ok (.getfield 45, 3) := by decide +kernel
theorem d_M_loadBoth_41 : decode b_M_loadBoth 41 = .ok (.aload_n 0, 1) := by decide +kernel
theorem d_M_loadBoth_42 : decode b_M_loadBoth 42 = .ok (.getfield 7, 3) := by decide +kernel
theorem d_M_loadBoth_45 : decode b_M_loadBoth 45 = .ok (.bipush (24), 2) := by decide +kernel
theorem d_M_loadBoth_47 : decode b_M_loadBoth 47 = .ok (.iload_n 1, 1) := by decide +kernel
theorem d_M_loadBoth_48 : decode b_M_loadBoth 48 = .ok (.imul, 1) := by decide +kernel
theorem d_M_loadBoth_49 : decode b_M_loadBoth 49 = .ok (.iload 4, 2) := by decide +kernel
theorem d_M_loadBoth_51 : decode b_M_loadBoth 51 = .ok (.iadd, 1) := by decide +kernel
theorem d_M_loadBoth_52 : decode b_M_loadBoth 52 = .ok (.iaload, 1) := by decide +kernel
theorem d_M_loadBoth_53 : decode b_M_loadBoth 53 = .ok (.iload_n 3, 1) := by decide +kernel
theorem d_M_loadBoth_54 : decode b_M_loadBoth 54 = .ok (.aload_n 0, 1) := by decide +kernel
theorem d_M_loadBoth_55 : decode b_M_loadBoth 55 = .ok (.getfield 7, 3) := by decide +kernel
theorem d_M_loadBoth_58 : decode b_M_loadBoth 58 = .ok (.bipush (24), 2) := by decide +kernel
theorem d_M_loadBoth_60 : decode b_M_loadBoth 60 = .ok (.iload_n 2, 1) := by decide +kernel
theorem d_M_loadBoth_61 : decode b_M_loadBoth 61 = .ok (.imul, 1) := by decide +kernel
theorem d_M_loadBoth_62 : decode b_M_loadBoth 62 = .ok (.iload 5, 2) := by decide +kernel
theorem d_M_loadBoth_64 : decode b_M_loadBoth 64 = .ok (.iadd, 1) := by decide +kernel
theorem d_M_loadBoth_65 : decode b_M_loadBoth 65 = .ok (.iaload, 1) := by decide +kernel
theorem d_M_loadBoth_66 : decode b_M_loadBoth 66 = .ok (.imul, 1) := by decide +kernel
theorem d_M_loadBoth_67 : decode b_M_loadBoth 67 = .ok (.iadd, 1) := by decide +kernel
theorem d_M_loadBoth_68 : decode b_M_loadBoth 68 = .ok (.iastore, 1) := by decide +kernel
theorem d_M_loadBoth_69 : decode b_M_loadBoth 69 = .ok (.aload_n 0, 1) := by decide +kernel
theorem d_M_loadBoth_70 : decode b_M_loadBoth 70 = .ok (.getfield 22, 3) := by decide +kernel
theorem d_M_loadBoth_73 : decode b_M_loadBoth 73 = .ok (.aload_n 0, 1) := by decide +kernel
theorem d_M_loadBoth_74 : decode b_M_loadBoth 74 = .ok (.getfield 45, 3) := by decide +kernel
theorem d_M_loadBoth_77 : decode b_M_loadBoth 77 = .ok (.aload_n 0, 1) := by decide +kernel
theorem d_M_loadBoth_78 : decode b_M_loadBoth 78 = .ok (.getfield 13, 3) := by decide +kernel
theorem d_M_loadBoth_81 : decode b_M_loadBoth 81 = .ok (.bipush (24), 2) := by decide +kernel
theorem d_M_loadBoth_83 : decode b_M_loadBoth 83 = .ok (.iload_n 1, 1) := by decide +kernel
theorem d_M_loadBoth_84 : decode b_M_loadBoth 84 = .ok (.imul, 1) := by decide +kernel
theorem d_M_loadBoth_85 : decode b_M_loadBoth 85 = .ok (.iload 4, 2) := by decide +kernel
theorem d_M_loadBoth_87 : decode b_M_loadBoth 87 = .ok (.iadd, 1) := by decide +kernel
theorem d_M_loadBoth_88 : decode b_M_loadBoth 88 = .ok (.iaload, 1) := by decide +kernel
theorem d_M_loadBoth_89 : decode b_M_loadBoth 89 = .ok (.iload_n 3, 1) := by decide +kernel
theorem d_M_loadBoth_90 : decode b_M_loadBoth 90 = .ok (.aload_n 0, 1) := by decide +kernel
theorem d_M_loadBoth_91 : decode b_M_loadBoth 91 = .ok (.getfield 13, 3) := by decide +kernel
theorem d_M_loadBoth_94 : decode b_M_loadBoth 94 = .ok (.bipush (24), 2) := by decide +kernel
theorem d_M_loadBoth_96 : decode b_M_loadBoth 96 = .ok (.iload_n 2, 1) := by decide +kernel
theorem d_M_loadBoth_97 : decode b_M_loadBoth 97 = .ok (.imul, 1) := by decide +kernel
theorem d_M_loadBoth_98 : decode b_M_loadBoth 98 = .ok (.iload 5, 2) := by decide +kernel
theorem d_M_loadBoth_100 : decode b_M_loadBoth 100 = .ok (.iadd, 1) := by decide +kernel
theorem d_M_loadBoth_101 : decode b_M_loadBoth 101 = .ok (.iaload, 1) := by decide +kernel
theorem d_M_loadBoth_102 : decode b_M_loadBoth 102 = .ok (.imul, 1) := by decide +kernel
theorem d_M_loadBoth_103 : decode b_M_loadBoth 103 = .ok (.iadd, 1) := by decide +kernel
theorem d_M_loadBoth_104 : decode b_M_loadBoth 104 = .ok (.iastore, 1) := by decide +kernel
theorem d_M_loadBoth_105 : decode b_M_loadBoth 105 = .ok (.aload_n 0, 1) := by decide +kernel
theorem d_M_loadBoth_106 : decode b_M_loadBoth 106 = .ok (.dup, 1) := by decide +kernel
theorem d_M_loadBoth_107 : decode b_M_loadBoth 107 = .ok (.getfield 45, 3) := by decide +kernel
theorem d_M_loadBoth_110 : decode b_M_loadBoth 110 = .ok (.iconst 1, 1) := by decide +kernel
theorem d_M_loadBoth_111 : decode b_M_loadBoth 111 = .ok (.iadd, 1) := by decide +kernel
theorem d_M_loadBoth_112 : decode b_M_loadBoth 112 = .ok (.putfield 45, 3) := by decide +kernel
theorem d_M_loadBoth_115 : decode b_M_loadBoth 115 = .ok (.iinc 5 (1), 3) := by decide +kernel
theorem d_M_loadBoth_118 : decode b_M_loadBoth 118 = .ok (.goto (-96), 3) := by decide +kernel
theorem d_M_loadBoth_121 : decode b_M_loadBoth 121 = .ok (.iinc 4 (1), 3) := by decide +kernel
theorem d_M_loadBoth_124 : decode b_M_loadBoth 124 = .ok (.goto (-116), 3) := by decide +kernel
theorem d_M_loadBoth_127 : decode b_M_loadBoth 127 = .ok (.aload_n 0, 1) := by decide +kernel
theorem d_M_loadBoth_128 : decode b_M_loadBoth 128 = .ok (.invokevirtual 48, 3) := by decide +kernel
theorem d_M_loadBoth_131 : decode b_M_loadBoth 131 = .ok (.return_, 1) := by decide +kernel
theorem d_M_turn_0 : decode b_M_turn 0 = .ok (.lload 4, 2) := by decide +kernel
theorem d_M_turn_2 : decode b_M_turn 2 = .ok (.lload_n 0, 1) := by decide +kernel
theorem d_M_turn_3 : decode b_M_turn 3 = .ok (.lsub, 1) := by decide +kernel
theorem d_M_turn_4 : decode b_M_turn 4 = .ok (.lload 10, 2) := by decide +kernel
theorem d_M_turn_6 : decode b_M_turn 6 = .ok (.lload_n 2, 1) := by decide +kernel
theorem d_M_turn_7 : decode b_M_turn 7 = .ok (.lsub, 1) := by decide +kernel
theorem d_M_turn_8 : decode b_M_turn 8 = .ok (.lmul, 1) := by decide +kernel
theorem d_M_turn_9 : decode b_M_turn 9 = .ok (.lload 6, 2) := by decide +kernel
theorem d_M_turn_11 : decode b_M_turn 11 = .ok (.lload_n 2, 1) := by decide +kernel
theorem d_M_turn_12 : decode b_M_turn 12 = .ok (.lsub, 1) := by decide +kernel
theorem d_M_turn_13 : decode b_M_turn 13 = .ok (.lload 8, 2) := by decide +kernel
theorem d_M_turn_15 : decode b_M_turn 15 = .ok (.lload_n 0, 1) := by decide +kernel
theorem d_M_turn_16 : decode b_M_turn 16 = .ok (.lsub, 1) := by decide +kernel
theorem d_M_turn_17 : decode b_M_turn 17 = .ok (.lmul, 1) := by decide +kernel
theorem d_M_turn_18 : decode b_M_turn 18 = .ok (.lsub, 1) := by decide +kernel
theorem d_M_turn_19 : decode b_M_turn 19 = .ok (.lreturn, 1) := by decide +kernel
theorem d_M_square_0 : decode b_M_square 0 = .ok (.lload_n 0, 1) := by decide +kernel
theorem d_M_square_1 : decode b_M_square 1 = .ok (.lload 4, 2) := by decide +kernel
theorem d_M_square_3 : decode b_M_square 3 = .ok (.lsub, 1) := by decide +kernel
theorem d_M_square_4 : decode b_M_square 4 = .ok (.lload_n 0, 1) := by decide +kernel
theorem d_M_square_5 : decode b_M_square 5 = .ok (.lload 4, 2) := by decide +kernel
theorem d_M_square_7 : decode b_M_square 7 = .ok (.lsub, 1) := by decide +kernel
theorem d_M_square_8 : decode b_M_square 8 = .ok (.lmul, 1) := by decide +kernel
theorem d_M_square_9 : decode b_M_square 9 = .ok (.lload_n 2, 1) := by decide +kernel
theorem d_M_square_10 : decode b_M_square 10 = .ok (.lload 6, 2) := by decide +kernel
theorem d_M_square_12 : decode b_M_square 12 = .ok (.lsub, 1) := by decide +kernel
theorem d_M_square_13 : decode b_M_square 13 = .ok (.lload_n 2, 1) := by decide +kernel
theorem d_M_square_14 : decode b_M_square 14 = .ok (.lload 6, 2) := by decide +kernel
theorem d_M_square_16 : decode b_M_square 16 = .ok (.lsub, 1) := by decide +kernel
theorem d_M_square_17 : decode b_M_square 17 = .ok (.lmul, 1) := by decide +kernel
theorem d_M_square_18 : decode b_M_square 18 = .ok (.ladd, 1) := by decide +kernel
theorem d_M_square_19 : decode b_M_square 19 = .ok (.lreturn, 1) := by decide +kernel
theorem d_M_goRound_0 : decode b_M_goRound 0 = .ok (.aload_n 0, 1) := by decide +kernel
theorem d_M_goRound_1 : decode b_M_goRound 1 = .ok (.iconst 0, 1) := by decide +kernel
theorem d_M_goRound_2 : decode b_M_goRound 2 = .ok (.putfield 51, 3) := by decide +kernel
theorem d_M_goRound_5 : decode b_M_goRound 5 = .ok (.iconst (-1), 1) := by decide +kernel
theorem d_M_goRound_6 : decode b_M_goRound 6 = .ok (.istore_n 1, 1) := by decide +kernel
theorem d_M_goRound_7 : decode b_M_goRound 7 = .ok (.iconst 0, 1) := by decide +kernel
theorem d_M_goRound_8 : decode b_M_goRound 8 = .ok (.istore_n 2, 1) := by decide +kernel
theorem d_M_goRound_9 : decode b_M_goRound 9 = .ok (.iload_n 2, 1) := by decide +kernel
theorem d_M_goRound_10 : decode b_M_goRound 10 = .ok (.aload_n 0, 1) := by decide +kernel
theorem d_M_goRound_11 : decode b_M_goRound 11 = .ok (.getfield 45, 3) := by decide +kernel
theorem d_M_goRound_14 : decode b_M_goRound 14 = .ok (.if_icmp .ge (60), 3) := by decide +kernel
theorem d_M_goRound_17 : decode b_M_goRound 17 = .ok (.iload_n 1, 1) := by decide +kernel
theorem d_M_goRound_18 : decode b_M_goRound 18 = .ok (.ifCond .lt (48), 3) := by decide +kernel
theorem d_M_goRound_21 : decode b_M_goRound 21 = .ok (.aload_n 0, 1) := by decide +kernel
theorem d_M_goRound_22 : decode b_M_goRound 22 = .ok (.getfield 19, 3) := by decide +kernel
theorem d_M_goRound_25 : decode b_M_goRound 25 = .ok (.iload_n 2, 1) := by decide +kernel
theorem d_M_goRound_26 : decode b_M_goRound 26 = .ok (.iaload, 1) := by decide +kernel
theorem d_M_goRound_27 : decode b_M_goRound 27 = .ok (.aload_n 0, 1) := by decide +kernel
theorem d_M_goRound_28 : decode b_M_goRound 28 = .ok (.getfield 19, 3) := by decide +kernel
theorem d_M_goRound_31 : decode b_M_goRound 31 = .ok (.iload_n 1, 1) := by decide +kernel
theorem d_M_goRound_32 : decode b_M_goRound 32 = .ok (.iaload, 1) := by decide +kernel
theorem d_M_goRound_33 : decode b_M_goRound 33 = .ok (.if_icmp .lt (33), 3) := by decide +kernel
theorem d_M_goRound_36 : decode b_M_goRound 36 = .ok (.aload_n 0, 1) := by decide +kernel
theorem d_M_goRound_37 : decode b_M_goRound 37 = .ok (.getfield 19, 3) := by decide +kernel
theorem d_M_goRound_40 : decode b_M_goRound 40 = .ok (.iload_n 2, 1) := by decide +kernel
theorem d_M_goRound_41 : decode b_M_goRound 41 = .ok (.iaload, 1) := by decide +kernel
theorem d_M_goRound_42 : decode b_M_goRound 42 = .ok (.aload_n 0, 1) := by decide +kernel
theorem d_M_goRound_43 : decode b_M_goRound 43 = .ok (.getfield 19, 3) := by decide +kernel
theorem d_M_goRound_46 : decode b_M_goRound 46 = .ok (.iload_n 1, 1) := by decide +kernel
theorem d_M_goRound_47 : decode b_M_goRound 47 = .ok (.iaload, 1) := by decide +kernel
theorem d_M_goRound_48 : decode b_M_goRound 48 = .ok (.if_icmp .ne (20), 3) := by decide +kernel
theorem d_M_goRound_51 : decode b_M_goRound 51 = .ok (.aload_n 0, 1) := by decide +kernel
theorem d_M_goRound_52 : decode b_M_goRound 52 = .ok (.getfield 22, 3) := by decide +kernel
theorem d_M_goRound_55 : decode b_M_goRound 55 = .ok (.iload_n 2, 1) := by decide +kernel
theorem d_M_goRound_56 : decode b_M_goRound 56 = .ok (.iaload, 1) := by decide +kernel
theorem d_M_goRound_57 : decode b_M_goRound 57 = .ok (.aload_n 0, 1) := by decide +kernel
theorem d_M_goRound_58 : decode b_M_goRound 58 = .ok (.getfield 22, 3) := by decide +kernel
theorem d_M_goRound_61 : decode b_M_goRound 61 = .ok (.iload_n 1, 1) := by decide +kernel
theorem d_M_goRound_62 : decode b_M_goRound 62 = .ok (.iaload, 1) := by decide +kernel
theorem d_M_goRound_63 : decode b_M_goRound 63 = .ok (.if_icmp .ge (5), 3) := by decide +kernel
theorem d_M_goRound_66 : decode b_M_goRound 66 = .ok (.iload_n 2, 1) := by decide +kernel
theorem d_M_goRound_67 : decode b_M_goRound 67 = .ok (.istore_n 1, 1) := by decide +kernel
theorem d_M_goRound_68 : decode b_M_goRound 68 = .ok (.iinc 2 (1), 3) := by decide +kernel
theorem d_M_goRound_71 : decode b_M_goRound 71 = .ok (.goto (-62), 3) := by decide +kernel
theorem d_M_goRound_74 : decode b_M_goRound 74 = .ok (.iload_n 1, 1) := by decide +kernel
theorem d_M_goRound_75 : decode b_M_goRound 75 = .ok (.ifCond .lt (7), 3) := by decide +kernel
theorem d_M_goRound_78 : decode b_M_goRound 78 = .ok (.iconst 1, 1) := by decide +kernel
theorem d_M_goRound_79 : decode b_M_goRound 79 = .ok (.goto (4), 3) := by decide +kernel
theorem d_M_goRound_82 : decode b_M_goRound 82 = .ok (.iconst 0, 1) := by decide +kernel
theorem d_M_goRound_83 : decode b_M_goRound 83 = .ok (.istore_n 2, 1) := by decide +kernel
theorem d_M_goRound_84 : decode b_M_goRound 84 = .ok (.iload_n 2, 1) := by decide +kernel
theorem d_M_goRound_85 : decode b_M_goRound 85 = .ok (.ifCond .eq (94), 3) := by decide +kernel
theorem d_M_goRound_88 : decode b_M_goRound 88 = .ok (.aload_n 0, 1) := by decide +kernel
theorem d_M_goRound_89 : decode b_M_goRound 89 = .ok (.getfield 25, 3) := by decide +kernel
theorem d_M_goRound_92 : decode b_M_goRound 92 = .ok (.aload_n 0, 1) := by decide +kernel
theorem d_M_goRound_93 : decode b_M_goRound 93 = .ok (.getfield 51, 3) := by decide +kernel
theorem d_M_goRound_96 : decode b_M_goRound 96 = .ok (.aload_n 0, 1) := by decide +kernel
theorem d_M_goRound_97 : decode b_M_goRound 97 = .ok (.getfield 19, 3) := by decide +kernel
theorem d_M_goRound_100 : decode b_M_goRound 100 = .ok (.iload_n 1, 1) := by decide +kernel
theorem d_M_goRound_101 : decode b_M_goRound 101 = .ok (.iaload, 1) := by decide +kernel
theorem d_M_goRound_102 : decode b_M_goRound 102 = .ok (.iastore, 1) := by decide +kernel
theorem d_M_goRound_103 : decode b_M_goRound 103 = .ok (.aload_n 0, 1) := by decide +kernel
theorem d_M_goRound_104 : decode b_M_goRound 104 = .ok (.getfield 28, 3) := by decide +kernel
theorem d_M_goRound_107 : decode b_M_goRound 107 = .ok (.aload_n 0, 1) := by decide +kernel
theorem d_M_goRound_108 : decode b_M_goRound 108 = .ok (.getfield 51, 3) := by decide +kernel
theorem d_M_goRound_111 : decode b_M_goRound 111 = .ok (.aload_n 0, 1) := by decide +kernel
theorem d_M_goRound_112 : decode b_M_goRound 112 = .ok (.getfield 22, 3) := by decide +kernel
theorem d_M_goRound_115 : decode b_M_goRound 115 = .ok (.iload_n 1, 1) := by decide +kernel
theorem d_M_goRound_116 : decode b_M_goRound 116 = .ok (.iaload, 1) := by decide +kernel
theorem d_M_goRound_117 : decode b_M_goRound 117 = .ok (.iastore, 1) := by decide +kernel
theorem d_M_goRound_118 : decode b_M_goRound 118 = .ok (.aload_n 0, 1) := by decide +kernel
theorem d_M_goRound_119 : decode b_M_goRound 119 = .ok (.dup, 1) := by decide +kernel
theorem d_M_goRound_120 : decode b_M_goRound 120 = .ok (.getfield 51, 3) := by decide +kernel
theorem d_M_goRound_123 : decode b_M_goRound 123 = .ok (.iconst 1, 1) := by decide +kernel
theorem d_M_goRound_124 : decode b_M_goRound 124 = .ok (.iadd, 1) := by decide +kernel
theorem d_M_goRound_125 : decode b_M_goRound 125 = .ok (.putfield 51, 3) := by decide +kernel
theorem d_M_goRound_128 : decode b_M_goRound 128 = .ok (.aload_n 0, 1) := by decide +kernel
theorem d_M_goRound_129 : decode b_M_goRound 129 = .ok (.iload_n 1, 1) := by decide +kernel
theorem d_M_goRound_130 : decode b_M_goRound 130 = .ok (.invokevirtual 54, 3) := by decide +kernel
theorem d_M_goRound_133 : decode b_M_goRound 133 = .ok (.istore_n 3, 1) := by decide +kernel
theorem d_M_goRound_134 : decode b_M_goRound 134 = .ok (.iload_n 3, 1) := by decide +kernel
theorem d_M_goRound_135 : decode b_M_goRound 135 = .ok (.ifCond .lt (37), 3) := by decide +kernel
theorem d_M_goRound_138 : decode b_M_goRound 138 = .ok (.aload_n 0, 1) := by decide +kernel
theorem d_M_goRound_139 : decode b_M_goRound 139 = .ok (.getfield 19, 3) := by decide +kernel
theorem d_M_goRound_142 : decode b_M_goRound 142 = .ok (.iload_n 3, 1) := by decide +kernel
theorem d_M_goRound_143 : decode b_M_goRound 143 = .ok (.iaload, 1) := by decide +kernel
theorem d_M_goRound_144 : decode b_M_goRound 144 = .ok (.aload_n 0, 1) := by decide +kernel
theorem d_M_goRound_145 : decode b_M_goRound 145 = .ok (.getfield 25, 3) := by decide +kernel
theorem d_M_goRound_148 : decode b_M_goRound 148 = .ok (.iconst 0, 1) := by decide +kernel
theorem d_M_goRound_149 : decode b_M_goRound 149 = .ok (.iaload, 1) := by decide +kernel
theorem d_M_goRound_150 : decode b_M_goRound 150 = .ok (.if_icmp .ne (18), 3) := by decide +kernel
theorem d_M_goRound_153 : decode b_M_goRound 153 = .ok (.aload_n 0, 1) := by decide +kernel
theorem d_M_goRound_154 : decode b_M_goRound 154 = .ok (.getfield 22, 3) := by decide +kernel
theorem d_M_goRound_157 : decode b_M_goRound 157 = .ok (.iload_n 3, 1) := by decide +kernel
theorem d_M_goRound_158 : decode b_M_goRound 158 = .ok (.iaload, 1) := by decide +kernel
theorem d_M_goRound_159 : decode b_M_goRound 159 = .ok (.aload_n 0, 1) := by decide +kernel
theorem d_M_goRound_160 : decode b_M_goRound 160 = .ok (.getfield 28, 3) := by decide +kernel
theorem d_M_goRound_163 : decode b_M_goRound 163 = .ok (.iconst 0, 1) := by decide +kernel
theorem d_M_goRound_164 : decode b_M_goRound 164 = .ok (.iaload, 1) := by decide +kernel
theorem d_M_goRound_165 : decode b_M_goRound 165 = .ok (.if_icmp .eq (7), 3) := by decide +kernel
theorem d_M_goRound_168 : decode b_M_goRound 168 = .ok (.iconst 1, 1) := by decide +kernel
theorem d_M_goRound_169 : decode b_M_goRound 169 = .ok (.goto (4), 3) := by decide +kernel
theorem d_M_goRound_172 : decode b_M_goRound 172 = .ok (.iconst 0, 1) := by decide +kernel
theorem d_M_goRound_173 : decode b_M_goRound 173 = .ok (.istore_n 2, 1) := by decide +kernel
theorem d_M_goRound_174 : decode b_M_goRound 174 = .ok (.iload_n 3, 1) := by decide +kernel
theorem d_M_goRound_175 : decode b_M_goRound 175 = .ok (.istore_n 1, 1) := by decide +kernel
theorem d_M_goRound_176 : decode b_M_goRound 176 = .ok (.goto (-92), 3) := by decide +kernel
theorem d_M_goRound_179 : decode b_M_goRound 179 = .ok (.return_, 1) := by decide +kernel
theorem d_M_nextOf_0 : decode b_M_nextOf 0 = .ok (.iconst (-1), 1) := by decide +kernel
theorem d_M_nextOf_1 : decode b_M_nextOf 1 = .ok (.istore_n 2, 1) := by decide +kernel
theorem d_M_nextOf_2 : decode b_M_nextOf 2 = .ok (.iconst 0, 1) := by decide +kernel
theorem d_M_nextOf_3 : decode b_M_nextOf 3 = .ok (.istore_n 3, 1) := by decide +kernel
theorem d_M_nextOf_4 : decode b_M_nextOf 4 = .ok (.iload_n 3, 1) := by decide +kernel
theorem d_M_nextOf_5 : decode b_M_nextOf 5 = .ok (.aload_n 0, 1) := by decide +kernel
theorem d_M_nextOf_6 : decode b_M_nextOf 6 = .ok (.getfield 45, 3) := by decide +kernel
theorem d_M_nextOf_9 : decode b_M_nextOf 9 = .ok (.if_icmp .ge (192), 3) := by decide +kernel
theorem d_M_nextOf_12 : decode b_M_nextOf 12 = .ok (.aload_n 0, 1) := by decide +kernel
theorem d_M_nextOf_13 : decode b_M_nextOf 13 = .ok (.getfield 19, 3) := by decide +kernel
theorem d_M_nextOf_16 : decode b_M_nextOf 16 = .ok (.iload_n 3, 1) := by decide +kernel
theorem d_M_nextOf_17 : decode b_M_nextOf 17 = .ok (.iaload, 1) := by decide +kernel
theorem d_M_nextOf_18 : decode b_M_nextOf 18 = .ok (.aload_n 0, 1) := by decide +kernel
theorem d_M_nextOf_19 : decode b_M_nextOf 19 = .ok (.getfield 19, 3) := by decide +kernel
theorem d_M_nextOf_22 : decode b_M_nextOf 22 = .ok (.iload_n 1, 1) := by decide +kernel
theorem d_M_nextOf_23 : decode b_M_nextOf 23 = .ok (.iaload, 1) := by decide +kernel
theorem d_M_nextOf_24 : decode b_M_nextOf 24 = .ok (.if_icmp .ne (21), 3) := by decide +kernel
theorem d_M_nextOf_27 : decode b_M_nextOf 27 = .ok (.aload_n 0, 1) := by decide +kernel
theorem d_M_nextOf_28 : decode b_M_nextOf 28 = .ok (.getfield 22, 3) := by decide +kernel
theorem d_M_nextOf_31 : decode b_M_nextOf 31 = .ok (.iload_n 3, 1) := by decide +kernel
theorem d_M_nextOf_32 : decode b_M_nextOf 32 = .ok (.iaload, 1) := by decide +kernel
theorem d_M_nextOf_33 : decode b_M_nextOf 33 = .ok (.aload_n 0, 1) := by decide +kernel
theorem d_M_nextOf_34 : decode b_M_nextOf 34 = .ok (.getfield 22, 3) := by decide +kernel
theorem d_M_nextOf_37 : decode b_M_nextOf 37 = .ok (.iload_n 1, 1) := by decide +kernel
theorem d_M_nextOf_38 : decode b_M_nextOf 38 = .ok (.iaload, 1) := by decide +kernel
theorem d_M_nextOf_39 : decode b_M_nextOf 39 = .ok (.if_icmp .ne (6), 3) := by decide +kernel
theorem d_M_nextOf_42 : decode b_M_nextOf 42 = .ok (.goto (153), 3) := by decide +kernel
theorem d_M_nextOf_45 : decode b_M_nextOf 45 = .ok (.iload_n 2, 1) := by decide +kernel
theorem d_M_nextOf_46 : decode b_M_nextOf 46 = .ok (.ifCond .ge (8), 3) := by decide +kernel
theorem d_M_nextOf_49 : decode b_M_nextOf 49 = .ok (.iload_n 3, 1) := by decide +kernel
theorem d_M_nextOf_50 : decode b_M_nextOf 50 = .ok (.istore_n 2, 1) := by decide +kernel
theorem d_M_nextOf_51 : decode b_M_nextOf 51 = .ok (.goto (144), 3) := by decide +kernel
theorem d_M_nextOf_54 : decode b_M_nextOf 54 = .ok (.aload_n 0, 1) := by decide +kernel
theorem d_M_nextOf_55 : decode b_M_nextOf 55 = .ok (.getfield 19, 3) := by decide +kernel
theorem d_M_nextOf_58 : decode b_M_nextOf 58 = .ok (.iload_n 1, 1) := by decide +kernel
theorem d_M_nextOf_59 : decode b_M_nextOf 59 = .ok (.iaload, 1) := by decide +kernel
theorem d_M_nextOf_60 : decode b_M_nextOf 60 = .ok (.i2l, 1) := by decide +kernel
theorem d_M_nextOf_61 : decode b_M_nextOf 61 = .ok (.aload_n 0, 1) := by decide +kernel
theorem d_M_nextOf_62 : decode b_M_nextOf 62 = .ok (.getfield 22, 3) := by decide +kernel
theorem d_M_nextOf_65 : decode b_M_nextOf 65 = .ok (.iload_n 1, 1) := by decide +kernel
theorem d_M_nextOf_66 : decode b_M_nextOf 66 = .ok (.iaload, 1) := by decide +kernel
theorem d_M_nextOf_67 : decode b_M_nextOf 67 = .ok (.i2l, 1) := by decide +kernel
theorem d_M_nextOf_68 : decode b_M_nextOf 68 = .ok (.aload_n 0, 1) := by decide +kernel
theorem d_M_nextOf_69 : decode b_M_nextOf 69 = .ok (.getfield 19, 3) := by decide +kernel
theorem d_M_nextOf_72 : decode b_M_nextOf 72 = .ok (.iload_n 2, 1) := by decide +kernel
theorem d_M_nextOf_73 : decode b_M_nextOf 73 = .ok (.iaload, 1) := by decide +kernel
theorem d_M_nextOf_74 : decode b_M_nextOf 74 = .ok (.i2l, 1) := by decide +kernel
theorem d_M_nextOf_75 : decode b_M_nextOf 75 = .ok (.aload_n 0, 1) := by decide +kernel
theorem d_M_nextOf_76 : decode b_M_nextOf 76 = .ok (.getfield 22, 3) := by decide +kernel
theorem d_M_nextOf_79 : decode b_M_nextOf 79 = .ok (.iload_n 2, 1) := by decide +kernel
theorem d_M_nextOf_80 : decode b_M_nextOf 80 = .ok (.iaload, 1) := by decide +kernel
theorem d_M_nextOf_81 : decode b_M_nextOf 81 = .ok (.i2l, 1) := by decide +kernel
theorem d_M_nextOf_82 : decode b_M_nextOf 82 = .ok (.aload_n 0, 1) := by decide +kernel
theorem d_M_nextOf_83 : decode b_M_nextOf 83 = .ok (.getfield 19, 3) := by decide +kernel
theorem d_M_nextOf_86 : decode b_M_nextOf 86 = .ok (.iload_n 3, 1) := by decide +kernel
theorem d_M_nextOf_87 : decode b_M_nextOf 87 = .ok (.iaload, 1) := by decide +kernel
theorem d_M_nextOf_88 : decode b_M_nextOf 88 = .ok (.i2l, 1) := by decide +kernel
theorem d_M_nextOf_89 : decode b_M_nextOf 89 = .ok (.aload_n 0, 1) := by decide +kernel
theorem d_M_nextOf_90 : decode b_M_nextOf 90 = .ok (.getfield 22, 3) := by decide +kernel
theorem d_M_nextOf_93 : decode b_M_nextOf 93 = .ok (.iload_n 3, 1) := by decide +kernel
theorem d_M_nextOf_94 : decode b_M_nextOf 94 = .ok (.iaload, 1) := by decide +kernel
theorem d_M_nextOf_95 : decode b_M_nextOf 95 = .ok (.i2l, 1) := by decide +kernel
theorem d_M_nextOf_96 : decode b_M_nextOf 96 = .ok (.invokestatic 58, 3) := by decide +kernel
theorem d_M_nextOf_99 : decode b_M_nextOf 99 = .ok (.lstore 4, 2) := by decide +kernel
theorem d_M_nextOf_101 : decode b_M_nextOf 101 = .ok (.aload_n 0, 1) := by decide +kernel
theorem d_M_nextOf_102 : decode b_M_nextOf 102 = .ok (.getfield 19, 3) := by decide +kernel
theorem d_M_nextOf_105 : decode b_M_nextOf 105 = .ok (.iload_n 1, 1) := by decide +kernel
theorem d_M_nextOf_106 : decode b_M_nextOf 106 = .ok (.iaload, 1) := by decide +kernel
theorem d_M_nextOf_107 : decode b_M_nextOf 107 = .ok (.i2l, 1) := by decide +kernel
theorem d_M_nextOf_108 : decode b_M_nextOf 108 = .ok (.aload_n 0, 1) := by decide +kernel
theorem d_M_nextOf_109 : decode b_M_nextOf 109 = .ok (.getfield 22, 3) := by decide +kernel
theorem d_M_nextOf_112 : decode b_M_nextOf 112 = .ok (.iload_n 1, 1) := by decide +kernel
theorem d_M_nextOf_113 : decode b_M_nextOf 113 = .ok (.iaload, 1) := by decide +kernel
theorem d_M_nextOf_114 : decode b_M_nextOf 114 = .ok (.i2l, 1) := by decide +kernel
theorem d_M_nextOf_115 : decode b_M_nextOf 115 = .ok (.aload_n 0, 1) := by decide +kernel
theorem d_M_nextOf_116 : decode b_M_nextOf 116 = .ok (.getfield 19, 3) := by decide +kernel
theorem d_M_nextOf_119 : decode b_M_nextOf 119 = .ok (.iload_n 3, 1) := by decide +kernel
theorem d_M_nextOf_120 : decode b_M_nextOf 120 = .ok (.iaload, 1) := by decide +kernel
theorem d_M_nextOf_121 : decode b_M_nextOf 121 = .ok (.i2l, 1) := by decide +kernel
theorem d_M_nextOf_122 : decode b_M_nextOf 122 = .ok (.aload_n 0, 1) := by decide +kernel
theorem d_M_nextOf_123 : decode b_M_nextOf 123 = .ok (.getfield 22, 3) := by decide +kernel
theorem d_M_nextOf_126 : decode b_M_nextOf 126 = .ok (.iload_n 3, 1) := by decide +kernel
theorem d_M_nextOf_127 : decode b_M_nextOf 127 = .ok (.iaload, 1) := by decide +kernel
theorem d_M_nextOf_128 : decode b_M_nextOf 128 = .ok (.i2l, 1) := by decide +kernel
theorem d_M_nextOf_129 : decode b_M_nextOf 129 = .ok (.invokestatic 62, 3) := by decide +kernel
theorem d_M_nextOf_132 : decode b_M_nextOf 132 = .ok (.aload_n 0, 1) := by decide +kernel
theorem d_M_nextOf_133 : decode b_M_nextOf 133 = .ok (.getfield 19, 3) := by decide +kernel
theorem d_M_nextOf_136 : decode b_M_nextOf 136 = .ok (.iload_n 1, 1) := by decide +kernel
theorem d_M_nextOf_137 : decode b_M_nextOf 137 = .ok (.iaload, 1) := by decide +kernel
theorem d_M_nextOf_138 : decode b_M_nextOf 138 = .ok (.i2l, 1) := by decide +kernel
theorem d_M_nextOf_139 : decode b_M_nextOf 139 = .ok (.aload_n 0, 1) := by decide +kernel
theorem d_M_nextOf_140 : decode b_M_nextOf 140 = .ok (.getfield 22, 3) := by decide +kernel
theorem d_M_nextOf_143 : decode b_M_nextOf 143 = .ok (.iload_n 1, 1) := by decide +kernel
theorem d_M_nextOf_144 : decode b_M_nextOf 144 = .ok (.iaload, 1) := by decide +kernel
theorem d_M_nextOf_145 : decode b_M_nextOf 145 = .ok (.i2l, 1) := by decide +kernel
theorem d_M_nextOf_146 : decode b_M_nextOf 146 = .ok (.aload_n 0, 1) := by decide +kernel
theorem d_M_nextOf_147 : decode b_M_nextOf 147 = .ok (.getfield 19, 3) := by decide +kernel
theorem d_M_nextOf_150 : decode b_M_nextOf 150 = .ok (.iload_n 2, 1) := by decide +kernel
theorem d_M_nextOf_151 : decode b_M_nextOf 151 = .ok (.iaload, 1) := by decide +kernel
theorem d_M_nextOf_152 : decode b_M_nextOf 152 = .ok (.i2l, 1) := by decide +kernel
theorem d_M_nextOf_153 : decode b_M_nextOf 153 = .ok (.aload_n 0, 1) := by decide +kernel
theorem d_M_nextOf_154 : decode b_M_nextOf 154 = .ok (.getfield 22, 3) := by decide +kernel
theorem d_M_nextOf_157 : decode b_M_nextOf 157 = .ok (.iload_n 2, 1) := by decide +kernel
theorem d_M_nextOf_158 : decode b_M_nextOf 158 = .ok (.iaload, 1) := by decide +kernel
theorem d_M_nextOf_159 : decode b_M_nextOf 159 = .ok (.i2l, 1) := by decide +kernel
theorem d_M_nextOf_160 : decode b_M_nextOf 160 = .ok (.invokestatic 62, 3) := by decide +kernel
theorem d_M_nextOf_163 : decode b_M_nextOf 163 = .ok (.lcmp, 1) := by decide +kernel
theorem d_M_nextOf_164 : decode b_M_nextOf 164 = .ok (.ifCond .le (7), 3) := by decide +kernel
theorem d_M_nextOf_167 : decode b_M_nextOf 167 = .ok (.iconst 1, 1) := by decide +kernel
theorem d_M_nextOf_168 : decode b_M_nextOf 168 = .ok (.goto (4), 3) := by decide +kernel
theorem d_M_nextOf_171 : decode b_M_nextOf 171 = .ok (.iconst 0, 1) := by decide +kernel
theorem d_M_nextOf_172 : decode b_M_nextOf 172 = .ok (.istore 6, 2) := by decide +kernel
theorem d_M_nextOf_174 : decode b_M_nextOf 174 = .ok (.lload 4, 2) := by decide +kernel
theorem d_M_nextOf_176 : decode b_M_nextOf 176 = .ok (.lconst 0, 1) := by decide +kernel
theorem d_M_nextOf_177 : decode b_M_nextOf 177 = .ok (.lcmp, 1) := by decide +kernel
theorem d_M_nextOf_178 : decode b_M_nextOf 178 = .ok (.ifCond .lt (15), 3) := by decide +kernel
theorem d_M_nextOf_181 : decode b_M_nextOf 181 = .ok (.lload 4, 2) := by decide +kernel
theorem d_M_nextOf_183 : decode b_M_nextOf 183 = .ok (.lconst 0, 1) := by decide +kernel
theorem d_M_nextOf_184 : decode b_M_nextOf 184 = .ok (.lcmp, 1) := by decide +kernel
theorem d_M_nextOf_185 : decode b_M_nextOf 185 = .ok (.ifCond .ne (10), 3) := by decide +kernel
theorem d_M_nextOf_188 : decode b_M_nextOf 188 = .ok (.iload 6, 2) := by decide +kernel
theorem d_M_nextOf_190 : decode b_M_nextOf 190 = .ok (.ifCond .eq (5), 3) := by decide +kernel
theorem d_M_nextOf_193 : decode b_M_nextOf 193 = .ok (.iload_n 3, 1) := by decide +kernel
theorem d_M_nextOf_194 : decode b_M_nextOf 194 = .ok (.istore_n 2, 1) := by decide +kernel
theorem d_M_nextOf_195 : decode b_M_nextOf 195 = .ok (.iinc 3 (1), 3) := by decide +kernel
theorem d_M_nextOf_198 : decode b_M_nextOf 198 = .ok (.goto (-194), 3) := by decide +kernel
theorem d_M_nextOf_201 : decode b_M_nextOf 201 = .ok (.iload_n 2, 1) := by decide +kernel
theorem d_M_nextOf_202 : decode b_M_nextOf 202 = .ok (.ireturn, 1) := by decide +kernel
theorem d_M_after_0 : decode b_M_after 0 = .ok (.iload_n 1, 1) := by decide +kernel
theorem d_M_after_1 : decode b_M_after 1 = .ok (.iconst 1, 1) := by decide +kernel
theorem d_M_after_2 : decode b_M_after 2 = .ok (.iadd, 1) := by decide +kernel
theorem d_M_after_3 : decode b_M_after 3 = .ok (.aload_n 0, 1) := by decide +kernel
theorem d_M_after_4 : decode b_M_after 4 = .ok (.getfield 51, 3) := by decide +kernel
theorem d_M_after_7 : decode b_M_after 7 = .ok (.if_icmp .ge (9), 3) := by decide +kernel
theorem d_M_after_10 : decode b_M_after 10 = .ok (.iload_n 1, 1) := by decide +kernel
theorem d_M_after_11 : decode b_M_after 11 = .ok (.iconst 1, 1) := by decide +kernel
theorem d_M_after_12 : decode b_M_after 12 = .ok (.iadd, 1) := by decide +kernel
theorem d_M_after_13 : decode b_M_after 13 = .ok (.goto (4), 3) := by decide +kernel
theorem d_M_after_16 : decode b_M_after 16 = .ok (.iconst 0, 1) := by decide +kernel
theorem d_M_after_17 : decode b_M_after 17 = .ok (.ireturn, 1) := by decide +kernel
theorem d_M_areaOf_0 : decode b_M_areaOf 0 = .ok (.lconst 0, 1) := by decide +kernel
theorem d_M_areaOf_1 : decode b_M_areaOf 1 = .ok (.lstore_n 1, 1) := by decide +kernel
theorem d_M_areaOf_2 : decode b_M_areaOf 2 = .ok (.iconst 0, 1) := by decide +kernel
theorem d_M_areaOf_3 : decode b_M_areaOf 3 = .ok (.istore_n 3, 1) := by decide +kernel
theorem d_M_areaOf_4 : decode b_M_areaOf 4 = .ok (.iload_n 3, 1) := by decide +kernel
theorem d_M_areaOf_5 : decode b_M_areaOf 5 = .ok (.aload_n 0, 1) := by decide +kernel
theorem d_M_areaOf_6 : decode b_M_areaOf 6 = .ok (.getfield 51, 3) := by decide +kernel
theorem d_M_areaOf_9 : decode b_M_areaOf 9 = .ok (.if_icmp .ge (65), 3) := by decide +kernel
theorem d_M_areaOf_12 : decode b_M_areaOf 12 = .ok (.lload_n 1, 1) := by decide +kernel
theorem d_M_areaOf_13 : decode b_M_areaOf 13 = .ok (.aload_n 0, 1) := by decide +kernel
theorem d_M_areaOf_14 : decode b_M_areaOf 14 = .ok (.getfield 25, 3) := by decide +kernel
theorem d_M_areaOf_17 : decode b_M_areaOf 17 = .ok (.iconst 0, 1) := by decide +kernel
theorem d_M_areaOf_18 : decode b_M_areaOf 18 = .ok (.iaload, 1) := by decide +kernel
theorem d_M_areaOf_19 : decode b_M_areaOf 19 = .ok (.i2l, 1) := by decide +kernel
theorem d_M_areaOf_20 : decode b_M_areaOf 20 = .ok (.aload_n 0, 1) := by decide +kernel
theorem d_M_areaOf_21 : decode b_M_areaOf 21 = .ok (.getfield 28, 3) := by decide +kernel
theorem d_M_areaOf_24 : decode b_M_areaOf 24 = .ok (.iconst 0, 1) := by decide +kernel
theorem d_M_areaOf_25 : decode b_M_areaOf 25 = .ok (.iaload, 1) := by decide +kernel
theorem d_M_areaOf_26 : decode b_M_areaOf 26 = .ok (.i2l, 1) := by decide +kernel
theorem d_M_areaOf_27 : decode b_M_areaOf 27 = .ok (.aload_n 0, 1) := by decide +kernel
theorem d_M_areaOf_28 : decode b_M_areaOf 28 = .ok (.getfield 25, 3) := by decide +kernel
theorem d_M_areaOf_31 : decode b_M_areaOf 31 = .ok (.iload_n 3, 1) := by decide +kernel
theorem d_M_areaOf_32 : decode b_M_areaOf 32 = .ok (.iaload, 1) := by decide +kernel
theorem d_M_areaOf_33 : decode b_M_areaOf 33 = .ok (.i2l, 1) := by decide +kernel
theorem d_M_areaOf_34 : decode b_M_areaOf 34 = .ok (.aload_n 0, 1) := by decide +kernel
theorem d_M_areaOf_35 : decode b_M_areaOf 35 = .ok (.getfield 28, 3) := by decide +kernel
theorem d_M_areaOf_38 : decode b_M_areaOf 38 = .ok (.iload_n 3, 1) := by decide +kernel
theorem d_M_areaOf_39 : decode b_M_areaOf 39 = .ok (.iaload, 1) := by decide +kernel
theorem d_M_areaOf_40 : decode b_M_areaOf 40 = .ok (.i2l, 1) := by decide +kernel
theorem d_M_areaOf_41 : decode b_M_areaOf 41 = .ok (.aload_n 0, 1) := by decide +kernel
theorem d_M_areaOf_42 : decode b_M_areaOf 42 = .ok (.getfield 25, 3) := by decide +kernel
theorem d_M_areaOf_45 : decode b_M_areaOf 45 = .ok (.aload_n 0, 1) := by decide +kernel
theorem d_M_areaOf_46 : decode b_M_areaOf 46 = .ok (.iload_n 3, 1) := by decide +kernel
theorem d_M_areaOf_47 : decode b_M_areaOf 47 = .ok (.invokevirtual 66, 3) := by decide +kernel
theorem d_M_areaOf_50 : decode b_M_areaOf 50 = .ok (.iaload, 1) := by decide +kernel
theorem d_M_areaOf_51 : decode b_M_areaOf 51 = .ok (.i2l, 1) := by decide +kernel
theorem d_M_areaOf_52 : decode b_M_areaOf 52 = .ok (.aload_n 0, 1) := by decide +kernel
theorem d_M_areaOf_53 : decode b_M_areaOf 53 = .ok (.getfield 28, 3) := by decide +kernel
theorem d_M_areaOf_56 : decode b_M_areaOf 56 = .ok (.aload_n 0, 1) := by decide +kernel
theorem d_M_areaOf_57 : decode b_M_areaOf 57 = .ok (.iload_n 3, 1) := by decide +kernel
theorem d_M_areaOf_58 : decode b_M_areaOf 58 = .ok (.invokevirtual 66, 3) := by decide +kernel
theorem d_M_areaOf_61 : decode b_M_areaOf 61 = .ok (.iaload, 1) := by decide +kernel
theorem d_M_areaOf_62 : decode b_M_areaOf 62 = .ok (.i2l, 1) := by decide +kernel
theorem d_M_areaOf_63 : decode b_M_areaOf 63 = .ok (.invokestatic 58, 3) := by decide +kernel
theorem d_M_areaOf_66 : decode b_M_areaOf 66 = .ok (.ladd, 1) := by decide +kernel
theorem d_M_areaOf_67 : decode b_M_areaOf 67 = .ok (.lstore_n 1, 1) := by decide +kernel
theorem d_M_areaOf_68 : decode b_M_areaOf 68 = .ok (.iinc 3 (1), 3) := by decide +kernel
theorem d_M_areaOf_71 : decode b_M_areaOf 71 = .ok (.goto (-67), 3) := by decide +kernel
theorem d_M_areaOf_74 : decode b_M_areaOf 74 = .ok (.lload_n 1, 1) := by decide +kernel
theorem d_M_areaOf_75 : decode b_M_areaOf 75 = .ok (.lreturn, 1) := by decide +kernel
theorem d_M_isOn_0 : decode b_M_isOn 0 = .ok (.aload_n 0, 1) := by decide +kernel
theorem d_M_isOn_1 : decode b_M_isOn 1 = .ok (.iload_n 1, 1) := by decide +kernel
theorem d_M_isOn_2 : decode b_M_isOn 2 = .ok (.invokevirtual 66, 3) := by decide +kernel
theorem d_M_isOn_5 : decode b_M_isOn 5 = .ok (.istore 6, 2) := by decide +kernel
theorem d_M_isOn_7 : decode b_M_isOn 7 = .ok (.lload_n 2, 1) := by decide +kernel
theorem d_M_isOn_8 : decode b_M_isOn 8 = .ok (.aload_n 0, 1) := by decide +kernel
theorem d_M_isOn_9 : decode b_M_isOn 9 = .ok (.getfield 25, 3) := by decide +kernel
theorem d_M_isOn_12 : decode b_M_isOn 12 = .ok (.iload_n 1, 1) := by decide +kernel
theorem d_M_isOn_13 : decode b_M_isOn 13 = .ok (.iaload, 1) := by decide +kernel
theorem d_M_isOn_14 : decode b_M_isOn 14 = .ok (.aload_n 0, 1) := by decide +kernel
theorem d_M_isOn_15 : decode b_M_isOn 15 = .ok (.getfield 25, 3) := by decide +kernel
theorem d_M_isOn_18 : decode b_M_isOn 18 = .ok (.iload 6, 2) := by decide +kernel
theorem d_M_isOn_20 : decode b_M_isOn 20 = .ok (.iaload, 1) := by decide +kernel
theorem d_M_isOn_21 : decode b_M_isOn 21 = .ok (.if_icmp .ge (12), 3) := by decide +kernel
theorem d_M_isOn_24 : decode b_M_isOn 24 = .ok (.aload_n 0, 1) := by decide +kernel
theorem d_M_isOn_25 : decode b_M_isOn 25 = .ok (.getfield 25, 3) := by decide +kernel
theorem d_M_isOn_28 : decode b_M_isOn 28 = .ok (.iload_n 1, 1) := by decide +kernel
theorem d_M_isOn_29 : decode b_M_isOn 29 = .ok (.iaload, 1) := by decide +kernel
theorem d_M_isOn_30 : decode b_M_isOn 30 = .ok (.goto (10), 3) := by decide +kernel
theorem d_M_isOn_33 : decode b_M_isOn 33 = .ok (.aload_n 0, 1) := by decide +kernel
theorem d_M_isOn_34 : decode b_M_isOn 34 = .ok (.getfield 25, 3) := by decide +kernel
theorem d_M_isOn_37 : decode b_M_isOn 37 = .ok (.iload 6, 2) := by decide +kernel
theorem d_M_isOn_39 : decode b_M_isOn 39 = .ok (.iaload, 1) := by decide +kernel
theorem d_M_isOn_40 : decode b_M_isOn 40 = .ok (.i2l, 1) := by decide +kernel
theorem d_M_isOn_41 : decode b_M_isOn 41 = .ok (.lcmp, 1) := by decide +kernel
theorem d_M_isOn_42 : decode b_M_isOn 42 = .ok (.ifCond .lt (123), 3) := by decide +kernel
theorem d_M_isOn_45 : decode b_M_isOn 45 = .ok (.lload_n 2, 1) := by decide +kernel
theorem d_M_isOn_46 : decode b_M_isOn 46 = .ok (.aload_n 0, 1) := by decide +kernel
theorem d_M_isOn_47 : decode b_M_isOn 47 = .ok (.getfield 25, 3) := by decide +kernel
theorem d_M_isOn_50 : decode b_M_isOn 50 = .ok (.iload_n 1, 1) := by decide +kernel
theorem d_M_isOn_51 : decode b_M_isOn 51 = .ok (.iaload, 1) := by decide +kernel
theorem d_M_isOn_52 : decode b_M_isOn 52 = .ok (.aload_n 0, 1) := by decide +kernel
theorem d_M_isOn_53 : decode b_M_isOn 53 = .ok (.getfield 25, 3) := by decide +kernel
theorem d_M_isOn_56 : decode b_M_isOn 56 = .ok (.iload 6, 2) := by decide +kernel
theorem d_M_isOn_58 : decode b_M_isOn 58 = .ok (.iaload, 1) := by decide +kernel
theorem d_M_isOn_59 : decode b_M_isOn 59 = .ok (.if_icmp .le (12), 3) := by decide +kernel
theorem d_M_isOn_62 : decode b_M_isOn 62 = .ok (.aload_n 0, 1) := by decide +kernel
theorem d_M_isOn_63 : decode b_M_isOn 63 = .ok (.getfield 25, 3) := by decide +kernel
theorem d_M_isOn_66 : decode b_M_isOn 66 = .ok (.iload_n 1, 1) := by decide +kernel
theorem d_M_isOn_67 : decode b_M_isOn 67 = .ok (.iaload, 1) := by decide +kernel
theorem d_M_isOn_68 : decode b_M_isOn 68 = .ok (.goto (10), 3) := by decide +kernel
theorem d_M_isOn_71 : decode b_M_isOn 71 = .ok (.aload_n 0, 1) := by decide +kernel
theorem d_M_isOn_72 : decode b_M_isOn 72 = .ok (.getfield 25, 3) := by decide +kernel
theorem d_M_isOn_75 : decode b_M_isOn 75 = .ok (.iload 6, 2) := by decide +kernel
theorem d_M_isOn_77 : decode b_M_isOn 77 = .ok (.iaload, 1) := by decide +kernel
theorem d_M_isOn_78 : decode b_M_isOn 78 = .ok (.i2l, 1) := by decide +kernel
theorem d_M_isOn_79 : decode b_M_isOn 79 = .ok (.lcmp, 1) := by decide +kernel
theorem d_M_isOn_80 : decode b_M_isOn 80 = .ok (.ifCond .gt (85), 3) := by decide +kernel
theorem d_M_isOn_83 : decode b_M_isOn 83 = .ok (.lload 4, 2) := by decide +kernel
theorem d_M_isOn_85 : decode b_M_isOn 85 = .ok (.aload_n 0, 1) := by decide +kernel
theorem d_M_isOn_86 : decode b_M_isOn 86 = .ok (.getfield 28, 3) := by decide +kernel
theorem d_M_isOn_89 : decode b_M_isOn 89 = .ok (.iload_n 1, 1) := by decide +kernel
theorem d_M_isOn_90 : decode b_M_isOn 90 = .ok (.iaload, 1) := by decide +kernel
theorem d_M_isOn_91 : decode b_M_isOn 91 = .ok (.aload_n 0, 1) := by decide +kernel
theorem d_M_isOn_92 : decode b_M_isOn 92 = .ok (.getfield 28, 3) := by decide +kernel
theorem d_M_isOn_95 : decode b_M_isOn 95 = .ok (.iload 6, 2) := by decide +kernel
theorem d_M_isOn_97 : decode b_M_isOn 97 = .ok (.iaload, 1) := by decide +kernel
theorem d_M_isOn_98 : decode b_M_isOn 98 = .ok (.if_icmp .ge (12), 3) := by decide +kernel
theorem d_M_isOn_101 : decode b_M_isOn 101 = .ok (.aload_n 0, 1) := by decide +kernel
theorem d_M_isOn_102 : decode b_M_isOn 102 = .ok (.getfield 28, 3) := by decide +kernel
theorem d_M_isOn_105 : decode b_M_isOn 105 = .ok (.iload_n 1, 1) := by decide +kernel
theorem d_M_isOn_106 : decode b_M_isOn 106 = .ok (.iaload, 1) := by decide +kernel
theorem d_M_isOn_107 : decode b_M_isOn 107 = .ok (.goto (10), 3) := by decide +kernel
theorem d_M_isOn_110 : decode b_M_isOn 110 = .ok (.aload_n 0, 1) := by decide +kernel
theorem d_M_isOn_111 : decode b_M_isOn 111 = .ok (.getfield 28, 3) := by decide +kernel
theorem d_M_isOn_114 : decode b_M_isOn 114 = .ok (.iload 6, 2) := by decide +kernel
theorem d_M_isOn_116 : decode b_M_isOn 116 = .ok (.iaload, 1) := by decide +kernel
theorem d_M_isOn_117 : decode b_M_isOn 117 = .ok (.i2l, 1) := by decide +kernel
theorem d_M_isOn_118 : decode b_M_isOn 118 = .ok (.lcmp, 1) := by decide +kernel
theorem d_M_isOn_119 : decode b_M_isOn 119 = .ok (.ifCond .lt (46), 3) := by decide +kernel
theorem d_M_isOn_122 : decode b_M_isOn 122 = .ok (.lload 4, 2) := by decide +kernel
theorem d_M_isOn_124 : decode b_M_isOn 124 = .ok (.aload_n 0, 1) := by decide +kernel
theorem d_M_isOn_125 : decode b_M_isOn 125 = .ok (.getfield 28, 3) := by decide +kernel
theorem d_M_isOn_128 : decode b_M_isOn 128 = .ok (.iload_n 1, 1) := by decide +kernel
theorem d_M_isOn_129 : decode b_M_isOn 129 = .ok (.iaload, 1) := by decide +kernel
theorem d_M_isOn_130 : decode b_M_isOn 130 = .ok (.aload_n 0, 1) := by decide +kernel
theorem d_M_isOn_131 : decode b_M_isOn 131 = .ok (.getfield 28, 3) := by decide +kernel
theorem d_M_isOn_134 : decode b_M_isOn 134 = .ok (.iload 6, 2) := by decide +kernel
theorem d_M_isOn_136 : decode b_M_isOn 136 = .ok (.iaload, 1) := by decide +kernel
theorem d_M_isOn_137 : decode b_M_isOn 137 = .ok (.if_icmp .le (12), 3) := by decide +kernel
theorem d_M_isOn_140 : decode b_M_isOn 140 = .ok (.aload_n 0, 1) := by decide +kernel
theorem d_M_isOn_141 : decode b_M_isOn 141 = .ok (.getfield 28, 3) := by decide +kernel
theorem d_M_isOn_144 : decode b_M_isOn 144 = .ok (.iload_n 1, 1) := by decide +kernel
theorem d_M_isOn_145 : decode b_M_isOn 145 = .ok (.iaload, 1) := by decide +kernel
theorem d_M_isOn_146 : decode b_M_isOn 146 = .ok (.goto (10), 3) := by decide +kernel
theorem d_M_isOn_149 : decode b_M_isOn 149 = .ok (.aload_n 0, 1) := by decide +kernel
theorem d_M_isOn_150 : decode b_M_isOn 150 = .ok (.getfield 28, 3) := by decide +kernel
theorem d_M_isOn_153 : decode b_M_isOn 153 = .ok (.iload 6, 2) := by decide +kernel
theorem d_M_isOn_155 : decode b_M_isOn 155 = .ok (.iaload, 1) := by decide +kernel
theorem d_M_isOn_156 : decode b_M_isOn 156 = .ok (.i2l, 1) := by decide +kernel
theorem d_M_isOn_157 : decode b_M_isOn 157 = .ok (.lcmp, 1) := by decide +kernel
theorem d_M_isOn_158 : decode b_M_isOn 158 = .ok (.ifCond .gt (7), 3) := by decide +kernel
theorem d_M_isOn_161 : decode b_M_isOn 161 = .ok (.iconst 1, 1) := by decide +kernel
theorem d_M_isOn_162 : decode b_M_isOn 162 = .ok (.goto (4), 3) := by decide +kernel
theorem d_M_isOn_165 : decode b_M_isOn 165 = .ok (.iconst 0, 1) := by decide +kernel
theorem d_M_isOn_166 : decode b_M_isOn 166 = .ok (.istore 7, 2) := by decide +kernel
theorem d_M_isOn_168 : decode b_M_isOn 168 = .ok (.iload 7, 2) := by decide +kernel
theorem d_M_isOn_170 : decode b_M_isOn 170 = .ok (.ifCond .eq (48), 3) := by decide +kernel
theorem d_M_isOn_173 : decode b_M_isOn 173 = .ok (.aload_n 0, 1) := by decide +kernel
theorem d_M_isOn_174 : decode b_M_isOn 174 = .ok (.getfield 25, 3) := by decide +kernel
theorem d_M_isOn_177 : decode b_M_isOn 177 = .ok (.iload_n 1, 1) := by decide +kernel
theorem d_M_isOn_178 : decode b_M_isOn 178 = .ok (.iaload, 1) := by decide +kernel
theorem d_M_isOn_179 : decode b_M_isOn 179 = .ok (.i2l, 1) := by decide +kernel
theorem d_M_isOn_180 : decode b_M_isOn 180 = .ok (.aload_n 0, 1) := by decide +kernel
theorem d_M_isOn_181 : decode b_M_isOn 181 = .ok (.getfield 28, 3) := by decide +kernel
theorem d_M_isOn_184 : decode b_M_isOn 184 = .ok (.iload_n 1, 1) := by decide +kernel
theorem d_M_isOn_185 : decode b_M_isOn 185 = .ok (.iaload, 1) := by decide +kernel
theorem d_M_isOn_186 : decode b_M_isOn 186 = .ok (.i2l, 1) := by decide +kernel
theorem d_M_isOn_187 : decode b_M_isOn 187 = .ok (.aload_n 0, 1) := by decide +kernel
theorem d_M_isOn_188 : decode b_M_isOn 188 = .ok (.getfield 25, 3) := by decide +kernel
theorem d_M_isOn_191 : decode b_M_isOn 191 = .ok (.iload 6, 2) := by decide +kernel
theorem d_M_isOn_193 : decode b_M_isOn 193 = .ok (.iaload, 1) := by decide +kernel
theorem d_M_isOn_194 : decode b_M_isOn 194 = .ok (.i2l, 1) := by decide +kernel
theorem d_M_isOn_195 : decode b_M_isOn 195 = .ok (.aload_n 0, 1) := by decide +kernel
theorem d_M_isOn_196 : decode b_M_isOn 196 = .ok (.getfield 28, 3) := by decide +kernel
theorem d_M_isOn_199 : decode b_M_isOn 199 = .ok (.iload 6, 2) := by decide +kernel
theorem d_M_isOn_201 : decode b_M_isOn 201 = .ok (.iaload, 1) := by decide +kernel
theorem d_M_isOn_202 : decode b_M_isOn 202 = .ok (.i2l, 1) := by decide +kernel
theorem d_M_isOn_203 : decode b_M_isOn 203 = .ok (.lload_n 2, 1) := by decide +kernel
theorem d_M_isOn_204 : decode b_M_isOn 204 = .ok (.lload 4, 2) := by decide +kernel
theorem d_M_isOn_206 : decode b_M_isOn 206 = .ok (.invokestatic 58, 3) := by decide +kernel
theorem d_M_isOn_209 : decode b_M_isOn 209 = .ok (.lconst 0, 1) := by decide +kernel
theorem d_M_isOn_210 : decode b_M_isOn 210 = .ok (.lcmp, 1) := by decide +kernel
theorem d_M_isOn_211 : decode b_M_isOn 211 = .ok (.ifCond .ne (7), 3) := by decide +kernel
theorem d_M_isOn_214 : decode b_M_isOn 214 = .ok (.iconst 1, 1) := by decide +kernel
theorem d_M_isOn_215 : decode b_M_isOn 215 = .ok (.goto (4), 3) := by decide +kernel
theorem d_M_isOn_218 : decode b_M_isOn 218 = .ok (.iconst 0, 1) := by decide +kernel
theorem d_M_isOn_219 : decode b_M_isOn 219 = .ok (.ireturn, 1) := by decide +kernel
theorem d_M_placeOf_0 : decode b_M_placeOf 0 = .ok (.aload_n 0, 1) := by decide +kernel
theorem d_M_placeOf_1 : decode b_M_placeOf 1 = .ok (.getfield 51, 3) := by decide +kernel
theorem d_M_placeOf_4 : decode b_M_placeOf 4 = .ok (.iconst 2, 1) := by decide +kernel
theorem d_M_placeOf_5 : decode b_M_placeOf 5 = .ok (.if_icmp .le (7), 3) := by decide +kernel
theorem d_M_placeOf_8 : decode b_M_placeOf 8 = .ok (.iconst 1, 1) := by decide +kernel
theorem d_M_placeOf_9 : decode b_M_placeOf 9 = .ok (.goto (4), 3) := by decide +kernel
theorem d_M_placeOf_12 : decode b_M_placeOf 12 = .ok (.iconst 0, 1) := by decide +kernel
theorem d_M_placeOf_13 : decode b_M_placeOf 13 = .ok (.istore 5, 2) := by decide +kernel
theorem d_M_placeOf_15 : decode b_M_placeOf 15 = .ok (.iconst 0, 1) := by decide +kernel
theorem d_M_placeOf_16 : decode b_M_placeOf 16 = .ok (.istore 6, 2) := by decide +kernel
theorem d_M_placeOf_18 : decode b_M_placeOf 18 = .ok (.iload 6, 2) := by decide +kernel
theorem d_M_placeOf_20 : decode b_M_placeOf 20 = .ok (.aload_n 0, 1) := by decide +kernel
theorem d_M_placeOf_21 : decode b_M_placeOf 21 = .ok (.getfield 51, 3) := by decide +kernel
theorem d_M_placeOf_24 : decode b_M_placeOf 24 = .ok (.if_icmp .ge (84), 3) := by decide +kernel
theorem d_M_placeOf_27 : decode b_M_placeOf 27 = .ok (.aload_n 0, 1) := by decide +kernel
theorem d_M_placeOf_28 : decode b_M_placeOf 28 = .ok (.iload 6, 2) := by decide +kernel
theorem d_M_placeOf_30 : decode b_M_placeOf 30 = .ok (.lload_n 1, 1) := by decide +kernel
theorem d_M_placeOf_31 : decode b_M_placeOf 31 = .ok (.lload_n 3, 1) := by decide +kernel
theorem d_M_placeOf_32 : decode b_M_placeOf 32 = .ok (.invokevirtual 69, 3) := by decide +kernel
theorem d_M_placeOf_35 : decode b_M_placeOf 35 = .ok (.ifCond .eq (5), 3) := by decide +kernel
theorem d_M_placeOf_38 : decode b_M_placeOf 38 = .ok (.iconst 1, 1) := by decide +kernel
theorem d_M_placeOf_39 : decode b_M_placeOf 39 = .ok (.ireturn, 1) := by decide +kernel
theorem d_M_placeOf_40 : decode b_M_placeOf 40 = .ok (.iload 5, 2) := by decide +kernel
theorem d_M_placeOf_42 : decode b_M_placeOf 42 = .ok (.ifCond .eq (57), 3) := by decide +kernel
theorem d_M_placeOf_45 : decode b_M_placeOf 45 = .ok (.aload_n 0, 1) := by decide +kernel
theorem d_M_placeOf_46 : decode b_M_placeOf 46 = .ok (.getfield 25, 3) := by decide +kernel
theorem d_M_placeOf_49 : decode b_M_placeOf 49 = .ok (.iload 6, 2) := by decide +kernel
theorem d_M_placeOf_51 : decode b_M_placeOf 51 = .ok (.iaload, 1) := by decide +kernel
theorem d_M_placeOf_52 : decode b_M_placeOf 52 = .ok (.i2l, 1) := by decide +kernel
theorem d_M_placeOf_53 : decode b_M_placeOf 53 = .ok (.aload_n 0, 1) := by decide +kernel
theorem d_M_placeOf_54 : decode b_M_placeOf 54 = .ok (.getfield 28, 3) := by decide +kernel
theorem d_M_placeOf_57 : decode b_M_placeOf 57 = .ok (.iload 6, 2) := by decide +kernel
theorem d_M_placeOf_59 : decode b_M_placeOf 59 = .ok (.iaload, 1) := by decide +kernel
theorem d_M_placeOf_60 : decode b_M_placeOf 60 = .ok (.i2l, 1) := by decide +kernel
theorem d_M_placeOf_61 : decode b_M_placeOf 61 = .ok (.aload_n 0, 1) := by decide +kernel
theorem d_M_placeOf_62 : decode b_M_placeOf 62 = .ok (.getfield 25, 3) := by decide +kernel
theorem d_M_placeOf_65 : decode b_M_placeOf 65 = .ok (.aload_n 0, 1) := by decide +kernel
theorem d_M_placeOf_66 : decode b_M_placeOf 66 = .ok (.iload 6, 2) := by decide +kernel
theorem d_M_placeOf_68 : decode b_M_placeOf 68 = .ok (.invokevirtual 66, 3) := by decide +kernel
theorem d_M_placeOf_71 : decode b_M_placeOf 71 = .ok (.iaload, 1) := by decide +kernel
theorem d_M_placeOf_72 : decode b_M_placeOf 72 = .ok (.i2l, 1) := by decide +kernel
theorem d_M_placeOf_73 : decode b_M_placeOf 73 = .ok (.aload_n 0, 1) := by decide +kernel
theorem d_M_placeOf_74 : decode b_M_placeOf 74 = .ok (.getfield 28, 3) := by decide +kernel
theorem d_M_placeOf_77 : decode b_M_placeOf 77 = .ok (.aload_n 0, 1) := by decide +kernel
theorem d_M_placeOf_78 : decode b_M_placeOf 78 = .ok (.iload 6, 2) := by decide +kernel
theorem d_M_placeOf_80 : decode b_M_placeOf 80 = .ok (.invokevirtual 66, 3) := by decide +kernel
theorem d_M_placeOf_83 : decode b_M_placeOf 83 = .ok (.iaload, 1) := by decide +kernel
theorem d_M_placeOf_84 : decode b_M_placeOf 84 = .ok (.i2l, 1) := by decide +kernel
theorem d_M_placeOf_85 : decode b_M_placeOf 85 = .ok (.lload_n 1, 1) := by decide +kernel
theorem d_M_placeOf_86 : decode b_M_placeOf 86 = .ok (.lload_n 3, 1) := by decide +kernel
theorem d_M_placeOf_87 : decode b_M_placeOf 87 = .ok (.invokestatic 58, 3) := by decide +kernel
theorem d_M_placeOf_90 : decode b_M_placeOf 90 = .ok (.lconst 0, 1) := by decide +kernel
theorem d_M_placeOf_91 : decode b_M_placeOf 91 = .ok (.lcmp, 1) := by decide +kernel
theorem d_M_placeOf_92 : decode b_M_placeOf 92 = .ok (.ifCond .le (7), 3) := by decide +kernel
theorem d_M_placeOf_95 : decode b_M_placeOf 95 = .ok (.iconst 1, 1) := by decide +kernel
theorem d_M_placeOf_96 : decode b_M_placeOf 96 = .ok (.goto (4), 3) := by decide +kernel
theorem d_M_placeOf_99 : decode b_M_placeOf 99 = .ok (.iconst 0, 1) := by decide +kernel
theorem d_M_placeOf_100 : decode b_M_placeOf 100 = .ok (.istore 5, 2) := by decide +kernel
theorem d_M_placeOf_102 : decode b_M_placeOf 102 = .ok (.iinc 6 (1), 3) := by decide +kernel
theorem d_M_placeOf_105 : decode b_M_placeOf 105 = .ok (.goto (-87), 3) := by decide +kernel
theorem d_M_placeOf_108 : decode b_M_placeOf 108 = .ok (.iload 5, 2) := by decide +kernel
theorem d_M_placeOf_110 : decode b_M_placeOf 110 = .ok (.ifCond .eq (7), 3) := by decide +kernel
theorem d_M_placeOf_113 : decode b_M_placeOf 113 = .ok (.iconst 2, 1) := by decide +kernel
theorem d_M_placeOf_114 : decode b_M_placeOf 114 = .ok (.goto (4), 3) := by decide +kernel
theorem d_M_placeOf_117 : decode b_M_placeOf 117 = .ok (.iconst 0, 1) := by decide +kernel
theorem d_M_placeOf_118 : decode b_M_placeOf 118 = .ok (.ireturn, 1) := by decide +kernel
theorem d_M_common_0 : decode b_M_common 0 = .ok (.lload_n 0, 1) := by decide +kernel
theorem d_M_common_1 : decode b_M_common 1 = .ok (.lconst 0, 1) := by decide +kernel
theorem d_M_common_2 : decode b_M_common 2 = .ok (.lcmp, 1) := by decide +kernel
theorem d_M_common_3 : decode b_M_common 3 = .ok (.ifCond .ge (8), 3) := by decide +kernel
theorem d_M_common_6 : decode b_M_common 6 = .ok (.lload_n 0, 1) := by decide +kernel
theorem d_M_common_7 : decode b_M_common 7 = .ok (.lneg, 1) := by decide +kernel
theorem d_M_common_8 : decode b_M_common 8 = .ok (.goto (4), 3) := by decide +kernel
theorem d_M_common_11 : decode b_M_common 11 = .ok (.lload_n 0, 1) := by decide +kernel
theorem d_M_common_12 : decode b_M_common 12 = .ok (.lstore 4, 2) := by decide +kernel
theorem d_M_common_14 : decode b_M_common 14 = .ok (.lload_n 2, 1) := by decide +kernel
theorem d_M_common_15 : decode b_M_common 15 = .ok (.lconst 0, 1) := by decide +kernel
theorem d_M_common_16 : decode b_M_common 16 = .ok (.lcmp, 1) := by decide +kernel
theorem d_M_common_17 : decode b_M_common 17 = .ok (.ifCond .ge (8), 3) := by decide +kernel
theorem d_M_common_20 : decode b_M_common 20 = .ok (.lload_n 2, 1) := by decide +kernel
theorem d_M_common_21 : decode b_M_common 21 = .ok (.lneg, 1) := by decide +kernel
theorem d_M_common_22 : decode b_M_common 22 = .ok (.goto (4), 3) := by decide +kernel
theorem d_M_common_25 : decode b_M_common 25 = .ok (.lload_n 2, 1) := by decide +kernel
theorem d_M_common_26 : decode b_M_common 26 = .ok (.lstore 6, 2) := by decide +kernel
theorem d_M_common_28 : decode b_M_common 28 = .ok (.lload 6, 2) := by decide +kernel
theorem d_M_common_30 : decode b_M_common 30 = .ok (.lconst 0, 1) := by decide +kernel
theorem d_M_common_31 : decode b_M_common 31 = .ok (.lcmp, 1) := by decide +kernel
theorem d_M_common_32 : decode b_M_common 32 = .ok (.ifCond .eq (21), 3) := by decide +kernel
theorem d_M_common_35 : decode b_M_common 35 = .ok (.lload 4, 2) := by decide +kernel
theorem d_M_common_37 : decode b_M_common 37 = .ok (.lload 6, 2) := by decide +kernel
theorem d_M_common_39 : decode b_M_common 39 = .ok (.lrem, 1) := by decide +kernel
theorem d_M_common_40 : decode b_M_common 40 = .ok (.lstore 8, 2) := by decide +kernel
theorem d_M_common_42 : decode b_M_common 42 = .ok (.lload 6, 2) := by decide +kernel
theorem d_M_common_44 : decode b_M_common 44 = .ok (.lstore 4, 2) := by decide +kernel
theorem d_M_common_46 : decode b_M_common 46 = .ok (.lload 8, 2) := by decide +kernel
theorem d_M_common_48 : decode b_M_common 48 = .ok (.lstore 6, 2) := by decide +kernel
theorem d_M_common_50 : decode b_M_common 50 = .ok (.goto (-22), 3) := by decide +kernel
theorem d_M_common_53 : decode b_M_common 53 = .ok (.lload 4, 2) := by decide +kernel
theorem d_M_common_55 : decode b_M_common 55 = .ok (.lreturn, 1) := by decide +kernel
theorem d_M_tell_0 : decode b_M_tell 0 = .ok (.lload_n 1, 1) := by decide +kernel
theorem d_M_tell_1 : decode b_M_tell 1 = .ok (.lload_n 3, 1) := by decide +kernel
theorem d_M_tell_2 : decode b_M_tell 2 = .ok (.invokestatic 73, 3) := by decide +kernel
theorem d_M_tell_5 : decode b_M_tell 5 = .ok (.lstore 5, 2) := by decide +kernel
theorem d_M_tell_7 : decode b_M_tell 7 = .ok (.lload_n 3, 1) := by decide +kernel
theorem d_M_tell_8 : decode b_M_tell 8 = .ok (.lconst 0, 1) := by decide +kernel
theorem d_M_tell_9 : decode b_M_tell 9 = .ok (.lcmp, 1) := by decide +kernel
theorem d_M_tell_10 : decode b_M_tell 10 = .ok (.ifCond .ge (9), 3) := by decide +kernel
theorem d_M_tell_13 : decode b_M_tell 13 = .ok (.ldc2_w 77, 3) := by decide +kernel
theorem d_M_tell_16 : decode b_M_tell 16 = .ok (.goto (4), 3) := by decide +kernel
theorem d_M_tell_19 : decode b_M_tell 19 = .ok (.lconst 1, 1) := by decide +kernel
theorem d_M_tell_20 : decode b_M_tell 20 = .ok (.lstore 7, 2) := by decide +kernel
theorem d_M_tell_22 : decode b_M_tell 22 = .ok (.aload_n 0, 1) := by decide +kernel
theorem d_M_tell_23 : decode b_M_tell 23 = .ok (.lload 7, 2) := by decide +kernel
theorem d_M_tell_25 : decode b_M_tell 25 = .ok (.lload_n 1, 1) := by decide +kernel
theorem d_M_tell_26 : decode b_M_tell 26 = .ok (.lmul, 1) := by decide +kernel
theorem d_M_tell_27 : decode b_M_tell 27 = .ok (.lload 5, 2) := by decide +kernel
theorem d_M_tell_29 : decode b_M_tell 29 = .ok (.ldiv, 1) := by decide +kernel
theorem d_M_tell_30 : decode b_M_tell 30 = .ok (.putfield 42, 3) := by decide +kernel
theorem d_M_tell_33 : decode b_M_tell 33 = .ok (.aload_n 0, 1) := by decide +kernel
theorem d_M_tell_34 : decode b_M_tell 34 = .ok (.lload 7, 2) := by decide +kernel
theorem d_M_tell_36 : decode b_M_tell 36 = .ok (.lload_n 3, 1) := by decide +kernel
theorem d_M_tell_37 : decode b_M_tell 37 = .ok (.lmul, 1) := by decide +kernel
theorem d_M_tell_38 : decode b_M_tell 38 = .ok (.lload 5, 2) := by decide +kernel
theorem d_M_tell_40 : decode b_M_tell 40 = .ok (.ldiv, 1) := by decide +kernel
theorem d_M_tell_41 : decode b_M_tell 41 = .ok (.putfield 31, 3) := by decide +kernel
theorem d_M_tell_44 : decode b_M_tell 44 = .ok (.return_, 1) := by decide +kernel
theorem d_M_set_0 : decode b_M_set 0 = .ok (.aload_n 0, 1) := by decide +kernel
theorem d_M_set_1 : decode b_M_set 1 = .ok (.iconst 0, 1) := by decide +kernel
theorem d_M_set_2 : decode b_M_set 2 = .ok (.putfield 35, 3) := by decide +kernel
theorem d_M_set_5 : decode b_M_set 5 = .ok (.aload_n 0, 1) := by decide +kernel
theorem d_M_set_6 : decode b_M_set 6 = .ok (.getfield 39, 3) := by decide +kernel
theorem d_M_set_9 : decode b_M_set 9 = .ok (.bipush (8), 2) := by decide +kernel
theorem d_M_set_11 : decode b_M_set 11 = .ok (.if_icmp .ne (6), 3) := by decide +kernel
theorem d_M_set_14 : decode b_M_set 14 = .ok (.bipush (-5), 2) := by decide +kernel
theorem d_M_set_16 : decode b_M_set 16 = .ok (.ireturn, 1) := by decide +kernel
theorem d_M_set_17 : decode b_M_set 17 = .ok (.aload_n 0, 1) := by decide +kernel
theorem d_M_set_18 : decode b_M_set 18 = .ok (.getfield 16, 3) := by decide +kernel
theorem d_M_set_21 : decode b_M_set 21 = .ok (.aload_n 0, 1) := by decide +kernel
theorem d_M_set_22 : decode b_M_set 22 = .ok (.getfield 39, 3) := by decide +kernel
theorem d_M_set_25 : decode b_M_set 25 = .ok (.iconst 0, 1) := by decide +kernel
theorem d_M_set_26 : decode b_M_set 26 = .ok (.iastore, 1) := by decide +kernel
theorem d_M_set_27 : decode b_M_set 27 = .ok (.aload_n 0, 1) := by decide +kernel
theorem d_M_set_28 : decode b_M_set 28 = .ok (.dup, 1) := by decide +kernel
theorem d_M_set_29 : decode b_M_set 29 = .ok (.getfield 39, 3) := by decide +kernel
theorem d_M_set_32 : decode b_M_set 32 = .ok (.iconst 1, 1) := by decide +kernel
theorem d_M_set_33 : decode b_M_set 33 = .ok (.iadd, 1) := by decide +kernel
theorem d_M_set_34 : decode b_M_set 34 = .ok (.putfield 39, 3) := by decide +kernel
theorem d_M_set_37 : decode b_M_set 37 = .ok (.aload_n 0, 1) := by decide +kernel
theorem d_M_set_38 : decode b_M_set 38 = .ok (.getfield 39, 3) := by decide +kernel
theorem d_M_set_41 : decode b_M_set 41 = .ok (.iconst 1, 1) := by decide +kernel
theorem d_M_set_42 : decode b_M_set 42 = .ok (.isub, 1) := by decide +kernel
theorem d_M_set_43 : decode b_M_set 43 = .ok (.ireturn, 1) := by decide +kernel
theorem d_M_point_0 : decode b_M_point 0 = .ok (.aload_n 0, 1) := by decide +kernel
theorem d_M_point_1 : decode b_M_point 1 = .ok (.iload_n 1, 1) := by decide +kernel
theorem d_M_point_2 : decode b_M_point 2 = .ok (.invokevirtual 79, 3) := by decide +kernel
theorem d_M_point_5 : decode b_M_point 5 = .ok (.ifCond .ne (5), 3) := by decide +kernel
theorem d_M_point_8 : decode b_M_point 8 = .ok (.iconst (-1), 1) := by decide +kernel
theorem d_M_point_9 : decode b_M_point 9 = .ok (.ireturn, 1) := by decide +kernel
theorem d_M_point_10 : decode b_M_point 10 = .ok (.iload_n 2, 1) := by decide +kernel
theorem d_M_point_11 : decode b_M_point 11 = .ok (.bipush (-100), 2) := by decide +kernel
theorem d_M_point_13 : decode b_M_point 13 = .ok (.bipush (100), 2) := by decide +kernel
theorem d_M_point_15 : decode b_M_point 15 = .ok (.invokestatic 83, 3) := by decide +kernel
theorem d_M_point_18 : decode b_M_point 18 = .ok (.ifCond .eq (14), 3) := by decide +kernel
theorem d_M_point_21 : decode b_M_point 21 = .ok (.iload_n 3, 1) := by decide +kernel
theorem d_M_point_22 : decode b_M_point 22 = .ok (.bipush (-100), 2) := by decide +kernel
theorem d_M_point_24 : decode b_M_point 24 = .ok (.bipush (100), 2) := by decide +kernel
theorem d_M_point_26 : decode b_M_point 26 = .ok (.invokestatic 83, 3) := by decide +kernel
theorem d_M_point_29 : decode b_M_point 29 = .ok (.ifCond .ne (6), 3) := by decide +kernel
theorem d_M_point_32 : decode b_M_point 32 = .ok (.bipush (-2), 2) := by decide +kernel
theorem d_M_point_34 : decode b_M_point 34 = .ok (.ireturn, 1) := by decide +kernel
theorem d_M_point_35 : decode b_M_point 35 = .ok (.iconst 0, 1) := by decide +kernel
theorem d_M_point_36 : decode b_M_point 36 = .ok (.istore 4, 2) := by decide +kernel
theorem d_M_point_38 : decode b_M_point 38 = .ok (.iload 4, 2) := by decide +kernel
theorem d_M_point_40 : decode b_M_point 40 = .ok (.aload_n 0, 1) := by decide +kernel
theorem d_M_point_41 : decode b_M_point 41 = .ok (.getfield 16, 3) := by decide +kernel
theorem d_M_point_44 : decode b_M_point 44 = .ok (.iload_n 1, 1) := by decide +kernel
theorem d_M_point_45 : decode b_M_point 45 = .ok (.iaload, 1) := by decide +kernel
theorem d_M_point_46 : decode b_M_point 46 = .ok (.if_icmp .ge (43), 3) := by decide +kernel
theorem d_M_point_49 : decode b_M_point 49 = .ok (.aload_n 0, 1) := by decide +kernel
theorem d_M_point_50 : decode b_M_point 50 = .ok (.getfield 7, 3) := by decide +kernel
theorem d_M_point_53 : decode b_M_point 53 = .ok (.bipush (24), 2) := by decide +kernel
theorem d_M_point_55 : decode b_M_point 55 = .ok (.iload_n 1, 1) := by decide +kernel
theorem d_M_point_56 : decode b_M_point 56 = .ok (.imul, 1) := by decide +kernel
theorem d_M_point_57 : decode b_M_point 57 = .ok (.iload 4, 2) := by decide +kernel
theorem d_M_point_59 : decode b_M_point 59 = .ok (.iadd, 1) := by decide +kernel
theorem d_M_point_60 : decode b_M_point 60 = .ok (.iaload, 1) := by decide +kernel
theorem d_M_point_61 : decode b_M_point 61 = .ok (.iload_n 2, 1) := by decide +kernel
theorem d_M_point_62 : decode b_M_point 62 = .ok (.if_icmp .ne (21), 3) := by decide +kernel
theorem d_M_point_65 : decode b_M_point 65 = .ok (.aload_n 0, 1) := by decide +kernel
theorem d_M_point_66 : decode b_M_point 66 = .ok (.getfield 13, 3) := by decide +kernel
theorem d_M_point_69 : decode b_M_point 69 = .ok (.bipush (24), 2) := by decide +kernel
theorem d_M_point_71 : decode b_M_point 71 = .ok (.iload_n 1, 1) := by decide +kernel
theorem d_M_point_72 : decode b_M_point 72 = .ok (.imul, 1) := by decide +kernel
theorem d_M_point_73 : decode b_M_point 73 = .ok (.iload 4, 2) := by decide +kernel
theorem d_M_point_75 : decode b_M_point 75 = .ok (.iadd, 1) := by decide +kernel
theorem d_M_point_76 : decode b_M_point 76 = .ok (.iaload, 1) := by decide +kernel
theorem d_M_point_77 : decode b_M_point 77 = .ok (.iload_n 3, 1) := by decide +kernel
theorem d_M_point_78 : decode b_M_point 78 = .ok (.if_icmp .ne (5), 3) := by decide +kernel
theorem d_M_point_81 : decode b_M_point 81 = .ok (.iconst 0, 1) := by decide +kernel
theorem d_M_point_82 : decode b_M_point 82 = .ok (.ireturn, 1) := by decide +kernel
theorem d_M_point_83 : decode b_M_point 83 = .ok (.iinc 4 (1), 3) := by decide +kernel
theorem d_M_point_86 : decode b_M_point 86 = .ok (.goto (-48), 3) := by decide +kernel
theorem d_M_point_89 : decode b_M_point 89 = .ok (.aload_n 0, 1) := by decide +kernel
theorem d_M_point_90 : decode b_M_point 90 = .ok (.getfield 16, 3) := by decide +kernel
theorem d_M_point_93 : decode b_M_point 93 = .ok (.iload_n 1, 1) := by decide +kernel
theorem d_M_point_94 : decode b_M_point 94 = .ok (.iaload, 1) := by decide +kernel
theorem d_M_point_95 : decode b_M_point 95 = .ok (.bipush (24), 2) := by decide +kernel
theorem d_M_point_97 : decode b_M_point 97 = .ok (.if_icmp .ne (6), 3) := by decide +kernel
theorem d_M_point_100 : decode b_M_point 100 = .ok (.bipush (-5), 2) := by decide +kernel
theorem d_M_point_102 : decode b_M_point 102 = .ok (.ireturn, 1) := by decide +kernel
theorem d_M_point_103 : decode b_M_point 103 = .ok (.aload_n 0, 1) := by decide +kernel
theorem d_M_point_104 : decode b_M_point 104 = .ok (.getfield 7, 3) := by decide +kernel
theorem d_M_point_107 : decode b_M_point 107 = .ok (.bipush (24), 2) := by decide +kernel
theorem d_M_point_109 : decode b_M_point 109 = .ok (.iload_n 1, 1) := by decide +kernel
theorem d_M_point_110 : decode b_M_point 110 = .ok (.imul, 1) := by decide +kernel
theorem d_M_point_111 : decode b_M_point 111 = .ok (.aload_n 0, 1) := by decide +kernel
theorem d_M_point_112 : decode b_M_point 112 = .ok (.getfield 16, 3) := by decide +kernel
theorem d_M_point_115 : decode b_M_point 115 = .ok (.iload_n 1, 1) := by decide +kernel
theorem d_M_point_116 : decode b_M_point 116 = .ok (.iaload, 1) := by decide +kernel
theorem d_M_point_117 : decode b_M_point 117 = .ok (.iadd, 1) := by decide +kernel
theorem d_M_point_118 : decode b_M_point 118 = .ok (.iload_n 2, 1) := by decide +kernel
theorem d_M_point_119 : decode b_M_point 119 = .ok (.iastore, 1) := by decide +kernel
theorem d_M_point_120 : decode b_M_point 120 = .ok (.aload_n 0, 1) := by decide +kernel
theorem d_M_point_121 : decode b_M_point 121 = .ok (.getfield 13, 3) := by decide +kernel
theorem d_M_point_124 : decode b_M_point 124 = .ok (.bipush (24), 2) := by decide +kernel
theorem d_M_point_126 : decode b_M_point 126 = .ok (.iload_n 1, 1) := by decide +kernel
theorem d_M_point_127 : decode b_M_point 127 = .ok (.imul, 1) := by decide +kernel
theorem d_M_point_128 : decode b_M_point 128 = .ok (.aload_n 0, 1) := by decide +kernel
theorem d_M_point_129 : decode b_M_point 129 = .ok (.getfield 16, 3) := by decide +kernel
theorem d_M_point_132 : decode b_M_point 132 = .ok (.iload_n 1, 1) := by decide +kernel
theorem d_M_point_133 : decode b_M_point 133 = .ok (.iaload, 1) := by decide +kernel
theorem d_M_point_134 : decode b_M_point 134 = .ok (.iadd, 1) := by decide +kernel
theorem d_M_point_135 : decode b_M_point 135 = .ok (.iload_n 3, 1) := by decide +kernel
theorem d_M_point_136 : decode b_M_point 136 = .ok (.iastore, 1) := by decide +kernel
theorem d_M_point_137 : decode b_M_point 137 = .ok (.aload_n 0, 1) := by decide +kernel
theorem d_M_point_138 : decode b_M_point 138 = .ok (.getfield 16, 3) := by decide +kernel
theorem d_M_point_141 : decode b_M_point 141 = .ok (.iload_n 1, 1) := by decide +kernel
theorem d_M_point_142 : decode b_M_point 142 = .ok (.dup2, 1) := by decide +kernel
theorem d_M_point_143 : decode b_M_point 143 = .ok (.iaload, 1) := by decide +kernel
theorem d_M_point_144 : decode b_M_point 144 = .ok (.iconst 1, 1) := by decide +kernel
theorem d_M_point_145 : decode b_M_point 145 = .ok (.iadd, 1) := by decide +kernel
theorem d_M_point_146 : decode b_M_point 146 = .ok (.iastore, 1) := by decide +kernel
theorem d_M_point_147 : decode b_M_point 147 = .ok (.iconst 1, 1) := by decide +kernel
theorem d_M_point_148 : decode b_M_point 148 = .ok (.ireturn, 1) := by decide +kernel
theorem d_M_points_0 : decode b_M_points 0 = .ok (.aload_n 0, 1) := by decide +kernel
theorem d_M_points_1 : decode b_M_points 1 = .ok (.iload_n 1, 1) := by decide +kernel
theorem d_M_points_2 : decode b_M_points 2 = .ok (.invokevirtual 79, 3) := by decide +kernel
theorem d_M_points_5 : decode b_M_points 5 = .ok (.ifCond .eq (12), 3) := by decide +kernel
theorem d_M_points_8 : decode b_M_points 8 = .ok (.aload_n 0, 1) := by decide +kernel
theorem d_M_points_9 : decode b_M_points 9 = .ok (.getfield 16, 3) := by decide +kernel
theorem d_M_points_12 : decode b_M_points 12 = .ok (.iload_n 1, 1) := by decide +kernel
theorem d_M_points_13 : decode b_M_points 13 = .ok (.iaload, 1) := by decide +kernel
theorem d_M_points_14 : decode b_M_points 14 = .ok (.goto (4), 3) := by decide +kernel
theorem d_M_points_17 : decode b_M_points 17 = .ok (.iconst (-1), 1) := by decide +kernel
theorem d_M_points_18 : decode b_M_points 18 = .ok (.ireturn, 1) := by decide +kernel
theorem d_M_kind_0 : decode b_M_kind 0 = .ok (.aload_n 0, 1) := by decide +kernel
theorem d_M_kind_1 : decode b_M_kind 1 = .ok (.iload_n 1, 1) := by decide +kernel
theorem d_M_kind_2 : decode b_M_kind 2 = .ok (.invokevirtual 79, 3) := by decide +kernel
theorem d_M_kind_5 : decode b_M_kind 5 = .ok (.ifCond .ne (5), 3) := by decide +kernel
theorem d_M_kind_8 : decode b_M_kind 8 = .ok (.iconst (-1), 1) := by decide +kernel
theorem d_M_kind_9 : decode b_M_kind 9 = .ok (.ireturn, 1) := by decide +kernel
theorem d_M_kind_10 : decode b_M_kind 10 = .ok (.aload_n 0, 1) := by decide +kernel
theorem d_M_kind_11 : decode b_M_kind 11 = .ok (.iload_n 1, 1) := by decide +kernel
theorem d_M_kind_12 : decode b_M_kind 12 = .ok (.invokevirtual 87, 3) := by decide +kernel
theorem d_M_kind_15 : decode b_M_kind 15 = .ok (.aload_n 0, 1) := by decide +kernel
theorem d_M_kind_16 : decode b_M_kind 16 = .ok (.getfield 51, 3) := by decide +kernel
theorem d_M_kind_19 : decode b_M_kind 19 = .ok (.iconst 3, 1) := by decide +kernel
theorem d_M_kind_20 : decode b_M_kind 20 = .ok (.if_icmp .ge (10), 3) := by decide +kernel
theorem d_M_kind_23 : decode b_M_kind 23 = .ok (.aload_n 0, 1) := by decide +kernel
theorem d_M_kind_24 : decode b_M_kind 24 = .ok (.getfield 51, 3) := by decide +kernel
theorem d_M_kind_27 : decode b_M_kind 27 = .ok (.goto (4), 3) := by decide +kernel
theorem d_M_kind_30 : decode b_M_kind 30 = .ok (.iconst 3, 1) := by decide +kernel
theorem d_M_kind_31 : decode b_M_kind 31 = .ok (.ireturn, 1) := by decide +kernel
theorem d_M_corners_0 : decode b_M_corners 0 = .ok (.aload_n 0, 1) := by decide +kernel
theorem d_M_corners_1 : decode b_M_corners 1 = .ok (.iload_n 1, 1) := by decide +kernel
theorem d_M_corners_2 : decode b_M_corners 2 = .ok (.invokevirtual 79, 3) := by decide +kernel
theorem d_M_corners_5 : decode b_M_corners 5 = .ok (.ifCond .ne (5), 3) := by decide +kernel
theorem d_M_corners_8 : decode b_M_corners 8 = .ok (.iconst (-1), 1) := by decide +kernel
theorem d_M_corners_9 : decode b_M_corners 9 = .ok (.ireturn, 1) := by decide +kernel
theorem d_M_corners_10 : decode b_M_corners 10 = .ok (.aload_n 0, 1) := by decide +kernel
theorem d_M_corners_11 : decode b_M_corners 11 = .ok (.iload_n 1, 1) := by decide +kernel
theorem d_M_corners_12 : decode b_M_corners 12 = .ok (.invokevirtual 87, 3) := by decide +kernel
theorem d_M_corners_15 : decode b_M_corners 15 = .ok (.aload_n 0, 1) := by decide +kernel
theorem d_M_corners_16 : decode b_M_corners 16 = .ok (.getfield 51, 3) := by decide +kernel
theorem d_M_corners_19 : decode b_M_corners 19 = .ok (.ireturn, 1) := by decide +kernel
theorem d_M_corner_0 : decode b_M_corner 0 = .ok (.aload_n 0, 1) := by decide +kernel
theorem d_M_corner_1 : decode b_M_corner 1 = .ok (.iload_n 1, 1) := by decide +kernel
theorem d_M_corner_2 : decode b_M_corner 2 = .ok (.invokevirtual 79, 3) := by decide +kernel
theorem d_M_corner_5 : decode b_M_corner 5 = .ok (.ifCond .ne (5), 3) := by decide +kernel
theorem d_M_corner_8 : decode b_M_corner 8 = .ok (.iconst (-1), 1) := by decide +kernel
theorem d_M_corner_9 : decode b_M_corner 9 = .ok (.ireturn, 1) := by decide +kernel
theorem d_M_corner_10 : decode b_M_corner 10 = .ok (.aload_n 0, 1) := by decide +kernel
theorem d_M_corner_11 : decode b_M_corner 11 = .ok (.iload_n 1, 1) := by decide +kernel
theorem d_M_corner_12 : decode b_M_corner 12 = .ok (.invokevirtual 87, 3) := by decide +kernel
theorem d_M_corner_15 : decode b_M_corner 15 = .ok (.iload_n 2, 1) := by decide +kernel
theorem d_M_corner_16 : decode b_M_corner 16 = .ok (.ifCond .lt (11), 3) := by decide +kernel
theorem d_M_corner_19 : decode b_M_corner 19 = .ok (.iload_n 2, 1) := by decide +kernel
theorem d_M_corner_20 : decode b_M_corner 20 = .ok (.aload_n 0, 1) := by decide +kernel
theorem d_M_corner_21 : decode b_M_corner 21 = .ok (.getfield 51, 3) := by decide +kernel
theorem d_M_corner_24 : decode b_M_corner 24 = .ok (.if_icmp .lt (6), 3) := by decide +kernel
theorem d_M_corner_27 : decode b_M_corner 27 = .ok (.bipush (-2), 2) := by decide +kernel
theorem d_M_corner_29 : decode b_M_corner 29 = .ok (.ireturn, 1) := by decide +kernel
theorem d_M_corner_30 : decode b_M_corner 30 = .ok (.aload_n 0, 1) := by decide +kernel
theorem d_M_corner_31 : decode b_M_corner 31 = .ok (.aload_n 0, 1) := by decide +kernel
theorem d_M_corner_32 : decode b_M_corner 32 = .ok (.getfield 25, 3) := by decide +kernel
theorem d_M_corner_35 : decode b_M_corner 35 = .ok (.iload_n 2, 1) := by decide +kernel
theorem d_M_corner_36 : decode b_M_corner 36 = .ok (.iaload, 1) := by decide +kernel
theorem d_M_corner_37 : decode b_M_corner 37 = .ok (.i2l, 1) := by decide +kernel
theorem d_M_corner_38 : decode b_M_corner 38 = .ok (.putfield 42, 3) := by decide +kernel
theorem d_M_corner_41 : decode b_M_corner 41 = .ok (.aload_n 0, 1) := by decide +kernel
theorem d_M_corner_42 : decode b_M_corner 42 = .ok (.aload_n 0, 1) := by decide +kernel
theorem d_M_corner_43 : decode b_M_corner 43 = .ok (.getfield 28, 3) := by decide +kernel
theorem d_M_corner_46 : decode b_M_corner 46 = .ok (.iload_n 2, 1) := by decide +kernel
theorem d_M_corner_47 : decode b_M_corner 47 = .ok (.iaload, 1) := by decide +kernel
theorem d_M_corner_48 : decode b_M_corner 48 = .ok (.i2l, 1) := by decide +kernel
theorem d_M_corner_49 : decode b_M_corner 49 = .ok (.putfield 31, 3) := by decide +kernel
theorem d_M_corner_52 : decode b_M_corner 52 = .ok (.iconst 1, 1) := by decide +kernel
theorem d_M_corner_53 : decode b_M_corner 53 = .ok (.ireturn, 1) := by decide +kernel
theorem d_M_beside_0 : decode b_M_beside 0 = .ok (.aload_n 0, 1) := by decide +kernel
theorem d_M_beside_1 : decode b_M_beside 1 = .ok (.iload_n 1, 1) := by decide +kernel
theorem d_M_beside_2 : decode b_M_beside 2 = .ok (.invokevirtual 79, 3) := by decide +kernel
theorem d_M_beside_5 : decode b_M_beside 5 = .ok (.ifCond .ne (5), 3) := by decide +kernel
theorem d_M_beside_8 : decode b_M_beside 8 = .ok (.iconst (-1), 1) := by decide +kernel
theorem d_M_beside_9 : decode b_M_beside 9 = .ok (.ireturn, 1) := by decide +kernel
theorem d_M_beside_10 : decode b_M_beside 10 = .ok (.aload_n 0, 1) := by decide +kernel
theorem d_M_beside_11 : decode b_M_beside 11 = .ok (.iload_n 1, 1) := by decide +kernel
theorem d_M_beside_12 : decode b_M_beside 12 = .ok (.invokevirtual 87, 3) := by decide +kernel
theorem d_M_beside_15 : decode b_M_beside 15 = .ok (.iconst 0, 1) := by decide +kernel
theorem d_M_beside_16 : decode b_M_beside 16 = .ok (.istore_n 2, 1) := by decide +kernel
theorem d_M_beside_17 : decode b_M_beside 17 = .ok (.iconst 0, 1) := by decide +kernel
theorem d_M_beside_18 : decode b_M_beside 18 = .ok (.istore_n 3, 1) := by decide +kernel
theorem d_M_beside_19 : decode b_M_beside 19 = .ok (.iload_n 3, 1) := by decide +kernel
theorem d_M_beside_20 : decode b_M_beside 20 = .ok (.aload_n 0, 1) := by decide +kernel
theorem d_M_beside_21 : decode b_M_beside 21 = .ok (.getfield 45, 3) := by decide +kernel
theorem d_M_beside_24 : decode b_M_beside 24 = .ok (.if_icmp .ge (109), 3) := by decide +kernel
theorem d_M_beside_27 : decode b_M_beside 27 = .ok (.iconst 0, 1) := by decide +kernel
theorem d_M_beside_28 : decode b_M_beside 28 = .ok (.istore 4, 2) := by decide +kernel
theorem d_M_beside_30 : decode b_M_beside 30 = .ok (.iconst 0, 1) := by decide +kernel
theorem d_M_beside_31 : decode b_M_beside 31 = .ok (.istore 5, 2) := by decide +kernel
theorem d_M_beside_33 : decode b_M_beside 33 = .ok (.iload 5, 2) := by decide +kernel
theorem d_M_beside_35 : decode b_M_beside 35 = .ok (.aload_n 0, 1) := by decide +kernel
theorem d_M_beside_36 : decode b_M_beside 36 = .ok (.getfield 51, 3) := by decide +kernel
theorem d_M_beside_39 : decode b_M_beside 39 = .ok (.if_icmp .ge (53), 3) := by decide +kernel
theorem d_M_beside_42 : decode b_M_beside 42 = .ok (.iload 4, 2) := by decide +kernel
theorem d_M_beside_44 : decode b_M_beside 44 = .ok (.ifCond .ne (35), 3) := by decide +kernel
theorem d_M_beside_47 : decode b_M_beside 47 = .ok (.aload_n 0, 1) := by decide +kernel
theorem d_M_beside_48 : decode b_M_beside 48 = .ok (.getfield 25, 3) := by decide +kernel
theorem d_M_beside_51 : decode b_M_beside 51 = .ok (.iload 5, 2) := by decide +kernel
theorem d_M_beside_53 : decode b_M_beside 53 = .ok (.iaload, 1) := by decide +kernel
theorem d_M_beside_54 : decode b_M_beside 54 = .ok (.aload_n 0, 1) := by decide +kernel
theorem d_M_beside_55 : decode b_M_beside 55 = .ok (.getfield 19, 3) := by decide +kernel
theorem d_M_beside_58 : decode b_M_beside 58 = .ok (.iload_n 3, 1) := by decide +kernel
theorem d_M_beside_59 : decode b_M_beside 59 = .ok (.iaload, 1) := by decide +kernel
theorem d_M_beside_60 : decode b_M_beside 60 = .ok (.if_icmp .ne (23), 3) := by decide +kernel
theorem d_M_beside_63 : decode b_M_beside 63 = .ok (.aload_n 0, 1) := by decide +kernel
theorem d_M_beside_64 : decode b_M_beside 64 = .ok (.getfield 28, 3) := by decide +kernel
theorem d_M_beside_67 : decode b_M_beside 67 = .ok (.iload 5, 2) := by decide +kernel
theorem d_M_beside_69 : decode b_M_beside 69 = .ok (.iaload, 1) := by decide +kernel
theorem d_M_beside_70 : decode b_M_beside 70 = .ok (.aload_n 0, 1) := by decide +kernel
theorem d_M_beside_71 : decode b_M_beside 71 = .ok (.getfield 22, 3) := by decide +kernel
theorem d_M_beside_74 : decode b_M_beside 74 = .ok (.iload_n 3, 1) := by decide +kernel
theorem d_M_beside_75 : decode b_M_beside 75 = .ok (.iaload, 1) := by decide +kernel
theorem d_M_beside_76 : decode b_M_beside 76 = .ok (.if_icmp .ne (7), 3) := by decide +kernel
theorem d_M_beside_79 : decode b_M_beside 79 = .ok (.iconst 1, 1) := by decide +kernel
theorem d_M_beside_80 : decode b_M_beside 80 = .ok (.goto (4), 3) := by decide +kernel
theorem d_M_beside_83 : decode b_M_beside 83 = .ok (.iconst 0, 1) := by decide +kernel
theorem d_M_beside_84 : decode b_M_beside 84 = .ok (.istore 4, 2) := by decide +kernel
theorem d_M_beside_86 : decode b_M_beside 86 = .ok (.iinc 5 (1), 3) := by decide +kernel
theorem d_M_beside_89 : decode b_M_beside 89 = .ok (.goto (-56), 3) := by decide +kernel
theorem d_M_beside_92 : decode b_M_beside 92 = .ok (.iload_n 2, 1) := by decide +kernel
theorem d_M_beside_93 : decode b_M_beside 93 = .ok (.iload 4, 2) := by decide +kernel
theorem d_M_beside_95 : decode b_M_beside 95 = .ok (.ifCond .ne (29), 3) := by decide +kernel
theorem d_M_beside_98 : decode b_M_beside 98 = .ok (.aload_n 0, 1) := by decide +kernel
theorem d_M_beside_99 : decode b_M_beside 99 = .ok (.aload_n 0, 1) := by decide +kernel
theorem d_M_beside_100 : decode b_M_beside 100 = .ok (.getfield 19, 3) := by decide +kernel
theorem d_M_beside_103 : decode b_M_beside 103 = .ok (.iload_n 3, 1) := by decide +kernel
theorem d_M_beside_104 : decode b_M_beside 104 = .ok (.iaload, 1) := by decide +kernel
theorem d_M_beside_105 : decode b_M_beside 105 = .ok (.i2l, 1) := by decide +kernel
theorem d_M_beside_106 : decode b_M_beside 106 = .ok (.aload_n 0, 1) := by decide +kernel
theorem d_M_beside_107 : decode b_M_beside 107 = .ok (.getfield 22, 3) := by decide +kernel
theorem d_M_beside_110 : decode b_M_beside 110 = .ok (.iload_n 3, 1) := by decide +kernel
theorem d_M_beside_111 : decode b_M_beside 111 = .ok (.iaload, 1) := by decide +kernel
theorem d_M_beside_112 : decode b_M_beside 112 = .ok (.i2l, 1) := by decide +kernel
theorem d_M_beside_113 : decode b_M_beside 113 = .ok (.invokevirtual 91, 3) := by decide +kernel
theorem d_M_beside_116 : decode b_M_beside 116 = .ok (.iconst 1, 1) := by decide +kernel
theorem d_M_beside_117 : decode b_M_beside 117 = .ok (.if_icmp .ne (7), 3) := by decide +kernel
theorem d_M_beside_120 : decode b_M_beside 120 = .ok (.iconst 1, 1) := by decide +kernel
theorem d_M_beside_121 : decode b_M_beside 121 = .ok (.goto (4), 3) := by decide +kernel
theorem d_M_beside_124 : decode b_M_beside 124 = .ok (.iconst 0, 1) := by decide +kernel
theorem d_M_beside_125 : decode b_M_beside 125 = .ok (.iadd, 1) := by decide +kernel
theorem d_M_beside_126 : decode b_M_beside 126 = .ok (.istore_n 2, 1) := by decide +kernel
theorem d_M_beside_127 : decode b_M_beside 127 = .ok (.iinc 3 (1), 3) := by decide +kernel
theorem d_M_beside_130 : decode b_M_beside 130 = .ok (.goto (-111), 3) := by decide +kernel
theorem d_M_beside_133 : decode b_M_beside 133 = .ok (.iload_n 2, 1) := by decide +kernel
theorem d_M_beside_134 : decode b_M_beside 134 = .ok (.ireturn, 1) := by decide +kernel
theorem d_M_area_0 : decode b_M_area 0 = .ok (.aload_n 0, 1) := by decide +kernel
theorem d_M_area_1 : decode b_M_area 1 = .ok (.iload_n 1, 1) := by decide +kernel
theorem d_M_area_2 : decode b_M_area 2 = .ok (.invokevirtual 79, 3) := by decide +kernel
theorem d_M_area_5 : decode b_M_area 5 = .ok (.ifCond .ne (5), 3) := by decide +kernel
theorem d_M_area_8 : decode b_M_area 8 = .ok (.iconst (-1), 1) := by decide +kernel
theorem d_M_area_9 : decode b_M_area 9 = .ok (.ireturn, 1) := by decide +kernel
theorem d_M_area_10 : decode b_M_area 10 = .ok (.aload_n 0, 1) := by decide +kernel
theorem d_M_area_11 : decode b_M_area 11 = .ok (.iload_n 1, 1) := by decide +kernel
theorem d_M_area_12 : decode b_M_area 12 = .ok (.invokevirtual 87, 3) := by decide +kernel
theorem d_M_area_15 : decode b_M_area 15 = .ok (.aload_n 0, 1) := by decide +kernel
theorem d_M_area_16 : decode b_M_area 16 = .ok (.invokevirtual 95, 3) := by decide +kernel
theorem d_M_area_19 : decode b_M_area 19 = .ok (.l2i, 1) := by decide +kernel
theorem d_M_area_20 : decode b_M_area 20 = .ok (.ireturn, 1) := by decide +kernel
theorem d_M_borderOf_0 : decode b_M_borderOf 0 = .ok (.aload_n 0, 1) := by decide +kernel
theorem d_M_borderOf_1 : decode b_M_borderOf 1 = .ok (.getfield 51, 3) := by decide +kernel
theorem d_M_borderOf_4 : decode b_M_borderOf 4 = .ok (.iconst 2, 1) := by decide +kernel
theorem d_M_borderOf_5 : decode b_M_borderOf 5 = .ok (.if_icmp .ge (8), 3) := by decide +kernel
theorem d_M_borderOf_8 : decode b_M_borderOf 8 = .ok (.aload_n 0, 1) := by decide +kernel
theorem d_M_borderOf_9 : decode b_M_borderOf 9 = .ok (.getfield 51, 3) := by decide +kernel
theorem d_M_borderOf_12 : decode b_M_borderOf 12 = .ok (.ireturn, 1) := by decide +kernel
theorem d_M_borderOf_13 : decode b_M_borderOf 13 = .ok (.lconst 0, 1) := by decide +kernel
theorem d_M_borderOf_14 : decode b_M_borderOf 14 = .ok (.lstore_n 1, 1) := by decide +kernel
theorem d_M_borderOf_15 : decode b_M_borderOf 15 = .ok (.iconst 0, 1) := by decide +kernel
theorem d_M_borderOf_16 : decode b_M_borderOf 16 = .ok (.istore_n 3, 1) := by decide +kernel
theorem d_M_borderOf_17 : decode b_M_borderOf 17 = .ok (.iload_n 3, 1) := by decide +kernel
theorem d_M_borderOf_18 : decode b_M_borderOf 18 = .ok (.aload_n 0, 1) := by decide +kernel
theorem d_M_borderOf_19 : decode b_M_borderOf 19 = .ok (.getfield 51, 3) := by decide +kernel
theorem d_M_borderOf_22 : decode b_M_borderOf 22 = .ok (.if_icmp .ge (51), 3) := by decide +kernel
theorem d_M_borderOf_25 : decode b_M_borderOf 25 = .ok (.lload_n 1, 1) := by decide +kernel
theorem d_M_borderOf_26 : decode b_M_borderOf 26 = .ok (.aload_n 0, 1) := by decide +kernel
theorem d_M_borderOf_27 : decode b_M_borderOf 27 = .ok (.getfield 25, 3) := by decide +kernel
theorem d_M_borderOf_30 : decode b_M_borderOf 30 = .ok (.aload_n 0, 1) := by decide +kernel
theorem d_M_borderOf_31 : decode b_M_borderOf 31 = .ok (.iload_n 3, 1) := by decide +kernel
theorem d_M_borderOf_32 : decode b_M_borderOf 32 = .ok (.invokevirtual 66, 3) := by decide +kernel
theorem d_M_borderOf_35 : decode b_M_borderOf 35 = .ok (.iaload, 1) := by decide +kernel
theorem d_M_borderOf_36 : decode b_M_borderOf 36 = .ok (.aload_n 0, 1) := by decide +kernel
theorem d_M_borderOf_37 : decode b_M_borderOf 37 = .ok (.getfield 25, 3) := by decide +kernel
theorem d_M_borderOf_40 : decode b_M_borderOf 40 = .ok (.iload_n 3, 1) := by decide +kernel
theorem d_M_borderOf_41 : decode b_M_borderOf 41 = .ok (.iaload, 1) := by decide +kernel
theorem d_M_borderOf_42 : decode b_M_borderOf 42 = .ok (.isub, 1) := by decide +kernel
theorem d_M_borderOf_43 : decode b_M_borderOf 43 = .ok (.i2l, 1) := by decide +kernel
theorem d_M_borderOf_44 : decode b_M_borderOf 44 = .ok (.aload_n 0, 1) := by decide +kernel
theorem d_M_borderOf_45 : decode b_M_borderOf 45 = .ok (.getfield 28, 3) := by decide +kernel
theorem d_M_borderOf_48 : decode b_M_borderOf 48 = .ok (.aload_n 0, 1) := by decide +kernel
theorem d_M_borderOf_49 : decode b_M_borderOf 49 = .ok (.iload_n 3, 1) := by decide +kernel
theorem d_M_borderOf_50 : decode b_M_borderOf 50 = .ok (.invokevirtual 66, 3) := by decide +kernel
theorem d_M_borderOf_53 : decode b_M_borderOf 53 = .ok (.iaload, 1) := by decide +kernel
theorem d_M_borderOf_54 : decode b_M_borderOf 54 = .ok (.aload_n 0, 1) := by decide +kernel
theorem d_M_borderOf_55 : decode b_M_borderOf 55 = .ok (.getfield 28, 3) := by decide +kernel
theorem d_M_borderOf_58 : decode b_M_borderOf 58 = .ok (.iload_n 3, 1) := by decide +kernel
theorem d_M_borderOf_59 : decode b_M_borderOf 59 = .ok (.iaload, 1) := by decide +kernel
theorem d_M_borderOf_60 : decode b_M_borderOf 60 = .ok (.isub, 1) := by decide +kernel
theorem d_M_borderOf_61 : decode b_M_borderOf 61 = .ok (.i2l, 1) := by decide +kernel
theorem d_M_borderOf_62 : decode b_M_borderOf 62 = .ok (.invokestatic 73, 3) := by decide +kernel
theorem d_M_borderOf_65 : decode b_M_borderOf 65 = .ok (.ladd, 1) := by decide +kernel
theorem d_M_borderOf_66 : decode b_M_borderOf 66 = .ok (.lstore_n 1, 1) := by decide +kernel
theorem d_M_borderOf_67 : decode b_M_borderOf 67 = .ok (.iinc 3 (1), 3) := by decide +kernel
theorem d_M_borderOf_70 : decode b_M_borderOf 70 = .ok (.goto (-53), 3) := by decide +kernel
theorem d_M_borderOf_73 : decode b_M_borderOf 73 = .ok (.aload_n 0, 1) := by decide +kernel
theorem d_M_borderOf_74 : decode b_M_borderOf 74 = .ok (.getfield 51, 3) := by decide +kernel
theorem d_M_borderOf_77 : decode b_M_borderOf 77 = .ok (.iconst 2, 1) := by decide +kernel
theorem d_M_borderOf_78 : decode b_M_borderOf 78 = .ok (.if_icmp .ne (13), 3) := by decide +kernel
theorem d_M_borderOf_81 : decode b_M_borderOf 81 = .ok (.lload_n 1, 1) := by decide +kernel
theorem d_M_borderOf_82 : decode b_M_borderOf 82 = .ok (.ldc2_w 99, 3) := by decide +kernel
theorem d_M_borderOf_85 : decode b_M_borderOf 85 = .ok (.ldiv, 1) := by decide +kernel
theorem d_M_borderOf_86 : decode b_M_borderOf 86 = .ok (.lconst 1, 1) := by decide +kernel
theorem d_M_borderOf_87 : decode b_M_borderOf 87 = .ok (.ladd, 1) := by decide +kernel
theorem d_M_borderOf_88 : decode b_M_borderOf 88 = .ok (.goto (4), 3) := by decide +kernel
theorem d_M_borderOf_91 : decode b_M_borderOf 91 = .ok (.lload_n 1, 1) := by decide +kernel
theorem d_M_borderOf_92 : decode b_M_borderOf 92 = .ok (.l2i, 1) := by decide +kernel
theorem d_M_borderOf_93 : decode b_M_borderOf 93 = .ok (.ireturn, 1) := by decide +kernel
theorem d_M_part_0 : decode b_M_part 0 = .ok (.lload_n 0, 1) := by decide +kernel
theorem d_M_part_1 : decode b_M_part 1 = .ok (.lload_n 2, 1) := by decide +kernel
theorem d_M_part_2 : decode b_M_part 2 = .ok (.ldiv, 1) := by decide +kernel
theorem d_M_part_3 : decode b_M_part 3 = .ok (.lstore 5, 2) := by decide +kernel
theorem d_M_part_5 : decode b_M_part 5 = .ok (.lload_n 0, 1) := by decide +kernel
theorem d_M_part_6 : decode b_M_part 6 = .ok (.lload 5, 2) := by decide +kernel
theorem d_M_part_8 : decode b_M_part 8 = .ok (.lload_n 2, 1) := by decide +kernel
theorem d_M_part_9 : decode b_M_part 9 = .ok (.lmul, 1) := by decide +kernel
theorem d_M_part_10 : decode b_M_part 10 = .ok (.lsub, 1) := by decide +kernel
theorem d_M_part_11 : decode b_M_part 11 = .ok (.lstore 7, 2) := by decide +kernel
theorem d_M_part_13 : decode b_M_part 13 = .ok (.iload 4, 2) := by decide +kernel
theorem d_M_part_15 : decode b_M_part 15 = .ok (.ifCond .eq (22), 3) := by decide +kernel
theorem d_M_part_18 : decode b_M_part 18 = .ok (.lload 7, 2) := by decide +kernel
theorem d_M_part_20 : decode b_M_part 20 = .ok (.lconst 0, 1) := by decide +kernel
theorem d_M_part_21 : decode b_M_part 21 = .ok (.lcmp, 1) := by decide +kernel
theorem d_M_part_22 : decode b_M_part 22 = .ok (.ifCond .le (10), 3) := by decide +kernel
theorem d_M_part_25 : decode b_M_part 25 = .ok (.lload 5, 2) := by decide +kernel
theorem d_M_part_27 : decode b_M_part 27 = .ok (.lconst 1, 1) := by decide +kernel
theorem d_M_part_28 : decode b_M_part 28 = .ok (.ladd, 1) := by decide +kernel
theorem d_M_part_29 : decode b_M_part 29 = .ok (.goto (24), 3) := by decide +kernel
theorem d_M_part_32 : decode b_M_part 32 = .ok (.lload 5, 2) := by decide +kernel
theorem d_M_part_34 : decode b_M_part 34 = .ok (.goto (19), 3) := by decide +kernel
theorem d_M_part_37 : decode b_M_part 37 = .ok (.lload 7, 2) := by decide +kernel
theorem d_M_part_39 : decode b_M_part 39 = .ok (.lconst 0, 1) := by decide +kernel
theorem d_M_part_40 : decode b_M_part 40 = .ok (.lcmp, 1) := by decide +kernel
theorem d_M_part_41 : decode b_M_part 41 = .ok (.ifCond .ge (10), 3) := by decide +kernel
theorem d_M_part_44 : decode b_M_part 44 = .ok (.lload 5, 2) := by decide +kernel
theorem d_M_part_46 : decode b_M_part 46 = .ok (.lconst 1, 1) := by decide +kernel
theorem d_M_part_47 : decode b_M_part 47 = .ok (.lsub, 1) := by decide +kernel
theorem d_M_part_48 : decode b_M_part 48 = .ok (.goto (5), 3) := by decide +kernel
theorem d_M_part_51 : decode b_M_part 51 = .ok (.lload 5, 2) := by decide +kernel
theorem d_M_part_53 : decode b_M_part 53 = .ok (.lreturn, 1) := by decide +kernel
theorem d_M_row_0 : decode b_M_row 0 = .ok (.iload 4, 2) := by decide +kernel
theorem d_M_row_2 : decode b_M_row 2 = .ok (.i2l, 1) := by decide +kernel
theorem d_M_row_3 : decode b_M_row 3 = .ok (.aload_n 0, 1) := by decide +kernel
theorem d_M_row_4 : decode b_M_row 4 = .ok (.getfield 25, 3) := by decide +kernel
theorem d_M_row_7 : decode b_M_row 7 = .ok (.iload_n 1, 1) := by decide +kernel
theorem d_M_row_8 : decode b_M_row 8 = .ok (.iaload, 1) := by decide +kernel
theorem d_M_row_9 : decode b_M_row 9 = .ok (.i2l, 1) := by decide +kernel
theorem d_M_row_10 : decode b_M_row 10 = .ok (.lmul, 1) := by decide +kernel
theorem d_M_row_11 : decode b_M_row 11 = .ok (.lstore 5, 2) := by decide +kernel
theorem d_M_row_13 : decode b_M_row 13 = .ok (.iload 4, 2) := by decide +kernel
theorem d_M_row_15 : decode b_M_row 15 = .ok (.i2l, 1) := by decide +kernel
theorem d_M_row_16 : decode b_M_row 16 = .ok (.aload_n 0, 1) := by decide +kernel
theorem d_M_row_17 : decode b_M_row 17 = .ok (.getfield 28, 3) := by decide +kernel
theorem d_M_row_20 : decode b_M_row 20 = .ok (.iload_n 1, 1) := by decide +kernel
theorem d_M_row_21 : decode b_M_row 21 = .ok (.iaload, 1) := by decide +kernel
theorem d_M_row_22 : decode b_M_row 22 = .ok (.i2l, 1) := by decide +kernel
theorem d_M_row_23 : decode b_M_row 23 = .ok (.lmul, 1) := by decide +kernel
theorem d_M_row_24 : decode b_M_row 24 = .ok (.lstore 7, 2) := by decide +kernel
theorem d_M_row_26 : decode b_M_row 26 = .ok (.iload 4, 2) := by decide +kernel
theorem d_M_row_28 : decode b_M_row 28 = .ok (.i2l, 1) := by decide +kernel
theorem d_M_row_29 : decode b_M_row 29 = .ok (.aload_n 0, 1) := by decide +kernel
theorem d_M_row_30 : decode b_M_row 30 = .ok (.getfield 25, 3) := by decide +kernel
theorem d_M_row_33 : decode b_M_row 33 = .ok (.aload_n 0, 1) := by decide +kernel
theorem d_M_row_34 : decode b_M_row 34 = .ok (.iload_n 1, 1) := by decide +kernel
theorem d_M_row_35 : decode b_M_row 35 = .ok (.invokevirtual 66, 3) := by decide +kernel
theorem d_M_row_38 : decode b_M_row 38 = .ok (.iaload, 1) := by decide +kernel
theorem d_M_row_39 : decode b_M_row 39 = .ok (.i2l, 1) := by decide +kernel
theorem d_M_row_40 : decode b_M_row 40 = .ok (.lmul, 1) := by decide +kernel
theorem d_M_row_41 : decode b_M_row 41 = .ok (.lstore 9, 2) := by decide +kernel
theorem d_M_row_43 : decode b_M_row 43 = .ok (.iload 4, 2) := by decide +kernel
theorem d_M_row_45 : decode b_M_row 45 = .ok (.i2l, 1) := by decide +kernel
theorem d_M_row_46 : decode b_M_row 46 = .ok (.aload_n 0, 1) := by decide +kernel
theorem d_M_row_47 : decode b_M_row 47 = .ok (.getfield 28, 3) := by decide +kernel
theorem d_M_row_50 : decode b_M_row 50 = .ok (.aload_n 0, 1) := by decide +kernel
theorem d_M_row_51 : decode b_M_row 51 = .ok (.iload_n 1, 1) := by decide +kernel
theorem d_M_row_52 : decode b_M_row 52 = .ok (.invokevirtual 66, 3) := by decide +kernel
theorem d_M_row_55 : decode b_M_row 55 = .ok (.iaload, 1) := by decide +kernel
theorem d_M_row_56 : decode b_M_row 56 = .ok (.i2l, 1) := by decide +kernel
theorem d_M_row_57 : decode b_M_row 57 = .ok (.lmul, 1) := by decide +kernel
theorem d_M_row_58 : decode b_M_row 58 = .ok (.lstore 11, 2) := by decide +kernel
theorem d_M_row_60 : decode b_M_row 60 = .ok (.lload 7, 2) := by decide +kernel
theorem d_M_row_62 : decode b_M_row 62 = .ok (.lload 11, 2) := by decide +kernel
theorem d_M_row_64 : decode b_M_row 64 = .ok (.lcmp, 1) := by decide +kernel
theorem d_M_row_65 : decode b_M_row 65 = .ok (.ifCond .le (27), 3) := by decide +kernel
theorem d_M_row_68 : decode b_M_row 68 = .ok (.lload 5, 2) := by decide +kernel
theorem d_M_row_70 : decode b_M_row 70 = .ok (.lstore 13, 2) := by decide +kernel
theorem d_M_row_72 : decode b_M_row 72 = .ok (.lload 9, 2) := by decide +kernel
theorem d_M_row_74 : decode b_M_row 74 = .ok (.lstore 5, 2) := by decide +kernel
theorem d_M_row_76 : decode b_M_row 76 = .ok (.lload 13, 2) := by decide +kernel
theorem d_M_row_78 : decode b_M_row 78 = .ok (.lstore 9, 2) := by decide +kernel
theorem d_M_row_80 : decode b_M_row 80 = .ok (.lload 7, 2) := by decide +kernel
theorem d_M_row_82 : decode b_M_row 82 = .ok (.lstore 13, 2) := by decide +kernel
theorem d_M_row_84 : decode b_M_row 84 = .ok (.lload 11, 2) := by decide +kernel
theorem d_M_row_86 : decode b_M_row 86 = .ok (.lstore 7, 2) := by decide +kernel
theorem d_M_row_88 : decode b_M_row 88 = .ok (.lload 13, 2) := by decide +kernel
theorem d_M_row_90 : decode b_M_row 90 = .ok (.lstore 11, 2) := by decide +kernel
theorem d_M_row_92 : decode b_M_row 92 = .ok (.lload_n 2, 1) := by decide +kernel
theorem d_M_row_93 : decode b_M_row 93 = .ok (.lload 7, 2) := by decide +kernel
theorem d_M_row_95 : decode b_M_row 95 = .ok (.lcmp, 1) := by decide +kernel
theorem d_M_row_96 : decode b_M_row 96 = .ok (.ifCond .lt (10), 3) := by decide +kernel
theorem d_M_row_99 : decode b_M_row 99 = .ok (.lload_n 2, 1) := by decide +kernel
theorem d_M_row_100 : decode b_M_row 100 = .ok (.lload 11, 2) := by decide +kernel
theorem d_M_row_102 : decode b_M_row 102 = .ok (.lcmp, 1) := by decide +kernel
theorem d_M_row_103 : decode b_M_row 103 = .ok (.ifCond .le (4), 3) := by decide +kernel
theorem d_M_row_106 : decode b_M_row 106 = .ok (.return_, 1) := by decide +kernel
theorem d_M_row_107 : decode b_M_row 107 = .ok (.lload 7, 2) := by decide +kernel
theorem d_M_row_109 : decode b_M_row 109 = .ok (.lload 11, 2) := by decide +kernel
theorem d_M_row_111 : decode b_M_row 111 = .ok (.lcmp, 1) := by decide +kernel
theorem d_M_row_112 : decode b_M_row 112 = .ok (.ifCond .ne (20), 3) := by decide +kernel
theorem d_M_row_115 : decode b_M_row 115 = .ok (.aload_n 0, 1) := by decide +kernel
theorem d_M_row_116 : decode b_M_row 116 = .ok (.lload 5, 2) := by decide +kernel
theorem d_M_row_118 : decode b_M_row 118 = .ok (.lload 5, 2) := by decide +kernel
theorem d_M_row_120 : decode b_M_row 120 = .ok (.invokevirtual 101, 3) := by decide +kernel
theorem d_M_row_123 : decode b_M_row 123 = .ok (.aload_n 0, 1) := by decide +kernel
theorem d_M_row_124 : decode b_M_row 124 = .ok (.lload 9, 2) := by decide +kernel
theorem d_M_row_126 : decode b_M_row 126 = .ok (.lload 9, 2) := by decide +kernel
theorem d_M_row_128 : decode b_M_row 128 = .ok (.invokevirtual 101, 3) := by decide +kernel
theorem d_M_row_131 : decode b_M_row 131 = .ok (.return_, 1) := by decide +kernel
theorem d_M_row_132 : decode b_M_row 132 = .ok (.lload 9, 2) := by decide +kernel
theorem d_M_row_134 : decode b_M_row 134 = .ok (.lload 5, 2) := by decide +kernel
theorem d_M_row_136 : decode b_M_row 136 = .ok (.lsub, 1) := by decide +kernel
theorem d_M_row_137 : decode b_M_row 137 = .ok (.lload_n 2, 1) := by decide +kernel
theorem d_M_row_138 : decode b_M_row 138 = .ok (.lload 7, 2) := by decide +kernel
theorem d_M_row_140 : decode b_M_row 140 = .ok (.lsub, 1) := by decide +kernel
theorem d_M_row_141 : decode b_M_row 141 = .ok (.lmul, 1) := by decide +kernel
theorem d_M_row_142 : decode b_M_row 142 = .ok (.lstore 13, 2) := by decide +kernel
theorem d_M_row_144 : decode b_M_row 144 = .ok (.aload_n 0, 1) := by decide +kernel
theorem d_M_row_145 : decode b_M_row 145 = .ok (.lload 5, 2) := by decide +kernel
theorem d_M_row_147 : decode b_M_row 147 = .ok (.lload 13, 2) := by decide +kernel
theorem d_M_row_149 : decode b_M_row 149 = .ok (.lload 11, 2) := by decide +kernel
theorem d_M_row_151 : decode b_M_row 151 = .ok (.lload 7, 2) := by decide +kernel
theorem d_M_row_153 : decode b_M_row 153 = .ok (.lsub, 1) := by decide +kernel
theorem d_M_row_154 : decode b_M_row 154 = .ok (.iconst 1, 1) := by decide +kernel
theorem d_M_row_155 : decode b_M_row 155 = .ok (.invokestatic 105, 3) := by decide +kernel
theorem d_M_row_158 : decode b_M_row 158 = .ok (.ladd, 1) := by decide +kernel
theorem d_M_row_159 : decode b_M_row 159 = .ok (.lload 5, 2) := by decide +kernel
theorem d_M_row_161 : decode b_M_row 161 = .ok (.lload 13, 2) := by decide +kernel
theorem d_M_row_163 : decode b_M_row 163 = .ok (.lload 11, 2) := by decide +kernel
theorem d_M_row_165 : decode b_M_row 165 = .ok (.lload 7, 2) := by decide +kernel
theorem d_M_row_167 : decode b_M_row 167 = .ok (.lsub, 1) := by decide +kernel
theorem d_M_row_168 : decode b_M_row 168 = .ok (.iconst 0, 1) := by decide +kernel
theorem d_M_row_169 : decode b_M_row 169 = .ok (.invokestatic 105, 3) := by decide +kernel
theorem d_M_row_172 : decode b_M_row 172 = .ok (.ladd, 1) := by decide +kernel
theorem d_M_row_173 : decode b_M_row 173 = .ok (.invokevirtual 101, 3) := by decide +kernel
theorem d_M_row_176 : decode b_M_row 176 = .ok (.return_, 1) := by decide +kernel
theorem d_M_see_0 : decode b_M_see 0 = .ok (.aload_n 0, 1) := by decide +kernel
theorem d_M_see_1 : decode b_M_see 1 = .ok (.lload_n 1, 1) := by decide +kernel
theorem d_M_see_2 : decode b_M_see 2 = .ok (.aload_n 0, 1) := by decide +kernel
theorem d_M_see_3 : decode b_M_see 3 = .ok (.getfield 109, 3) := by decide +kernel
theorem d_M_see_6 : decode b_M_see 6 = .ok (.lcmp, 1) := by decide +kernel
theorem d_M_see_7 : decode b_M_see 7 = .ok (.ifCond .ge (7), 3) := by decide +kernel
theorem d_M_see_10 : decode b_M_see 10 = .ok (.lload_n 1, 1) := by decide +kernel
theorem d_M_see_11 : decode b_M_see 11 = .ok (.goto (7), 3) := by decide +kernel
theorem d_M_see_14 : decode b_M_see 14 = .ok (.aload_n 0, 1) := by decide +kernel
theorem d_M_see_15 : decode b_M_see 15 = .ok (.getfield 109, 3) := by decide +kernel
theorem d_M_see_18 : decode b_M_see 18 = .ok (.putfield 109, 3) := by decide +kernel
theorem d_M_see_21 : decode b_M_see 21 = .ok (.aload_n 0, 1) := by decide +kernel
theorem d_M_see_22 : decode b_M_see 22 = .ok (.lload_n 3, 1) := by decide +kernel
theorem d_M_see_23 : decode b_M_see 23 = .ok (.aload_n 0, 1) := by decide +kernel
theorem d_M_see_24 : decode b_M_see 24 = .ok (.getfield 112, 3) := by decide +kernel
theorem d_M_see_27 : decode b_M_see 27 = .ok (.lcmp, 1) := by decide +kernel
theorem d_M_see_28 : decode b_M_see 28 = .ok (.ifCond .le (7), 3) := by decide +kernel
theorem d_M_see_31 : decode b_M_see 31 = .ok (.lload_n 3, 1) := by decide +kernel
theorem d_M_see_32 : decode b_M_see 32 = .ok (.goto (7), 3) := by decide +kernel
theorem d_M_see_35 : decode b_M_see 35 = .ok (.aload_n 0, 1) := by decide +kernel
theorem d_M_see_36 : decode b_M_see 36 = .ok (.getfield 112, 3) := by decide +kernel
theorem d_M_see_39 : decode b_M_see 39 = .ok (.putfield 112, 3) := by decide +kernel
theorem d_M_see_42 : decode b_M_see 42 = .ok (.return_, 1) := by decide +kernel
theorem d_M_allPoints_0 : decode b_M_allPoints 0 = .ok (.lconst 0, 1) := by decide +kernel
theorem d_M_allPoints_1 : decode b_M_allPoints 1 = .ok (.lstore_n 2, 1) := by decide +kernel
theorem d_M_allPoints_2 : decode b_M_allPoints 2 = .ok (.aload_n 0, 1) := by decide +kernel
theorem d_M_allPoints_3 : decode b_M_allPoints 3 = .ok (.getfield 51, 3) := by decide +kernel
theorem d_M_allPoints_6 : decode b_M_allPoints 6 = .ok (.ifCond .ne (5), 3) := by decide +kernel
theorem d_M_allPoints_9 : decode b_M_allPoints 9 = .ok (.iconst 0, 1) := by decide +kernel
theorem d_M_allPoints_10 : decode b_M_allPoints 10 = .ok (.ireturn, 1) := by decide +kernel
theorem d_M_allPoints_11 : decode b_M_allPoints 11 = .ok (.iload_n 1, 1) := by decide +kernel
theorem d_M_allPoints_12 : decode b_M_allPoints 12 = .ok (.i2l, 1) := by decide +kernel
theorem d_M_allPoints_13 : decode b_M_allPoints 13 = .ok (.aload_n 0, 1) := by decide +kernel
theorem d_M_allPoints_14 : decode b_M_allPoints 14 = .ok (.getfield 28, 3) := by decide +kernel
theorem d_M_allPoints_17 : decode b_M_allPoints 17 = .ok (.iconst 0, 1) := by decide +kernel
theorem d_M_allPoints_18 : decode b_M_allPoints 18 = .ok (.iaload, 1) := by decide +kernel
theorem d_M_allPoints_19 : decode b_M_allPoints 19 = .ok (.i2l, 1) := by decide +kernel
theorem d_M_allPoints_20 : decode b_M_allPoints 20 = .ok (.lmul, 1) := by decide +kernel
theorem d_M_allPoints_21 : decode b_M_allPoints 21 = .ok (.lstore 4, 2) := by decide +kernel
theorem d_M_allPoints_23 : decode b_M_allPoints 23 = .ok (.lload 4, 2) := by decide +kernel
theorem d_M_allPoints_25 : decode b_M_allPoints 25 = .ok (.lstore 6, 2) := by decide +kernel
theorem d_M_allPoints_27 : decode b_M_allPoints 27 = .ok (.iconst 0, 1) := by decide +kernel
theorem d_M_allPoints_28 : decode b_M_allPoints 28 = .ok (.istore 8, 2) := by decide +kernel
theorem d_M_allPoints_30 : decode b_M_allPoints 30 = .ok (.iload 8, 2) := by decide +kernel
theorem d_M_allPoints_32 : decode b_M_allPoints 32 = .ok (.aload_n 0, 1) := by decide +kernel
theorem d_M_allPoints_33 : decode b_M_allPoints 33 = .ok (.getfield 51, 3) := by decide +kernel
theorem d_M_allPoints_36 : decode b_M_allPoints 36 = .ok (.if_icmp .ge (56), 3) := by decide +kernel
theorem d_M_allPoints_39 : decode b_M_allPoints 39 = .ok (.iload_n 1, 1) := by decide +kernel
theorem d_M_allPoints_40 : decode b_M_allPoints 40 = .ok (.i2l, 1) := by decide +kernel
theorem d_M_allPoints_41 : decode b_M_allPoints 41 = .ok (.aload_n 0, 1) := by decide +kernel
theorem d_M_allPoints_42 : decode b_M_allPoints 42 = .ok (.getfield 28, 3) := by decide +kernel
theorem d_M_allPoints_45 : decode b_M_allPoints 45 = .ok (.iload 8, 2) := by decide +kernel
theorem d_M_allPoints_47 : decode b_M_allPoints 47 = .ok (.iaload, 1) := by decide +kernel
theorem d_M_allPoints_48 : decode b_M_allPoints 48 = .ok (.i2l, 1) := by decide +kernel
theorem d_M_allPoints_49 : decode b_M_allPoints 49 = .ok (.lmul, 1) := by decide +kernel
theorem d_M_allPoints_50 : decode b_M_allPoints 50 = .ok (.lstore 9, 2) := by decide +kernel
theorem d_M_allPoints_52 : decode b_M_allPoints 52 = .ok (.lload 9, 2) := by decide +kernel
theorem d_M_allPoints_54 : decode b_M_allPoints 54 = .ok (.lload 4, 2) := by decide +kernel
theorem d_M_allPoints_56 : decode b_M_allPoints 56 = .ok (.lcmp, 1) := by decide +kernel
theorem d_M_allPoints_57 : decode b_M_allPoints 57 = .ok (.ifCond .ge (8), 3) := by decide +kernel
theorem d_M_allPoints_60 : decode b_M_allPoints 60 = .ok (.lload 9, 2) := by decide +kernel
theorem d_M_allPoints_62 : decode b_M_allPoints 62 = .ok (.goto (5), 3) := by decide +kernel
theorem d_M_allPoints_65 : decode b_M_allPoints 65 = .ok (.lload 4, 2) := by decide +kernel
theorem d_M_allPoints_67 : decode b_M_allPoints 67 = .ok (.lstore 4, 2) := by decide +kernel
theorem d_M_allPoints_69 : decode b_M_allPoints 69 = .ok (.lload 9, 2) := by decide +kernel
theorem d_M_allPoints_71 : decode b_M_allPoints 71 = .ok (.lload 6, 2) := by decide +kernel
theorem d_M_allPoints_73 : decode b_M_allPoints 73 = .ok (.lcmp, 1) := by decide +kernel
theorem d_M_allPoints_74 : decode b_M_allPoints 74 = .ok (.ifCond .le (8), 3) := by decide +kernel
theorem d_M_allPoints_77 : decode b_M_allPoints 77 = .ok (.lload 9, 2) := by decide +kernel
theorem d_M_allPoints_79 : decode b_M_allPoints 79 = .ok (.goto (5), 3) := by decide +kernel
theorem d_M_allPoints_82 : decode b_M_allPoints 82 = .ok (.lload 6, 2) := by decide +kernel
theorem d_M_allPoints_84 : decode b_M_allPoints 84 = .ok (.lstore 6, 2) := by decide +kernel
theorem d_M_allPoints_86 : decode b_M_allPoints 86 = .ok (.iinc 8 (1), 3) := by decide +kernel
theorem d_M_allPoints_89 : decode b_M_allPoints 89 = .ok (.goto (-59), 3) := by decide +kernel
theorem d_M_allPoints_92 : decode b_M_allPoints 92 = .ok (.lload 4, 2) := by decide +kernel
theorem d_M_allPoints_94 : decode b_M_allPoints 94 = .ok (.lstore 8, 2) := by decide +kernel
theorem d_M_allPoints_96 : decode b_M_allPoints 96 = .ok (.lload 8, 2) := by decide +kernel
theorem d_M_allPoints_98 : decode b_M_allPoints 98 = .ok (.lload 6, 2) := by decide +kernel
theorem d_M_allPoints_100 : decode b_M_allPoints 100 = .ok (.lcmp, 1) := by decide +kernel
theorem d_M_allPoints_101 : decode b_M_allPoints 101 = .ok (.ifCond .gt (83), 3) := by decide +kernel
theorem d_M_allPoints_104 : decode b_M_allPoints 104 = .ok (.aload_n 0, 1) := by decide +kernel
theorem d_M_allPoints_105 : decode b_M_allPoints 105 = .ok (.ldc2_w 115, 3) := by decide +kernel
theorem d_M_allPoints_108 : decode b_M_allPoints 108 = .ok (.putfield 109, 3) := by decide +kernel
theorem d_M_allPoints_111 : decode b_M_allPoints 111 = .ok (.aload_n 0, 1) := by decide +kernel
theorem d_M_allPoints_112 : decode b_M_allPoints 112 = .ok (.ldc2_w 117, 3) := by decide +kernel
theorem d_M_allPoints_115 : decode b_M_allPoints 115 = .ok (.putfield 112, 3) := by decide +kernel
theorem d_M_allPoints_118 : decode b_M_allPoints 118 = .ok (.iconst 0, 1) := by decide +kernel
theorem d_M_allPoints_119 : decode b_M_allPoints 119 = .ok (.istore 10, 2) := by decide +kernel
theorem d_M_allPoints_121 : decode b_M_allPoints 121 = .ok (.iload 10, 2) := by decide +kernel
theorem d_M_allPoints_123 : decode b_M_allPoints 123 = .ok (.aload_n 0, 1) := by decide +kernel
theorem d_M_allPoints_124 : decode b_M_allPoints 124 = .ok (.getfield 51, 3) := by decide +kernel
theorem d_M_allPoints_127 : decode b_M_allPoints 127 = .ok (.if_icmp .ge (18), 3) := by decide +kernel
theorem d_M_allPoints_130 : decode b_M_allPoints 130 = .ok (.aload_n 0, 1) := by decide +kernel
theorem d_M_allPoints_131 : decode b_M_allPoints 131 = .ok (.iload 10, 2) := by decide +kernel
theorem d_M_allPoints_133 : decode b_M_allPoints 133 = .ok (.lload 8, 2) := by decide +kernel
theorem d_M_allPoints_135 : decode b_M_allPoints 135 = .ok (.iload_n 1, 1) := by decide +kernel
theorem d_M_allPoints_136 : decode b_M_allPoints 136 = .ok (.invokevirtual 119, 3) := by decide +kernel
theorem d_M_allPoints_139 : decode b_M_allPoints 139 = .ok (.iinc 10 (1), 3) := by decide +kernel
theorem d_M_allPoints_142 : decode b_M_allPoints 142 = .ok (.goto (-21), 3) := by decide +kernel
theorem d_M_allPoints_145 : decode b_M_allPoints 145 = .ok (.lload_n 2, 1) := by decide +kernel
theorem d_M_allPoints_146 : decode b_M_allPoints 146 = .ok (.aload_n 0, 1) := by decide +kernel
theorem d_M_allPoints_147 : decode b_M_allPoints 147 = .ok (.getfield 112, 3) := by decide +kernel
theorem d_M_allPoints_150 : decode b_M_allPoints 150 = .ok (.aload_n 0, 1) := by decide +kernel
theorem d_M_allPoints_151 : decode b_M_allPoints 151 = .ok (.getfield 109, 3) := by decide +kernel
theorem d_M_allPoints_154 : decode b_M_allPoints 154 = .ok (.lcmp, 1) := by decide +kernel
theorem d_M_allPoints_155 : decode b_M_allPoints 155 = .ok (.ifCond .lt (17), 3) := by decide +kernel
theorem d_M_allPoints_158 : decode b_M_allPoints 158 = .ok (.aload_n 0, 1) := by decide +kernel
theorem d_M_allPoints_159 : decode b_M_allPoints 159 = .ok (.getfield 112, 3) := by decide +kernel
theorem d_M_allPoints_162 : decode b_M_allPoints 162 = .ok (.aload_n 0, 1) := by decide +kernel
theorem d_M_allPoints_163 : decode b_M_allPoints 163 = .ok (.getfield 109, 3) := by decide +kernel
theorem d_M_allPoints_166 : decode b_M_allPoints 166 = .ok (.lsub, 1) := by decide +kernel
theorem d_M_allPoints_167 : decode b_M_allPoints 167 = .ok (.lconst 1, 1) := by decide +kernel
theorem d_M_allPoints_168 : decode b_M_allPoints 168 = .ok (.ladd, 1) := by decide +kernel
theorem d_M_allPoints_169 : decode b_M_allPoints 169 = .ok (.goto (4), 3) := by decide +kernel
theorem d_M_allPoints_172 : decode b_M_allPoints 172 = .ok (.lconst 0, 1) := by decide +kernel
theorem d_M_allPoints_173 : decode b_M_allPoints 173 = .ok (.ladd, 1) := by decide +kernel
theorem d_M_allPoints_174 : decode b_M_allPoints 174 = .ok (.lstore_n 2, 1) := by decide +kernel
theorem d_M_allPoints_175 : decode b_M_allPoints 175 = .ok (.lload 8, 2) := by decide +kernel
theorem d_M_allPoints_177 : decode b_M_allPoints 177 = .ok (.lconst 1, 1) := by decide +kernel
theorem d_M_allPoints_178 : decode b_M_allPoints 178 = .ok (.ladd, 1) := by decide +kernel
theorem d_M_allPoints_179 : decode b_M_allPoints 179 = .ok (.lstore 8, 2) := by decide +kernel
theorem d_M_allPoints_181 : decode b_M_allPoints 181 = .ok (.goto (-85), 3) := by decide +kernel
theorem d_M_allPoints_184 : decode b_M_allPoints 184 = .ok (.lload_n 2, 1) := by decide +kernel
theorem d_M_allPoints_185 : decode b_M_allPoints 185 = .ok (.l2i, 1) := by decide +kernel
theorem d_M_allPoints_186 : decode b_M_allPoints 186 = .ok (.ireturn, 1) := by decide +kernel
theorem d_M_border_0 : decode b_M_border 0 = .ok (.aload_n 0, 1) := by decide +kernel
theorem d_M_border_1 : decode b_M_border 1 = .ok (.iload_n 1, 1) := by decide +kernel
theorem d_M_border_2 : decode b_M_border 2 = .ok (.invokevirtual 79, 3) := by decide +kernel
theorem d_M_border_5 : decode b_M_border 5 = .ok (.ifCond .ne (5), 3) := by decide +kernel
theorem d_M_border_8 : decode b_M_border 8 = .ok (.iconst (-1), 1) := by decide +kernel
theorem d_M_border_9 : decode b_M_border 9 = .ok (.ireturn, 1) := by decide +kernel
theorem d_M_border_10 : decode b_M_border 10 = .ok (.aload_n 0, 1) := by decide +kernel
theorem d_M_border_11 : decode b_M_border 11 = .ok (.iload_n 1, 1) := by decide +kernel
theorem d_M_border_12 : decode b_M_border 12 = .ok (.invokevirtual 87, 3) := by decide +kernel
theorem d_M_border_15 : decode b_M_border 15 = .ok (.aload_n 0, 1) := by decide +kernel
theorem d_M_border_16 : decode b_M_border 16 = .ok (.invokevirtual 123, 3) := by decide +kernel
theorem d_M_border_19 : decode b_M_border 19 = .ok (.ireturn, 1) := by decide +kernel
theorem d_M_inside_0 : decode b_M_inside 0 = .ok (.aload_n 0, 1) := by decide +kernel
theorem d_M_inside_1 : decode b_M_inside 1 = .ok (.iload_n 1, 1) := by decide +kernel
theorem d_M_inside_2 : decode b_M_inside 2 = .ok (.invokevirtual 79, 3) := by decide +kernel
theorem d_M_inside_5 : decode b_M_inside 5 = .ok (.ifCond .ne (5), 3) := by decide +kernel
theorem d_M_inside_8 : decode b_M_inside 8 = .ok (.iconst (-1), 1) := by decide +kernel
theorem d_M_inside_9 : decode b_M_inside 9 = .ok (.ireturn, 1) := by decide +kernel
theorem d_M_inside_10 : decode b_M_inside 10 = .ok (.aload_n 0, 1) := by decide +kernel
theorem d_M_inside_11 : decode b_M_inside 11 = .ok (.iload_n 1, 1) := by decide +kernel
theorem d_M_inside_12 : decode b_M_inside 12 = .ok (.invokevirtual 87, 3) := by decide +kernel
theorem d_M_inside_15 : decode b_M_inside 15 = .ok (.aload_n 0, 1) := by decide +kernel
theorem d_M_inside_16 : decode b_M_inside 16 = .ok (.iconst 1, 1) := by decide +kernel
theorem d_M_inside_17 : decode b_M_inside 17 = .ok (.invokevirtual 127, 3) := by decide +kernel
theorem d_M_inside_20 : decode b_M_inside 20 = .ok (.aload_n 0, 1) := by decide +kernel
theorem d_M_inside_21 : decode b_M_inside 21 = .ok (.invokevirtual 123, 3) := by decide +kernel
theorem d_M_inside_24 : decode b_M_inside 24 = .ok (.isub, 1) := by decide +kernel
theorem d_M_inside_25 : decode b_M_inside 25 = .ok (.ireturn, 1) := by decide +kernel
theorem d_M_grown_0 : decode b_M_grown 0 = .ok (.aload_n 0, 1) := by decide +kernel
theorem d_M_grown_1 : decode b_M_grown 1 = .ok (.iload_n 1, 1) := by decide +kernel
theorem d_M_grown_2 : decode b_M_grown 2 = .ok (.invokevirtual 79, 3) := by decide +kernel
theorem d_M_grown_5 : decode b_M_grown 5 = .ok (.ifCond .ne (5), 3) := by decide +kernel
theorem d_M_grown_8 : decode b_M_grown 8 = .ok (.iconst (-1), 1) := by decide +kernel
theorem d_M_grown_9 : decode b_M_grown 9 = .ok (.ireturn, 1) := by decide +kernel
theorem d_M_grown_10 : decode b_M_grown 10 = .ok (.iload_n 2, 1) := by decide +kernel
theorem d_M_grown_11 : decode b_M_grown 11 = .ok (.iconst 0, 1) := by decide +kernel
theorem d_M_grown_12 : decode b_M_grown 12 = .ok (.bipush (6), 2) := by decide +kernel
theorem d_M_grown_14 : decode b_M_grown 14 = .ok (.invokestatic 83, 3) := by decide +kernel
theorem d_M_grown_17 : decode b_M_grown 17 = .ok (.ifCond .ne (6), 3) := by decide +kernel
theorem d_M_grown_20 : decode b_M_grown 20 = .ok (.bipush (-2), 2) := by decide +kernel
theorem d_M_grown_22 : decode b_M_grown 22 = .ok (.ireturn, 1) := by decide +kernel
theorem d_M_grown_23 : decode b_M_grown 23 = .ok (.aload_n 0, 1) := by decide +kernel
theorem d_M_grown_24 : decode b_M_grown 24 = .ok (.iload_n 1, 1) := by decide +kernel
theorem d_M_grown_25 : decode b_M_grown 25 = .ok (.invokevirtual 87, 3) := by decide +kernel
theorem d_M_grown_28 : decode b_M_grown 28 = .ok (.aload_n 0, 1) := by decide +kernel
theorem d_M_grown_29 : decode b_M_grown 29 = .ok (.iload_n 2, 1) := by decide +kernel
theorem d_M_grown_30 : decode b_M_grown 30 = .ok (.invokevirtual 127, 3) := by decide +kernel
theorem d_M_grown_33 : decode b_M_grown 33 = .ok (.ireturn, 1) := by decide +kernel
theorem d_M_wide_0 : decode b_M_wide 0 = .ok (.aload_n 0, 1) := by decide +kernel
theorem d_M_wide_1 : decode b_M_wide 1 = .ok (.iload_n 1, 1) := by decide +kernel
theorem d_M_wide_2 : decode b_M_wide 2 = .ok (.invokevirtual 79, 3) := by decide +kernel
theorem d_M_wide_5 : decode b_M_wide 5 = .ok (.ifCond .ne (5), 3) := by decide +kernel
theorem d_M_wide_8 : decode b_M_wide 8 = .ok (.iconst (-1), 1) := by decide +kernel
theorem d_M_wide_9 : decode b_M_wide 9 = .ok (.ireturn, 1) := by decide +kernel
theorem d_M_wide_10 : decode b_M_wide 10 = .ok (.aload_n 0, 1) := by decide +kernel
theorem d_M_wide_11 : decode b_M_wide 11 = .ok (.iload_n 1, 1) := by decide +kernel
theorem d_M_wide_12 : decode b_M_wide 12 = .ok (.invokevirtual 87, 3) := by decide +kernel
theorem d_M_wide_15 : decode b_M_wide 15 = .ok (.lconst 0, 1) := by decide +kernel
theorem d_M_wide_16 : decode b_M_wide 16 = .ok (.lstore_n 2, 1) := by decide +kernel
theorem d_M_wide_17 : decode b_M_wide 17 = .ok (.iconst 0, 1) := by decide +kernel
theorem d_M_wide_18 : decode b_M_wide 18 = .ok (.istore 4, 2) := by decide +kernel
theorem d_M_wide_20 : decode b_M_wide 20 = .ok (.iload 4, 2) := by decide +kernel
theorem d_M_wide_22 : decode b_M_wide 22 = .ok (.aload_n 0, 1) := by decide +kernel
theorem d_M_wide_23 : decode b_M_wide 23 = .ok (.getfield 45, 3) := by decide +kernel
theorem d_M_wide_26 : decode b_M_wide 26 = .ok (.if_icmp .ge (76), 3) := by decide +kernel
theorem d_M_wide_29 : decode b_M_wide 29 = .ok (.iconst 0, 1) := by decide +kernel
theorem d_M_wide_30 : decode b_M_wide 30 = .ok (.istore 5, 2) := by decide +kernel
theorem d_M_wide_32 : decode b_M_wide 32 = .ok (.iload 5, 2) := by decide +kernel
theorem d_M_wide_34 : decode b_M_wide 34 = .ok (.iload 4, 2) := by decide +kernel
theorem d_M_wide_36 : decode b_M_wide 36 = .ok (.if_icmp .ge (60), 3) := by decide +kernel
theorem d_M_wide_39 : decode b_M_wide 39 = .ok (.aload_n 0, 1) := by decide +kernel
theorem d_M_wide_40 : decode b_M_wide 40 = .ok (.getfield 19, 3) := by decide +kernel
theorem d_M_wide_43 : decode b_M_wide 43 = .ok (.iload 4, 2) := by decide +kernel
theorem d_M_wide_45 : decode b_M_wide 45 = .ok (.iaload, 1) := by decide +kernel
theorem d_M_wide_46 : decode b_M_wide 46 = .ok (.i2l, 1) := by decide +kernel
theorem d_M_wide_47 : decode b_M_wide 47 = .ok (.aload_n 0, 1) := by decide +kernel
theorem d_M_wide_48 : decode b_M_wide 48 = .ok (.getfield 22, 3) := by decide +kernel
theorem d_M_wide_51 : decode b_M_wide 51 = .ok (.iload 4, 2) := by decide +kernel
theorem d_M_wide_53 : decode b_M_wide 53 = .ok (.iaload, 1) := by decide +kernel
theorem d_M_wide_54 : decode b_M_wide 54 = .ok (.i2l, 1) := by decide +kernel
theorem d_M_wide_55 : decode b_M_wide 55 = .ok (.aload_n 0, 1) := by decide +kernel
theorem d_M_wide_56 : decode b_M_wide 56 = .ok (.getfield 19, 3) := by decide +kernel
theorem d_M_wide_59 : decode b_M_wide 59 = .ok (.iload 5, 2) := by decide +kernel
theorem d_M_wide_61 : decode b_M_wide 61 = .ok (.iaload, 1) := by decide +kernel
theorem d_M_wide_62 : decode b_M_wide 62 = .ok (.i2l, 1) := by decide +kernel
theorem d_M_wide_63 : decode b_M_wide 63 = .ok (.aload_n 0, 1) := by decide +kernel
theorem d_M_wide_64 : decode b_M_wide 64 = .ok (.getfield 22, 3) := by decide +kernel
theorem d_M_wide_67 : decode b_M_wide 67 = .ok (.iload 5, 2) := by decide +kernel
theorem d_M_wide_69 : decode b_M_wide 69 = .ok (.iaload, 1) := by decide +kernel
theorem d_M_wide_70 : decode b_M_wide 70 = .ok (.i2l, 1) := by decide +kernel
theorem d_M_wide_71 : decode b_M_wide 71 = .ok (.invokestatic 62, 3) := by decide +kernel
theorem d_M_wide_74 : decode b_M_wide 74 = .ok (.lstore 6, 2) := by decide +kernel
theorem d_M_wide_76 : decode b_M_wide 76 = .ok (.lload 6, 2) := by decide +kernel
theorem d_M_wide_78 : decode b_M_wide 78 = .ok (.lload_n 2, 1) := by decide +kernel
theorem d_M_wide_79 : decode b_M_wide 79 = .ok (.lcmp, 1) := by decide +kernel
theorem d_M_wide_80 : decode b_M_wide 80 = .ok (.ifCond .le (8), 3) := by decide +kernel
theorem d_M_wide_83 : decode b_M_wide 83 = .ok (.lload 6, 2) := by decide +kernel
theorem d_M_wide_85 : decode b_M_wide 85 = .ok (.goto (4), 3) := by decide +kernel
theorem d_M_wide_88 : decode b_M_wide 88 = .ok (.lload_n 2, 1) := by decide +kernel
theorem d_M_wide_89 : decode b_M_wide 89 = .ok (.lstore_n 2, 1) := by decide +kernel
theorem d_M_wide_90 : decode b_M_wide 90 = .ok (.iinc 5 (1), 3) := by decide +kernel
theorem d_M_wide_93 : decode b_M_wide 93 = .ok (.goto (-61), 3) := by decide +kernel
theorem d_M_wide_96 : decode b_M_wide 96 = .ok (.iinc 4 (1), 3) := by decide +kernel
theorem d_M_wide_99 : decode b_M_wide 99 = .ok (.goto (-79), 3) := by decide +kernel
theorem d_M_wide_102 : decode b_M_wide 102 = .ok (.aload_n 0, 1) := by decide +kernel
theorem d_M_wide_103 : decode b_M_wide 103 = .ok (.getfield 45, 3) := by decide +kernel
theorem d_M_wide_106 : decode b_M_wide 106 = .ok (.ifCond .ne (8), 3) := by decide +kernel
theorem d_M_wide_109 : decode b_M_wide 109 = .ok (.bipush (-3), 2) := by decide +kernel
theorem d_M_wide_111 : decode b_M_wide 111 = .ok (.goto (5), 3) := by decide +kernel
theorem d_M_wide_114 : decode b_M_wide 114 = .ok (.lload_n 2, 1) := by decide +kernel
theorem d_M_wide_115 : decode b_M_wide 115 = .ok (.l2i, 1) := by decide +kernel
theorem d_M_wide_116 : decode b_M_wide 116 = .ok (.ireturn, 1) := by decide +kernel
theorem d_M_width_0 : decode b_M_width 0 = .ok (.aload_n 0, 1) := by decide +kernel
theorem d_M_width_1 : decode b_M_width 1 = .ok (.iload_n 1, 1) := by decide +kernel
theorem d_M_width_2 : decode b_M_width 2 = .ok (.invokevirtual 79, 3) := by decide +kernel
theorem d_M_width_5 : decode b_M_width 5 = .ok (.ifCond .ne (5), 3) := by decide +kernel
theorem d_M_width_8 : decode b_M_width 8 = .ok (.iconst (-1), 1) := by decide +kernel
theorem d_M_width_9 : decode b_M_width 9 = .ok (.ireturn, 1) := by decide +kernel
theorem d_M_width_10 : decode b_M_width 10 = .ok (.aload_n 0, 1) := by decide +kernel
theorem d_M_width_11 : decode b_M_width 11 = .ok (.iload_n 1, 1) := by decide +kernel
theorem d_M_width_12 : decode b_M_width 12 = .ok (.invokevirtual 87, 3) := by decide +kernel
theorem d_M_width_15 : decode b_M_width 15 = .ok (.aload_n 0, 1) := by decide +kernel
theorem d_M_width_16 : decode b_M_width 16 = .ok (.getfield 45, 3) := by decide +kernel
theorem d_M_width_19 : decode b_M_width 19 = .ok (.ifCond .ne (6), 3) := by decide +kernel
theorem d_M_width_22 : decode b_M_width 22 = .ok (.bipush (-3), 2) := by decide +kernel
theorem d_M_width_24 : decode b_M_width 24 = .ok (.ireturn, 1) := by decide +kernel
theorem d_M_width_25 : decode b_M_width 25 = .ok (.iconst 0, 1) := by decide +kernel
theorem d_M_width_26 : decode b_M_width 26 = .ok (.istore_n 2, 1) := by decide +kernel
theorem d_M_width_27 : decode b_M_width 27 = .ok (.aload_n 0, 1) := by decide +kernel
theorem d_M_width_28 : decode b_M_width 28 = .ok (.lconst 0, 1) := by decide +kernel
theorem d_M_width_29 : decode b_M_width 29 = .ok (.putfield 130, 3) := by decide +kernel
theorem d_M_width_32 : decode b_M_width 32 = .ok (.aload_n 0, 1) := by decide +kernel
theorem d_M_width_33 : decode b_M_width 33 = .ok (.lconst 1, 1) := by decide +kernel
theorem d_M_width_34 : decode b_M_width 34 = .ok (.putfield 133, 3) := by decide +kernel
theorem d_M_width_37 : decode b_M_width 37 = .ok (.iconst 0, 1) := by decide +kernel
theorem d_M_width_38 : decode b_M_width 38 = .ok (.istore_n 3, 1) := by decide +kernel
theorem d_M_width_39 : decode b_M_width 39 = .ok (.iload_n 3, 1) := by decide +kernel
theorem d_M_width_40 : decode b_M_width 40 = .ok (.aload_n 0, 1) := by decide +kernel
theorem d_M_width_41 : decode b_M_width 41 = .ok (.getfield 45, 3) := by decide +kernel
theorem d_M_width_44 : decode b_M_width 44 = .ok (.if_icmp .ge (113), 3) := by decide +kernel
theorem d_M_width_47 : decode b_M_width 47 = .ok (.iconst 0, 1) := by decide +kernel
theorem d_M_width_48 : decode b_M_width 48 = .ok (.istore 4, 2) := by decide +kernel
theorem d_M_width_50 : decode b_M_width 50 = .ok (.iload 4, 2) := by decide +kernel
theorem d_M_width_52 : decode b_M_width 52 = .ok (.iload_n 3, 1) := by decide +kernel
theorem d_M_width_53 : decode b_M_width 53 = .ok (.if_icmp .ge (98), 3) := by decide +kernel
theorem d_M_width_56 : decode b_M_width 56 = .ok (.aload_n 0, 1) := by decide +kernel
theorem d_M_width_57 : decode b_M_width 57 = .ok (.iload_n 3, 1) := by decide +kernel
theorem d_M_width_58 : decode b_M_width 58 = .ok (.iload 4, 2) := by decide +kernel
theorem d_M_width_60 : decode b_M_width 60 = .ok (.invokevirtual 136, 3) := by decide +kernel
theorem d_M_width_63 : decode b_M_width 63 = .ok (.aload_n 0, 1) := by decide +kernel
theorem d_M_width_64 : decode b_M_width 64 = .ok (.getfield 19, 3) := by decide +kernel
theorem d_M_width_67 : decode b_M_width 67 = .ok (.iload_n 3, 1) := by decide +kernel
theorem d_M_width_68 : decode b_M_width 68 = .ok (.iaload, 1) := by decide +kernel
theorem d_M_width_69 : decode b_M_width 69 = .ok (.i2l, 1) := by decide +kernel
theorem d_M_width_70 : decode b_M_width 70 = .ok (.aload_n 0, 1) := by decide +kernel
theorem d_M_width_71 : decode b_M_width 71 = .ok (.getfield 22, 3) := by decide +kernel
theorem d_M_width_74 : decode b_M_width 74 = .ok (.iload_n 3, 1) := by decide +kernel
theorem d_M_width_75 : decode b_M_width 75 = .ok (.iaload, 1) := by decide +kernel
theorem d_M_width_76 : decode b_M_width 76 = .ok (.i2l, 1) := by decide +kernel
theorem d_M_width_77 : decode b_M_width 77 = .ok (.aload_n 0, 1) := by decide +kernel
theorem d_M_width_78 : decode b_M_width 78 = .ok (.getfield 19, 3) := by decide +kernel
theorem d_M_width_81 : decode b_M_width 81 = .ok (.iload 4, 2) := by decide +kernel
theorem d_M_width_83 : decode b_M_width 83 = .ok (.iaload, 1) := by decide +kernel
theorem d_M_width_84 : decode b_M_width 84 = .ok (.i2l, 1) := by decide +kernel
theorem d_M_width_85 : decode b_M_width 85 = .ok (.aload_n 0, 1) := by decide +kernel
theorem d_M_width_86 : decode b_M_width 86 = .ok (.getfield 22, 3) := by decide +kernel
theorem d_M_width_89 : decode b_M_width 89 = .ok (.iload 4, 2) := by decide +kernel
theorem d_M_width_91 : decode b_M_width 91 = .ok (.iaload, 1) := by decide +kernel
theorem d_M_width_92 : decode b_M_width 92 = .ok (.i2l, 1) := by decide +kernel
theorem d_M_width_93 : decode b_M_width 93 = .ok (.invokestatic 62, 3) := by decide +kernel
theorem d_M_width_96 : decode b_M_width 96 = .ok (.lstore 5, 2) := by decide +kernel
theorem d_M_width_98 : decode b_M_width 98 = .ok (.aload_n 0, 1) := by decide +kernel
theorem d_M_width_99 : decode b_M_width 99 = .ok (.getfield 140, 3) := by decide +kernel
theorem d_M_width_102 : decode b_M_width 102 = .ok (.aload_n 0, 1) := by decide +kernel
theorem d_M_width_103 : decode b_M_width 103 = .ok (.getfield 140, 3) := by decide +kernel
theorem d_M_width_106 : decode b_M_width 106 = .ok (.lmul, 1) := by decide +kernel
theorem d_M_width_107 : decode b_M_width 107 = .ok (.lstore 7, 2) := by decide +kernel
theorem d_M_width_109 : decode b_M_width 109 = .ok (.iload_n 2, 1) := by decide +kernel
theorem d_M_width_110 : decode b_M_width 110 = .ok (.ifCond .eq (21), 3) := by decide +kernel
theorem d_M_width_113 : decode b_M_width 113 = .ok (.lload 7, 2) := by decide +kernel
theorem d_M_width_115 : decode b_M_width 115 = .ok (.aload_n 0, 1) := by decide +kernel
theorem d_M_width_116 : decode b_M_width 116 = .ok (.getfield 133, 3) := by decide +kernel
theorem d_M_width_119 : decode b_M_width 119 = .ok (.lmul, 1) := by decide +kernel
theorem d_M_width_120 : decode b_M_width 120 = .ok (.aload_n 0, 1) := by decide +kernel
theorem d_M_width_121 : decode b_M_width 121 = .ok (.getfield 130, 3) := by decide +kernel
theorem d_M_width_124 : decode b_M_width 124 = .ok (.lload 5, 2) := by decide +kernel
theorem d_M_width_126 : decode b_M_width 126 = .ok (.lmul, 1) := by decide +kernel
theorem d_M_width_127 : decode b_M_width 127 = .ok (.lcmp, 1) := by decide +kernel
theorem d_M_width_128 : decode b_M_width 128 = .ok (.ifCond .ge (17), 3) := by decide +kernel
theorem d_M_width_131 : decode b_M_width 131 = .ok (.aload_n 0, 1) := by decide +kernel
theorem d_M_width_132 : decode b_M_width 132 = .ok (.lload 7, 2) := by decide +kernel
theorem d_M_width_134 : decode b_M_width 134 = .ok (.putfield 130, 3) := by decide +kernel
theorem d_M_width_137 : decode b_M_width 137 = .ok (.aload_n 0, 1) := by decide +kernel
theorem d_M_width_138 : decode b_M_width 138 = .ok (.lload 5, 2) := by decide +kernel
theorem d_M_width_140 : decode b_M_width 140 = .ok (.putfield 133, 3) := by decide +kernel
theorem d_M_width_143 : decode b_M_width 143 = .ok (.iconst 1, 1) := by decide +kernel
theorem d_M_width_144 : decode b_M_width 144 = .ok (.istore_n 2, 1) := by decide +kernel
theorem d_M_width_145 : decode b_M_width 145 = .ok (.iinc 4 (1), 3) := by decide +kernel
theorem d_M_width_148 : decode b_M_width 148 = .ok (.goto (-98), 3) := by decide +kernel
theorem d_M_width_151 : decode b_M_width 151 = .ok (.iinc 3 (1), 3) := by decide +kernel
theorem d_M_width_154 : decode b_M_width 154 = .ok (.goto (-115), 3) := by decide +kernel
