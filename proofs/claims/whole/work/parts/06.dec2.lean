theorem d_M_width_157 : decode b_M_width 157 = .ok (.aload_n 0, 1) := by decide +kernel
theorem d_M_width_158 : decode b_M_width 158 = .ok (.aload_n 0, 1) := by decide +kernel
theorem d_M_width_159 : decode b_M_width 159 = .ok (.getfield 130, 3) := by decide +kernel
theorem d_M_width_162 : decode b_M_width 162 = .ok (.aload_n 0, 1) := by decide +kernel
theorem d_M_width_163 : decode b_M_width 163 = .ok (.getfield 133, 3) := by decide +kernel
theorem d_M_width_166 : decode b_M_width 166 = .ok (.invokevirtual 143, 3) := by decide +kernel
theorem d_M_width_169 : decode b_M_width 169 = .ok (.iconst 1, 1) := by decide +kernel
theorem d_M_width_170 : decode b_M_width 170 = .ok (.ireturn, 1) := by decide +kernel
theorem d_M_spread_0 : decode b_M_spread 0 = .ok (.lconst 0, 1) := by decide +kernel
theorem d_M_spread_1 : decode b_M_spread 1 = .ok (.lstore_n 3, 1) := by decide +kernel
theorem d_M_spread_2 : decode b_M_spread 2 = .ok (.lconst 0, 1) := by decide +kernel
theorem d_M_spread_3 : decode b_M_spread 3 = .ok (.lstore 5, 2) := by decide +kernel
theorem d_M_spread_5 : decode b_M_spread 5 = .ok (.iconst 0, 1) := by decide +kernel
theorem d_M_spread_6 : decode b_M_spread 6 = .ok (.istore 7, 2) := by decide +kernel
theorem d_M_spread_8 : decode b_M_spread 8 = .ok (.iload 7, 2) := by decide +kernel
theorem d_M_spread_10 : decode b_M_spread 10 = .ok (.aload_n 0, 1) := by decide +kernel
theorem d_M_spread_11 : decode b_M_spread 11 = .ok (.getfield 45, 3) := by decide +kernel
theorem d_M_spread_14 : decode b_M_spread 14 = .ok (.if_icmp .ge (89), 3) := by decide +kernel
theorem d_M_spread_17 : decode b_M_spread 17 = .ok (.aload_n 0, 1) := by decide +kernel
theorem d_M_spread_18 : decode b_M_spread 18 = .ok (.getfield 19, 3) := by decide +kernel
theorem d_M_spread_21 : decode b_M_spread 21 = .ok (.iload_n 1, 1) := by decide +kernel
theorem d_M_spread_22 : decode b_M_spread 22 = .ok (.iaload, 1) := by decide +kernel
theorem d_M_spread_23 : decode b_M_spread 23 = .ok (.i2l, 1) := by decide +kernel
theorem d_M_spread_24 : decode b_M_spread 24 = .ok (.aload_n 0, 1) := by decide +kernel
theorem d_M_spread_25 : decode b_M_spread 25 = .ok (.getfield 22, 3) := by decide +kernel
theorem d_M_spread_28 : decode b_M_spread 28 = .ok (.iload_n 1, 1) := by decide +kernel
theorem d_M_spread_29 : decode b_M_spread 29 = .ok (.iaload, 1) := by decide +kernel
theorem d_M_spread_30 : decode b_M_spread 30 = .ok (.i2l, 1) := by decide +kernel
theorem d_M_spread_31 : decode b_M_spread 31 = .ok (.aload_n 0, 1) := by decide +kernel
theorem d_M_spread_32 : decode b_M_spread 32 = .ok (.getfield 19, 3) := by decide +kernel
theorem d_M_spread_35 : decode b_M_spread 35 = .ok (.iload_n 2, 1) := by decide +kernel
theorem d_M_spread_36 : decode b_M_spread 36 = .ok (.iaload, 1) := by decide +kernel
theorem d_M_spread_37 : decode b_M_spread 37 = .ok (.i2l, 1) := by decide +kernel
theorem d_M_spread_38 : decode b_M_spread 38 = .ok (.aload_n 0, 1) := by decide +kernel
theorem d_M_spread_39 : decode b_M_spread 39 = .ok (.getfield 22, 3) := by decide +kernel
theorem d_M_spread_42 : decode b_M_spread 42 = .ok (.iload_n 2, 1) := by decide +kernel
theorem d_M_spread_43 : decode b_M_spread 43 = .ok (.iaload, 1) := by decide +kernel
theorem d_M_spread_44 : decode b_M_spread 44 = .ok (.i2l, 1) := by decide +kernel
theorem d_M_spread_45 : decode b_M_spread 45 = .ok (.aload_n 0, 1) := by decide +kernel
theorem d_M_spread_46 : decode b_M_spread 46 = .ok (.getfield 19, 3) := by decide +kernel
theorem d_M_spread_49 : decode b_M_spread 49 = .ok (.iload 7, 2) := by decide +kernel
theorem d_M_spread_51 : decode b_M_spread 51 = .ok (.iaload, 1) := by decide +kernel
theorem d_M_spread_52 : decode b_M_spread 52 = .ok (.i2l, 1) := by decide +kernel
theorem d_M_spread_53 : decode b_M_spread 53 = .ok (.aload_n 0, 1) := by decide +kernel
theorem d_M_spread_54 : decode b_M_spread 54 = .ok (.getfield 22, 3) := by decide +kernel
theorem d_M_spread_57 : decode b_M_spread 57 = .ok (.iload 7, 2) := by decide +kernel
theorem d_M_spread_59 : decode b_M_spread 59 = .ok (.iaload, 1) := by decide +kernel
theorem d_M_spread_60 : decode b_M_spread 60 = .ok (.i2l, 1) := by decide +kernel
theorem d_M_spread_61 : decode b_M_spread 61 = .ok (.invokestatic 58, 3) := by decide +kernel
theorem d_M_spread_64 : decode b_M_spread 64 = .ok (.lstore 8, 2) := by decide +kernel
theorem d_M_spread_66 : decode b_M_spread 66 = .ok (.lload 8, 2) := by decide +kernel
theorem d_M_spread_68 : decode b_M_spread 68 = .ok (.lload_n 3, 1) := by decide +kernel
theorem d_M_spread_69 : decode b_M_spread 69 = .ok (.lcmp, 1) := by decide +kernel
theorem d_M_spread_70 : decode b_M_spread 70 = .ok (.ifCond .ge (8), 3) := by decide +kernel
theorem d_M_spread_73 : decode b_M_spread 73 = .ok (.lload 8, 2) := by decide +kernel
theorem d_M_spread_75 : decode b_M_spread 75 = .ok (.goto (4), 3) := by decide +kernel
theorem d_M_spread_78 : decode b_M_spread 78 = .ok (.lload_n 3, 1) := by decide +kernel
theorem d_M_spread_79 : decode b_M_spread 79 = .ok (.lstore_n 3, 1) := by decide +kernel
theorem d_M_spread_80 : decode b_M_spread 80 = .ok (.lload 8, 2) := by decide +kernel
theorem d_M_spread_82 : decode b_M_spread 82 = .ok (.lload 5, 2) := by decide +kernel
theorem d_M_spread_84 : decode b_M_spread 84 = .ok (.lcmp, 1) := by decide +kernel
theorem d_M_spread_85 : decode b_M_spread 85 = .ok (.ifCond .le (8), 3) := by decide +kernel
theorem d_M_spread_88 : decode b_M_spread 88 = .ok (.lload 8, 2) := by decide +kernel
theorem d_M_spread_90 : decode b_M_spread 90 = .ok (.goto (5), 3) := by decide +kernel
theorem d_M_spread_93 : decode b_M_spread 93 = .ok (.lload 5, 2) := by decide +kernel
theorem d_M_spread_95 : decode b_M_spread 95 = .ok (.lstore 5, 2) := by decide +kernel
theorem d_M_spread_97 : decode b_M_spread 97 = .ok (.iinc 7 (1), 3) := by decide +kernel
theorem d_M_spread_100 : decode b_M_spread 100 = .ok (.goto (-92), 3) := by decide +kernel
theorem d_M_spread_103 : decode b_M_spread 103 = .ok (.aload_n 0, 1) := by decide +kernel
theorem d_M_spread_104 : decode b_M_spread 104 = .ok (.lload 5, 2) := by decide +kernel
theorem d_M_spread_106 : decode b_M_spread 106 = .ok (.lload_n 3, 1) := by decide +kernel
theorem d_M_spread_107 : decode b_M_spread 107 = .ok (.lsub, 1) := by decide +kernel
theorem d_M_spread_108 : decode b_M_spread 108 = .ok (.putfield 140, 3) := by decide +kernel
theorem d_M_spread_111 : decode b_M_spread 111 = .ok (.return_, 1) := by decide +kernel
theorem d_M_isAcross_0 : decode b_M_isAcross 0 = .ok (.iconst 1, 1) := by decide +kernel
theorem d_M_isAcross_1 : decode b_M_isAcross 1 = .ok (.istore_n 3, 1) := by decide +kernel
theorem d_M_isAcross_2 : decode b_M_isAcross 2 = .ok (.iconst 0, 1) := by decide +kernel
theorem d_M_isAcross_3 : decode b_M_isAcross 3 = .ok (.istore 4, 2) := by decide +kernel
theorem d_M_isAcross_5 : decode b_M_isAcross 5 = .ok (.iload 4, 2) := by decide +kernel
theorem d_M_isAcross_7 : decode b_M_isAcross 7 = .ok (.aload_n 0, 1) := by decide +kernel
theorem d_M_isAcross_8 : decode b_M_isAcross 8 = .ok (.getfield 45, 3) := by decide +kernel
theorem d_M_isAcross_11 : decode b_M_isAcross 11 = .ok (.if_icmp .ge (91), 3) := by decide +kernel
theorem d_M_isAcross_14 : decode b_M_isAcross 14 = .ok (.iload_n 3, 1) := by decide +kernel
theorem d_M_isAcross_15 : decode b_M_isAcross 15 = .ok (.ifCond .eq (87), 3) := by decide +kernel
theorem d_M_isAcross_18 : decode b_M_isAcross 18 = .ok (.aload_n 0, 1) := by decide +kernel
theorem d_M_isAcross_19 : decode b_M_isAcross 19 = .ok (.getfield 19, 3) := by decide +kernel
theorem d_M_isAcross_22 : decode b_M_isAcross 22 = .ok (.iload 4, 2) := by decide +kernel
theorem d_M_isAcross_24 : decode b_M_isAcross 24 = .ok (.iaload, 1) := by decide +kernel
theorem d_M_isAcross_25 : decode b_M_isAcross 25 = .ok (.aload_n 0, 1) := by decide +kernel
theorem d_M_isAcross_26 : decode b_M_isAcross 26 = .ok (.getfield 19, 3) := by decide +kernel
theorem d_M_isAcross_29 : decode b_M_isAcross 29 = .ok (.iload_n 1, 1) := by decide +kernel
theorem d_M_isAcross_30 : decode b_M_isAcross 30 = .ok (.iaload, 1) := by decide +kernel
theorem d_M_isAcross_31 : decode b_M_isAcross 31 = .ok (.isub, 1) := by decide +kernel
theorem d_M_isAcross_32 : decode b_M_isAcross 32 = .ok (.i2l, 1) := by decide +kernel
theorem d_M_isAcross_33 : decode b_M_isAcross 33 = .ok (.aload_n 0, 1) := by decide +kernel
theorem d_M_isAcross_34 : decode b_M_isAcross 34 = .ok (.getfield 19, 3) := by decide +kernel
theorem d_M_isAcross_37 : decode b_M_isAcross 37 = .ok (.iload 4, 2) := by decide +kernel
theorem d_M_isAcross_39 : decode b_M_isAcross 39 = .ok (.iaload, 1) := by decide +kernel
theorem d_M_isAcross_40 : decode b_M_isAcross 40 = .ok (.aload_n 0, 1) := by decide +kernel
theorem d_M_isAcross_41 : decode b_M_isAcross 41 = .ok (.getfield 19, 3) := by decide +kernel
theorem d_M_isAcross_44 : decode b_M_isAcross 44 = .ok (.iload_n 2, 1) := by decide +kernel
theorem d_M_isAcross_45 : decode b_M_isAcross 45 = .ok (.iaload, 1) := by decide +kernel
theorem d_M_isAcross_46 : decode b_M_isAcross 46 = .ok (.isub, 1) := by decide +kernel
theorem d_M_isAcross_47 : decode b_M_isAcross 47 = .ok (.i2l, 1) := by decide +kernel
theorem d_M_isAcross_48 : decode b_M_isAcross 48 = .ok (.lmul, 1) := by decide +kernel
theorem d_M_isAcross_49 : decode b_M_isAcross 49 = .ok (.aload_n 0, 1) := by decide +kernel
theorem d_M_isAcross_50 : decode b_M_isAcross 50 = .ok (.getfield 22, 3) := by decide +kernel
theorem d_M_isAcross_53 : decode b_M_isAcross 53 = .ok (.iload 4, 2) := by decide +kernel
theorem d_M_isAcross_55 : decode b_M_isAcross 55 = .ok (.iaload, 1) := by decide +kernel
theorem d_M_isAcross_56 : decode b_M_isAcross 56 = .ok (.aload_n 0, 1) := by decide +kernel
theorem d_M_isAcross_57 : decode b_M_isAcross 57 = .ok (.getfield 22, 3) := by decide +kernel
theorem d_M_isAcross_60 : decode b_M_isAcross 60 = .ok (.iload_n 1, 1) := by decide +kernel
theorem d_M_isAcross_61 : decode b_M_isAcross 61 = .ok (.iaload, 1) := by decide +kernel
theorem d_M_isAcross_62 : decode b_M_isAcross 62 = .ok (.isub, 1) := by decide +kernel
theorem d_M_isAcross_63 : decode b_M_isAcross 63 = .ok (.i2l, 1) := by decide +kernel
theorem d_M_isAcross_64 : decode b_M_isAcross 64 = .ok (.aload_n 0, 1) := by decide +kernel
theorem d_M_isAcross_65 : decode b_M_isAcross 65 = .ok (.getfield 22, 3) := by decide +kernel
theorem d_M_isAcross_68 : decode b_M_isAcross 68 = .ok (.iload 4, 2) := by decide +kernel
theorem d_M_isAcross_70 : decode b_M_isAcross 70 = .ok (.iaload, 1) := by decide +kernel
theorem d_M_isAcross_71 : decode b_M_isAcross 71 = .ok (.aload_n 0, 1) := by decide +kernel
theorem d_M_isAcross_72 : decode b_M_isAcross 72 = .ok (.getfield 22, 3) := by decide +kernel
theorem d_M_isAcross_75 : decode b_M_isAcross 75 = .ok (.iload_n 2, 1) := by decide +kernel
theorem d_M_isAcross_76 : decode b_M_isAcross 76 = .ok (.iaload, 1) := by decide +kernel
theorem d_M_isAcross_77 : decode b_M_isAcross 77 = .ok (.isub, 1) := by decide +kernel
theorem d_M_isAcross_78 : decode b_M_isAcross 78 = .ok (.i2l, 1) := by decide +kernel
theorem d_M_isAcross_79 : decode b_M_isAcross 79 = .ok (.lmul, 1) := by decide +kernel
theorem d_M_isAcross_80 : decode b_M_isAcross 80 = .ok (.ladd, 1) := by decide +kernel
theorem d_M_isAcross_81 : decode b_M_isAcross 81 = .ok (.lstore 5, 2) := by decide +kernel
theorem d_M_isAcross_83 : decode b_M_isAcross 83 = .ok (.lload 5, 2) := by decide +kernel
theorem d_M_isAcross_85 : decode b_M_isAcross 85 = .ok (.lconst 0, 1) := by decide +kernel
theorem d_M_isAcross_86 : decode b_M_isAcross 86 = .ok (.lcmp, 1) := by decide +kernel
theorem d_M_isAcross_87 : decode b_M_isAcross 87 = .ok (.ifCond .gt (7), 3) := by decide +kernel
theorem d_M_isAcross_90 : decode b_M_isAcross 90 = .ok (.iconst 1, 1) := by decide +kernel
theorem d_M_isAcross_91 : decode b_M_isAcross 91 = .ok (.goto (4), 3) := by decide +kernel
theorem d_M_isAcross_94 : decode b_M_isAcross 94 = .ok (.iconst 0, 1) := by decide +kernel
theorem d_M_isAcross_95 : decode b_M_isAcross 95 = .ok (.istore_n 3, 1) := by decide +kernel
theorem d_M_isAcross_96 : decode b_M_isAcross 96 = .ok (.iinc 4 (1), 3) := by decide +kernel
theorem d_M_isAcross_99 : decode b_M_isAcross 99 = .ok (.goto (-94), 3) := by decide +kernel
theorem d_M_isAcross_102 : decode b_M_isAcross 102 = .ok (.iload_n 3, 1) := by decide +kernel
theorem d_M_isAcross_103 : decode b_M_isAcross 103 = .ok (.ireturn, 1) := by decide +kernel
theorem d_M_isSharp_0 : decode b_M_isSharp 0 = .ok (.aload_n 0, 1) := by decide +kernel
theorem d_M_isSharp_1 : decode b_M_isSharp 1 = .ok (.getfield 19, 3) := by decide +kernel
theorem d_M_isSharp_4 : decode b_M_isSharp 4 = .ok (.iload_n 2, 1) := by decide +kernel
theorem d_M_isSharp_5 : decode b_M_isSharp 5 = .ok (.iaload, 1) := by decide +kernel
theorem d_M_isSharp_6 : decode b_M_isSharp 6 = .ok (.aload_n 0, 1) := by decide +kernel
theorem d_M_isSharp_7 : decode b_M_isSharp 7 = .ok (.getfield 19, 3) := by decide +kernel
theorem d_M_isSharp_10 : decode b_M_isSharp 10 = .ok (.iload_n 1, 1) := by decide +kernel
theorem d_M_isSharp_11 : decode b_M_isSharp 11 = .ok (.iaload, 1) := by decide +kernel
theorem d_M_isSharp_12 : decode b_M_isSharp 12 = .ok (.isub, 1) := by decide +kernel
theorem d_M_isSharp_13 : decode b_M_isSharp 13 = .ok (.i2l, 1) := by decide +kernel
theorem d_M_isSharp_14 : decode b_M_isSharp 14 = .ok (.aload_n 0, 1) := by decide +kernel
theorem d_M_isSharp_15 : decode b_M_isSharp 15 = .ok (.getfield 19, 3) := by decide +kernel
theorem d_M_isSharp_18 : decode b_M_isSharp 18 = .ok (.iload_n 3, 1) := by decide +kernel
theorem d_M_isSharp_19 : decode b_M_isSharp 19 = .ok (.iaload, 1) := by decide +kernel
theorem d_M_isSharp_20 : decode b_M_isSharp 20 = .ok (.aload_n 0, 1) := by decide +kernel
theorem d_M_isSharp_21 : decode b_M_isSharp 21 = .ok (.getfield 19, 3) := by decide +kernel
theorem d_M_isSharp_24 : decode b_M_isSharp 24 = .ok (.iload_n 1, 1) := by decide +kernel
theorem d_M_isSharp_25 : decode b_M_isSharp 25 = .ok (.iaload, 1) := by decide +kernel
theorem d_M_isSharp_26 : decode b_M_isSharp 26 = .ok (.isub, 1) := by decide +kernel
theorem d_M_isSharp_27 : decode b_M_isSharp 27 = .ok (.i2l, 1) := by decide +kernel
theorem d_M_isSharp_28 : decode b_M_isSharp 28 = .ok (.lmul, 1) := by decide +kernel
theorem d_M_isSharp_29 : decode b_M_isSharp 29 = .ok (.aload_n 0, 1) := by decide +kernel
theorem d_M_isSharp_30 : decode b_M_isSharp 30 = .ok (.getfield 22, 3) := by decide +kernel
theorem d_M_isSharp_33 : decode b_M_isSharp 33 = .ok (.iload_n 2, 1) := by decide +kernel
theorem d_M_isSharp_34 : decode b_M_isSharp 34 = .ok (.iaload, 1) := by decide +kernel
theorem d_M_isSharp_35 : decode b_M_isSharp 35 = .ok (.aload_n 0, 1) := by decide +kernel
theorem d_M_isSharp_36 : decode b_M_isSharp 36 = .ok (.getfield 22, 3) := by decide +kernel
theorem d_M_isSharp_39 : decode b_M_isSharp 39 = .ok (.iload_n 1, 1) := by decide +kernel
theorem d_M_isSharp_40 : decode b_M_isSharp 40 = .ok (.iaload, 1) := by decide +kernel
theorem d_M_isSharp_41 : decode b_M_isSharp 41 = .ok (.isub, 1) := by decide +kernel
theorem d_M_isSharp_42 : decode b_M_isSharp 42 = .ok (.i2l, 1) := by decide +kernel
theorem d_M_isSharp_43 : decode b_M_isSharp 43 = .ok (.aload_n 0, 1) := by decide +kernel
theorem d_M_isSharp_44 : decode b_M_isSharp 44 = .ok (.getfield 22, 3) := by decide +kernel
theorem d_M_isSharp_47 : decode b_M_isSharp 47 = .ok (.iload_n 3, 1) := by decide +kernel
theorem d_M_isSharp_48 : decode b_M_isSharp 48 = .ok (.iaload, 1) := by decide +kernel
theorem d_M_isSharp_49 : decode b_M_isSharp 49 = .ok (.aload_n 0, 1) := by decide +kernel
theorem d_M_isSharp_50 : decode b_M_isSharp 50 = .ok (.getfield 22, 3) := by decide +kernel
theorem d_M_isSharp_53 : decode b_M_isSharp 53 = .ok (.iload_n 1, 1) := by decide +kernel
theorem d_M_isSharp_54 : decode b_M_isSharp 54 = .ok (.iaload, 1) := by decide +kernel
theorem d_M_isSharp_55 : decode b_M_isSharp 55 = .ok (.isub, 1) := by decide +kernel
theorem d_M_isSharp_56 : decode b_M_isSharp 56 = .ok (.i2l, 1) := by decide +kernel
theorem d_M_isSharp_57 : decode b_M_isSharp 57 = .ok (.lmul, 1) := by decide +kernel
theorem d_M_isSharp_58 : decode b_M_isSharp 58 = .ok (.ladd, 1) := by decide +kernel
theorem d_M_isSharp_59 : decode b_M_isSharp 59 = .ok (.lconst 0, 1) := by decide +kernel
theorem d_M_isSharp_60 : decode b_M_isSharp 60 = .ok (.lcmp, 1) := by decide +kernel
theorem d_M_isSharp_61 : decode b_M_isSharp 61 = .ok (.ifCond .le (7), 3) := by decide +kernel
theorem d_M_isSharp_64 : decode b_M_isSharp 64 = .ok (.iconst 1, 1) := by decide +kernel
theorem d_M_isSharp_65 : decode b_M_isSharp 65 = .ok (.goto (4), 3) := by decide +kernel
theorem d_M_isSharp_68 : decode b_M_isSharp 68 = .ok (.iconst 0, 1) := by decide +kernel
theorem d_M_isSharp_69 : decode b_M_isSharp 69 = .ok (.ireturn, 1) := by decide +kernel
theorem d_M_isRound_0 : decode b_M_isRound 0 = .ok (.ldc2_w 99, 3) := by decide +kernel
theorem d_M_isRound_3 : decode b_M_isRound 3 = .ok (.aload_n 0, 1) := by decide +kernel
theorem d_M_isRound_4 : decode b_M_isRound 4 = .ok (.getfield 19, 3) := by decide +kernel
theorem d_M_isRound_7 : decode b_M_isRound 7 = .ok (.iload_n 1, 1) := by decide +kernel
theorem d_M_isRound_8 : decode b_M_isRound 8 = .ok (.iaload, 1) := by decide +kernel
theorem d_M_isRound_9 : decode b_M_isRound 9 = .ok (.i2l, 1) := by decide +kernel
theorem d_M_isRound_10 : decode b_M_isRound 10 = .ok (.aload_n 0, 1) := by decide +kernel
theorem d_M_isRound_11 : decode b_M_isRound 11 = .ok (.getfield 22, 3) := by decide +kernel
theorem d_M_isRound_14 : decode b_M_isRound 14 = .ok (.iload_n 1, 1) := by decide +kernel
theorem d_M_isRound_15 : decode b_M_isRound 15 = .ok (.iaload, 1) := by decide +kernel
theorem d_M_isRound_16 : decode b_M_isRound 16 = .ok (.i2l, 1) := by decide +kernel
theorem d_M_isRound_17 : decode b_M_isRound 17 = .ok (.aload_n 0, 1) := by decide +kernel
theorem d_M_isRound_18 : decode b_M_isRound 18 = .ok (.getfield 19, 3) := by decide +kernel
theorem d_M_isRound_21 : decode b_M_isRound 21 = .ok (.iload_n 2, 1) := by decide +kernel
theorem d_M_isRound_22 : decode b_M_isRound 22 = .ok (.iaload, 1) := by decide +kernel
theorem d_M_isRound_23 : decode b_M_isRound 23 = .ok (.i2l, 1) := by decide +kernel
theorem d_M_isRound_24 : decode b_M_isRound 24 = .ok (.aload_n 0, 1) := by decide +kernel
theorem d_M_isRound_25 : decode b_M_isRound 25 = .ok (.getfield 22, 3) := by decide +kernel
theorem d_M_isRound_28 : decode b_M_isRound 28 = .ok (.iload_n 2, 1) := by decide +kernel
theorem d_M_isRound_29 : decode b_M_isRound 29 = .ok (.iaload, 1) := by decide +kernel
theorem d_M_isRound_30 : decode b_M_isRound 30 = .ok (.i2l, 1) := by decide +kernel
theorem d_M_isRound_31 : decode b_M_isRound 31 = .ok (.aload_n 0, 1) := by decide +kernel
theorem d_M_isRound_32 : decode b_M_isRound 32 = .ok (.getfield 19, 3) := by decide +kernel
theorem d_M_isRound_35 : decode b_M_isRound 35 = .ok (.iload_n 3, 1) := by decide +kernel
theorem d_M_isRound_36 : decode b_M_isRound 36 = .ok (.iaload, 1) := by decide +kernel
theorem d_M_isRound_37 : decode b_M_isRound 37 = .ok (.i2l, 1) := by decide +kernel
theorem d_M_isRound_38 : decode b_M_isRound 38 = .ok (.aload_n 0, 1) := by decide +kernel
theorem d_M_isRound_39 : decode b_M_isRound 39 = .ok (.getfield 22, 3) := by decide +kernel
theorem d_M_isRound_42 : decode b_M_isRound 42 = .ok (.iload_n 3, 1) := by decide +kernel
theorem d_M_isRound_43 : decode b_M_isRound 43 = .ok (.iaload, 1) := by decide +kernel
theorem d_M_isRound_44 : decode b_M_isRound 44 = .ok (.i2l, 1) := by decide +kernel
theorem d_M_isRound_45 : decode b_M_isRound 45 = .ok (.invokestatic 58, 3) := by decide +kernel
theorem d_M_isRound_48 : decode b_M_isRound 48 = .ok (.lmul, 1) := by decide +kernel
theorem d_M_isRound_49 : decode b_M_isRound 49 = .ok (.lstore 4, 2) := by decide +kernel
theorem d_M_isRound_51 : decode b_M_isRound 51 = .ok (.lload 4, 2) := by decide +kernel
theorem d_M_isRound_53 : decode b_M_isRound 53 = .ok (.lconst 0, 1) := by decide +kernel
theorem d_M_isRound_54 : decode b_M_isRound 54 = .ok (.lcmp, 1) := by decide +kernel
theorem d_M_isRound_55 : decode b_M_isRound 55 = .ok (.ifCond .le (33), 3) := by decide +kernel
theorem d_M_isRound_58 : decode b_M_isRound 58 = .ok (.aload_n 0, 1) := by decide +kernel
theorem d_M_isRound_59 : decode b_M_isRound 59 = .ok (.iload_n 1, 1) := by decide +kernel
theorem d_M_isRound_60 : decode b_M_isRound 60 = .ok (.iload_n 2, 1) := by decide +kernel
theorem d_M_isRound_61 : decode b_M_isRound 61 = .ok (.iload_n 3, 1) := by decide +kernel
theorem d_M_isRound_62 : decode b_M_isRound 62 = .ok (.invokevirtual 146, 3) := by decide +kernel
theorem d_M_isRound_65 : decode b_M_isRound 65 = .ok (.ifCond .eq (23), 3) := by decide +kernel
theorem d_M_isRound_68 : decode b_M_isRound 68 = .ok (.aload_n 0, 1) := by decide +kernel
theorem d_M_isRound_69 : decode b_M_isRound 69 = .ok (.iload_n 2, 1) := by decide +kernel
theorem d_M_isRound_70 : decode b_M_isRound 70 = .ok (.iload_n 1, 1) := by decide +kernel
theorem d_M_isRound_71 : decode b_M_isRound 71 = .ok (.iload_n 3, 1) := by decide +kernel
theorem d_M_isRound_72 : decode b_M_isRound 72 = .ok (.invokevirtual 146, 3) := by decide +kernel
theorem d_M_isRound_75 : decode b_M_isRound 75 = .ok (.ifCond .eq (13), 3) := by decide +kernel
theorem d_M_isRound_78 : decode b_M_isRound 78 = .ok (.aload_n 0, 1) := by decide +kernel
theorem d_M_isRound_79 : decode b_M_isRound 79 = .ok (.iload_n 3, 1) := by decide +kernel
theorem d_M_isRound_80 : decode b_M_isRound 80 = .ok (.iload_n 1, 1) := by decide +kernel
theorem d_M_isRound_81 : decode b_M_isRound 81 = .ok (.iload_n 2, 1) := by decide +kernel
theorem d_M_isRound_82 : decode b_M_isRound 82 = .ok (.invokevirtual 146, 3) := by decide +kernel
theorem d_M_isRound_85 : decode b_M_isRound 85 = .ok (.ifCond .ne (5), 3) := by decide +kernel
theorem d_M_isRound_88 : decode b_M_isRound 88 = .ok (.iconst 0, 1) := by decide +kernel
theorem d_M_isRound_89 : decode b_M_isRound 89 = .ok (.ireturn, 1) := by decide +kernel
theorem d_M_isRound_90 : decode b_M_isRound 90 = .ok (.aload_n 0, 1) := by decide +kernel
theorem d_M_isRound_91 : decode b_M_isRound 91 = .ok (.getfield 19, 3) := by decide +kernel
theorem d_M_isRound_94 : decode b_M_isRound 94 = .ok (.iload_n 1, 1) := by decide +kernel
theorem d_M_isRound_95 : decode b_M_isRound 95 = .ok (.iaload, 1) := by decide +kernel
theorem d_M_isRound_96 : decode b_M_isRound 96 = .ok (.i2l, 1) := by decide +kernel
theorem d_M_isRound_97 : decode b_M_isRound 97 = .ok (.aload_n 0, 1) := by decide +kernel
theorem d_M_isRound_98 : decode b_M_isRound 98 = .ok (.getfield 22, 3) := by decide +kernel
theorem d_M_isRound_101 : decode b_M_isRound 101 = .ok (.iload_n 1, 1) := by decide +kernel
theorem d_M_isRound_102 : decode b_M_isRound 102 = .ok (.iaload, 1) := by decide +kernel
theorem d_M_isRound_103 : decode b_M_isRound 103 = .ok (.i2l, 1) := by decide +kernel
theorem d_M_isRound_104 : decode b_M_isRound 104 = .ok (.aload_n 0, 1) := by decide +kernel
theorem d_M_isRound_105 : decode b_M_isRound 105 = .ok (.getfield 19, 3) := by decide +kernel
theorem d_M_isRound_108 : decode b_M_isRound 108 = .ok (.iload_n 2, 1) := by decide +kernel
theorem d_M_isRound_109 : decode b_M_isRound 109 = .ok (.iaload, 1) := by decide +kernel
theorem d_M_isRound_110 : decode b_M_isRound 110 = .ok (.i2l, 1) := by decide +kernel
theorem d_M_isRound_111 : decode b_M_isRound 111 = .ok (.aload_n 0, 1) := by decide +kernel
theorem d_M_isRound_112 : decode b_M_isRound 112 = .ok (.getfield 22, 3) := by decide +kernel
theorem d_M_isRound_115 : decode b_M_isRound 115 = .ok (.iload_n 2, 1) := by decide +kernel
theorem d_M_isRound_116 : decode b_M_isRound 116 = .ok (.iaload, 1) := by decide +kernel
theorem d_M_isRound_117 : decode b_M_isRound 117 = .ok (.i2l, 1) := by decide +kernel
theorem d_M_isRound_118 : decode b_M_isRound 118 = .ok (.invokestatic 62, 3) := by decide +kernel
theorem d_M_isRound_121 : decode b_M_isRound 121 = .ok (.lstore 6, 2) := by decide +kernel
theorem d_M_isRound_123 : decode b_M_isRound 123 = .ok (.aload_n 0, 1) := by decide +kernel
theorem d_M_isRound_124 : decode b_M_isRound 124 = .ok (.getfield 19, 3) := by decide +kernel
theorem d_M_isRound_127 : decode b_M_isRound 127 = .ok (.iload_n 1, 1) := by decide +kernel
theorem d_M_isRound_128 : decode b_M_isRound 128 = .ok (.iaload, 1) := by decide +kernel
theorem d_M_isRound_129 : decode b_M_isRound 129 = .ok (.i2l, 1) := by decide +kernel
theorem d_M_isRound_130 : decode b_M_isRound 130 = .ok (.aload_n 0, 1) := by decide +kernel
theorem d_M_isRound_131 : decode b_M_isRound 131 = .ok (.getfield 22, 3) := by decide +kernel
theorem d_M_isRound_134 : decode b_M_isRound 134 = .ok (.iload_n 1, 1) := by decide +kernel
theorem d_M_isRound_135 : decode b_M_isRound 135 = .ok (.iaload, 1) := by decide +kernel
theorem d_M_isRound_136 : decode b_M_isRound 136 = .ok (.i2l, 1) := by decide +kernel
theorem d_M_isRound_137 : decode b_M_isRound 137 = .ok (.aload_n 0, 1) := by decide +kernel
theorem d_M_isRound_138 : decode b_M_isRound 138 = .ok (.getfield 19, 3) := by decide +kernel
theorem d_M_isRound_141 : decode b_M_isRound 141 = .ok (.iload_n 3, 1) := by decide +kernel
theorem d_M_isRound_142 : decode b_M_isRound 142 = .ok (.iaload, 1) := by decide +kernel
theorem d_M_isRound_143 : decode b_M_isRound 143 = .ok (.i2l, 1) := by decide +kernel
theorem d_M_isRound_144 : decode b_M_isRound 144 = .ok (.aload_n 0, 1) := by decide +kernel
theorem d_M_isRound_145 : decode b_M_isRound 145 = .ok (.getfield 22, 3) := by decide +kernel
theorem d_M_isRound_148 : decode b_M_isRound 148 = .ok (.iload_n 3, 1) := by decide +kernel
theorem d_M_isRound_149 : decode b_M_isRound 149 = .ok (.iaload, 1) := by decide +kernel
theorem d_M_isRound_150 : decode b_M_isRound 150 = .ok (.i2l, 1) := by decide +kernel
theorem d_M_isRound_151 : decode b_M_isRound 151 = .ok (.invokestatic 62, 3) := by decide +kernel
theorem d_M_isRound_154 : decode b_M_isRound 154 = .ok (.lstore 8, 2) := by decide +kernel
theorem d_M_isRound_156 : decode b_M_isRound 156 = .ok (.lload 6, 2) := by decide +kernel
theorem d_M_isRound_158 : decode b_M_isRound 158 = .ok (.aload_n 0, 1) := by decide +kernel
theorem d_M_isRound_159 : decode b_M_isRound 159 = .ok (.getfield 22, 3) := by decide +kernel
theorem d_M_isRound_162 : decode b_M_isRound 162 = .ok (.iload_n 3, 1) := by decide +kernel
theorem d_M_isRound_163 : decode b_M_isRound 163 = .ok (.iaload, 1) := by decide +kernel
theorem d_M_isRound_164 : decode b_M_isRound 164 = .ok (.aload_n 0, 1) := by decide +kernel
theorem d_M_isRound_165 : decode b_M_isRound 165 = .ok (.getfield 22, 3) := by decide +kernel
theorem d_M_isRound_168 : decode b_M_isRound 168 = .ok (.iload_n 1, 1) := by decide +kernel
theorem d_M_isRound_169 : decode b_M_isRound 169 = .ok (.iaload, 1) := by decide +kernel
theorem d_M_isRound_170 : decode b_M_isRound 170 = .ok (.isub, 1) := by decide +kernel
theorem d_M_isRound_171 : decode b_M_isRound 171 = .ok (.i2l, 1) := by decide +kernel
theorem d_M_isRound_172 : decode b_M_isRound 172 = .ok (.lmul, 1) := by decide +kernel
theorem d_M_isRound_173 : decode b_M_isRound 173 = .ok (.lload 8, 2) := by decide +kernel
theorem d_M_isRound_175 : decode b_M_isRound 175 = .ok (.aload_n 0, 1) := by decide +kernel
theorem d_M_isRound_176 : decode b_M_isRound 176 = .ok (.getfield 22, 3) := by decide +kernel
theorem d_M_isRound_179 : decode b_M_isRound 179 = .ok (.iload_n 2, 1) := by decide +kernel
theorem d_M_isRound_180 : decode b_M_isRound 180 = .ok (.iaload, 1) := by decide +kernel
theorem d_M_isRound_181 : decode b_M_isRound 181 = .ok (.aload_n 0, 1) := by decide +kernel
theorem d_M_isRound_182 : decode b_M_isRound 182 = .ok (.getfield 22, 3) := by decide +kernel
theorem d_M_isRound_185 : decode b_M_isRound 185 = .ok (.iload_n 1, 1) := by decide +kernel
theorem d_M_isRound_186 : decode b_M_isRound 186 = .ok (.iaload, 1) := by decide +kernel
theorem d_M_isRound_187 : decode b_M_isRound 187 = .ok (.isub, 1) := by decide +kernel
theorem d_M_isRound_188 : decode b_M_isRound 188 = .ok (.i2l, 1) := by decide +kernel
theorem d_M_isRound_189 : decode b_M_isRound 189 = .ok (.lmul, 1) := by decide +kernel
theorem d_M_isRound_190 : decode b_M_isRound 190 = .ok (.lsub, 1) := by decide +kernel
theorem d_M_isRound_191 : decode b_M_isRound 191 = .ok (.lstore 10, 2) := by decide +kernel
theorem d_M_isRound_193 : decode b_M_isRound 193 = .ok (.lload 8, 2) := by decide +kernel
theorem d_M_isRound_195 : decode b_M_isRound 195 = .ok (.aload_n 0, 1) := by decide +kernel
theorem d_M_isRound_196 : decode b_M_isRound 196 = .ok (.getfield 19, 3) := by decide +kernel
theorem d_M_isRound_199 : decode b_M_isRound 199 = .ok (.iload_n 2, 1) := by decide +kernel
theorem d_M_isRound_200 : decode b_M_isRound 200 = .ok (.iaload, 1) := by decide +kernel
theorem d_M_isRound_201 : decode b_M_isRound 201 = .ok (.aload_n 0, 1) := by decide +kernel
theorem d_M_isRound_202 : decode b_M_isRound 202 = .ok (.getfield 19, 3) := by decide +kernel
theorem d_M_isRound_205 : decode b_M_isRound 205 = .ok (.iload_n 1, 1) := by decide +kernel
theorem d_M_isRound_206 : decode b_M_isRound 206 = .ok (.iaload, 1) := by decide +kernel
theorem d_M_isRound_207 : decode b_M_isRound 207 = .ok (.isub, 1) := by decide +kernel
theorem d_M_isRound_208 : decode b_M_isRound 208 = .ok (.i2l, 1) := by decide +kernel
theorem d_M_isRound_209 : decode b_M_isRound 209 = .ok (.lmul, 1) := by decide +kernel
theorem d_M_isRound_210 : decode b_M_isRound 210 = .ok (.lload 6, 2) := by decide +kernel
theorem d_M_isRound_212 : decode b_M_isRound 212 = .ok (.aload_n 0, 1) := by decide +kernel
theorem d_M_isRound_213 : decode b_M_isRound 213 = .ok (.getfield 19, 3) := by decide +kernel
theorem d_M_isRound_216 : decode b_M_isRound 216 = .ok (.iload_n 3, 1) := by decide +kernel
theorem d_M_isRound_217 : decode b_M_isRound 217 = .ok (.iaload, 1) := by decide +kernel
theorem d_M_isRound_218 : decode b_M_isRound 218 = .ok (.aload_n 0, 1) := by decide +kernel
theorem d_M_isRound_219 : decode b_M_isRound 219 = .ok (.getfield 19, 3) := by decide +kernel
theorem d_M_isRound_222 : decode b_M_isRound 222 = .ok (.iload_n 1, 1) := by decide +kernel
theorem d_M_isRound_223 : decode b_M_isRound 223 = .ok (.iaload, 1) := by decide +kernel
theorem d_M_isRound_224 : decode b_M_isRound 224 = .ok (.isub, 1) := by decide +kernel
theorem d_M_isRound_225 : decode b_M_isRound 225 = .ok (.i2l, 1) := by decide +kernel
theorem d_M_isRound_226 : decode b_M_isRound 226 = .ok (.lmul, 1) := by decide +kernel
theorem d_M_isRound_227 : decode b_M_isRound 227 = .ok (.lsub, 1) := by decide +kernel
theorem d_M_isRound_228 : decode b_M_isRound 228 = .ok (.lstore 12, 2) := by decide +kernel
theorem d_M_isRound_230 : decode b_M_isRound 230 = .ok (.iconst 1, 1) := by decide +kernel
theorem d_M_isRound_231 : decode b_M_isRound 231 = .ok (.istore 14, 2) := by decide +kernel
theorem d_M_isRound_233 : decode b_M_isRound 233 = .ok (.iconst 0, 1) := by decide +kernel
theorem d_M_isRound_234 : decode b_M_isRound 234 = .ok (.istore 15, 2) := by decide +kernel
theorem d_M_isRound_236 : decode b_M_isRound 236 = .ok (.iload 15, 2) := by decide +kernel
theorem d_M_isRound_238 : decode b_M_isRound 238 = .ok (.aload_n 0, 1) := by decide +kernel
theorem d_M_isRound_239 : decode b_M_isRound 239 = .ok (.getfield 45, 3) := by decide +kernel
theorem d_M_isRound_242 : decode b_M_isRound 242 = .ok (.if_icmp .ge (88), 3) := by decide +kernel
theorem d_M_isRound_245 : decode b_M_isRound 245 = .ok (.iload 14, 2) := by decide +kernel
theorem d_M_isRound_247 : decode b_M_isRound 247 = .ok (.ifCond .eq (83), 3) := by decide +kernel
theorem d_M_isRound_250 : decode b_M_isRound 250 = .ok (.aload_n 0, 1) := by decide +kernel
theorem d_M_isRound_251 : decode b_M_isRound 251 = .ok (.getfield 19, 3) := by decide +kernel
theorem d_M_isRound_254 : decode b_M_isRound 254 = .ok (.iload 15, 2) := by decide +kernel
theorem d_M_isRound_256 : decode b_M_isRound 256 = .ok (.iaload, 1) := by decide +kernel
theorem d_M_isRound_257 : decode b_M_isRound 257 = .ok (.aload_n 0, 1) := by decide +kernel
theorem d_M_isRound_258 : decode b_M_isRound 258 = .ok (.getfield 19, 3) := by decide +kernel
theorem d_M_isRound_261 : decode b_M_isRound 261 = .ok (.iload_n 1, 1) := by decide +kernel
theorem d_M_isRound_262 : decode b_M_isRound 262 = .ok (.iaload, 1) := by decide +kernel
theorem d_M_isRound_263 : decode b_M_isRound 263 = .ok (.isub, 1) := by decide +kernel
theorem d_M_isRound_264 : decode b_M_isRound 264 = .ok (.i2l, 1) := by decide +kernel
theorem d_M_isRound_265 : decode b_M_isRound 265 = .ok (.lstore 16, 2) := by decide +kernel
theorem d_M_isRound_267 : decode b_M_isRound 267 = .ok (.aload_n 0, 1) := by decide +kernel
theorem d_M_isRound_268 : decode b_M_isRound 268 = .ok (.getfield 22, 3) := by decide +kernel
theorem d_M_isRound_271 : decode b_M_isRound 271 = .ok (.iload 15, 2) := by decide +kernel
theorem d_M_isRound_273 : decode b_M_isRound 273 = .ok (.iaload, 1) := by decide +kernel
theorem d_M_isRound_274 : decode b_M_isRound 274 = .ok (.aload_n 0, 1) := by decide +kernel
theorem d_M_isRound_275 : decode b_M_isRound 275 = .ok (.getfield 22, 3) := by decide +kernel
theorem d_M_isRound_278 : decode b_M_isRound 278 = .ok (.iload_n 1, 1) := by decide +kernel
theorem d_M_isRound_279 : decode b_M_isRound 279 = .ok (.iaload, 1) := by decide +kernel
theorem d_M_isRound_280 : decode b_M_isRound 280 = .ok (.isub, 1) := by decide +kernel
theorem d_M_isRound_281 : decode b_M_isRound 281 = .ok (.i2l, 1) := by decide +kernel
theorem d_M_isRound_282 : decode b_M_isRound 282 = .ok (.lstore 18, 2) := by decide +kernel
theorem d_M_isRound_284 : decode b_M_isRound 284 = .ok (.lload 16, 2) := by decide +kernel
theorem d_M_isRound_286 : decode b_M_isRound 286 = .ok (.lload 16, 2) := by decide +kernel
theorem d_M_isRound_288 : decode b_M_isRound 288 = .ok (.lmul, 1) := by decide +kernel
theorem d_M_isRound_289 : decode b_M_isRound 289 = .ok (.lload 18, 2) := by decide +kernel
theorem d_M_isRound_291 : decode b_M_isRound 291 = .ok (.lload 18, 2) := by decide +kernel
theorem d_M_isRound_293 : decode b_M_isRound 293 = .ok (.lmul, 1) := by decide +kernel
theorem d_M_isRound_294 : decode b_M_isRound 294 = .ok (.ladd, 1) := by decide +kernel
theorem d_M_isRound_295 : decode b_M_isRound 295 = .ok (.lload 4, 2) := by decide +kernel
theorem d_M_isRound_297 : decode b_M_isRound 297 = .ok (.lmul, 1) := by decide +kernel
theorem d_M_isRound_298 : decode b_M_isRound 298 = .ok (.ldc2_w 99, 3) := by decide +kernel
theorem d_M_isRound_301 : decode b_M_isRound 301 = .ok (.lload 16, 2) := by decide +kernel
theorem d_M_isRound_303 : decode b_M_isRound 303 = .ok (.lload 10, 2) := by decide +kernel
theorem d_M_isRound_305 : decode b_M_isRound 305 = .ok (.lmul, 1) := by decide +kernel
theorem d_M_isRound_306 : decode b_M_isRound 306 = .ok (.lload 18, 2) := by decide +kernel
theorem d_M_isRound_308 : decode b_M_isRound 308 = .ok (.lload 12, 2) := by decide +kernel
theorem d_M_isRound_310 : decode b_M_isRound 310 = .ok (.lmul, 1) := by decide +kernel
theorem d_M_isRound_311 : decode b_M_isRound 311 = .ok (.ladd, 1) := by decide +kernel
theorem d_M_isRound_312 : decode b_M_isRound 312 = .ok (.lmul, 1) := by decide +kernel
theorem d_M_isRound_313 : decode b_M_isRound 313 = .ok (.lcmp, 1) := by decide +kernel
theorem d_M_isRound_314 : decode b_M_isRound 314 = .ok (.ifCond .gt (7), 3) := by decide +kernel
theorem d_M_isRound_317 : decode b_M_isRound 317 = .ok (.iconst 1, 1) := by decide +kernel
theorem d_M_isRound_318 : decode b_M_isRound 318 = .ok (.goto (4), 3) := by decide +kernel
theorem d_M_isRound_321 : decode b_M_isRound 321 = .ok (.iconst 0, 1) := by decide +kernel
theorem d_M_isRound_322 : decode b_M_isRound 322 = .ok (.istore 14, 2) := by decide +kernel
theorem d_M_isRound_324 : decode b_M_isRound 324 = .ok (.iinc 15 (1), 3) := by decide +kernel
theorem d_M_isRound_327 : decode b_M_isRound 327 = .ok (.goto (-91), 3) := by decide +kernel
theorem d_M_isRound_330 : decode b_M_isRound 330 = .ok (.aload_n 0, 1) := by decide +kernel
theorem d_M_isRound_331 : decode b_M_isRound 331 = .ok (.aload_n 0, 1) := by decide +kernel
theorem d_M_isRound_332 : decode b_M_isRound 332 = .ok (.getfield 19, 3) := by decide +kernel
theorem d_M_isRound_335 : decode b_M_isRound 335 = .ok (.iload_n 1, 1) := by decide +kernel
theorem d_M_isRound_336 : decode b_M_isRound 336 = .ok (.iaload, 1) := by decide +kernel
theorem d_M_isRound_337 : decode b_M_isRound 337 = .ok (.i2l, 1) := by decide +kernel
theorem d_M_isRound_338 : decode b_M_isRound 338 = .ok (.lload 4, 2) := by decide +kernel
theorem d_M_isRound_340 : decode b_M_isRound 340 = .ok (.lmul, 1) := by decide +kernel
theorem d_M_isRound_341 : decode b_M_isRound 341 = .ok (.lload 10, 2) := by decide +kernel
theorem d_M_isRound_343 : decode b_M_isRound 343 = .ok (.ladd, 1) := by decide +kernel
theorem d_M_isRound_344 : decode b_M_isRound 344 = .ok (.putfield 149, 3) := by decide +kernel
theorem d_M_isRound_347 : decode b_M_isRound 347 = .ok (.aload_n 0, 1) := by decide +kernel
theorem d_M_isRound_348 : decode b_M_isRound 348 = .ok (.aload_n 0, 1) := by decide +kernel
theorem d_M_isRound_349 : decode b_M_isRound 349 = .ok (.getfield 22, 3) := by decide +kernel
theorem d_M_isRound_352 : decode b_M_isRound 352 = .ok (.iload_n 1, 1) := by decide +kernel
theorem d_M_isRound_353 : decode b_M_isRound 353 = .ok (.iaload, 1) := by decide +kernel
theorem d_M_isRound_354 : decode b_M_isRound 354 = .ok (.i2l, 1) := by decide +kernel
theorem d_M_isRound_355 : decode b_M_isRound 355 = .ok (.lload 4, 2) := by decide +kernel
theorem d_M_isRound_357 : decode b_M_isRound 357 = .ok (.lmul, 1) := by decide +kernel
theorem d_M_isRound_358 : decode b_M_isRound 358 = .ok (.lload 12, 2) := by decide +kernel
theorem d_M_isRound_360 : decode b_M_isRound 360 = .ok (.ladd, 1) := by decide +kernel
theorem d_M_isRound_361 : decode b_M_isRound 361 = .ok (.putfield 152, 3) := by decide +kernel
theorem d_M_isRound_364 : decode b_M_isRound 364 = .ok (.aload_n 0, 1) := by decide +kernel
theorem d_M_isRound_365 : decode b_M_isRound 365 = .ok (.lload 4, 2) := by decide +kernel
theorem d_M_isRound_367 : decode b_M_isRound 367 = .ok (.putfield 155, 3) := by decide +kernel
theorem d_M_isRound_370 : decode b_M_isRound 370 = .ok (.aload_n 0, 1) := by decide +kernel
theorem d_M_isRound_371 : decode b_M_isRound 371 = .ok (.lload 10, 2) := by decide +kernel
theorem d_M_isRound_373 : decode b_M_isRound 373 = .ok (.lload 10, 2) := by decide +kernel
theorem d_M_isRound_375 : decode b_M_isRound 375 = .ok (.lmul, 1) := by decide +kernel
theorem d_M_isRound_376 : decode b_M_isRound 376 = .ok (.lload 12, 2) := by decide +kernel
theorem d_M_isRound_378 : decode b_M_isRound 378 = .ok (.lload 12, 2) := by decide +kernel
theorem d_M_isRound_380 : decode b_M_isRound 380 = .ok (.lmul, 1) := by decide +kernel
theorem d_M_isRound_381 : decode b_M_isRound 381 = .ok (.ladd, 1) := by decide +kernel
theorem d_M_isRound_382 : decode b_M_isRound 382 = .ok (.putfield 158, 3) := by decide +kernel
theorem d_M_isRound_385 : decode b_M_isRound 385 = .ok (.aload_n 0, 1) := by decide +kernel
theorem d_M_isRound_386 : decode b_M_isRound 386 = .ok (.lload 4, 2) := by decide +kernel
theorem d_M_isRound_388 : decode b_M_isRound 388 = .ok (.lload 4, 2) := by decide +kernel
theorem d_M_isRound_390 : decode b_M_isRound 390 = .ok (.lmul, 1) := by decide +kernel
theorem d_M_isRound_391 : decode b_M_isRound 391 = .ok (.putfield 161, 3) := by decide +kernel
theorem d_M_isRound_394 : decode b_M_isRound 394 = .ok (.iload 14, 2) := by decide +kernel
theorem d_M_isRound_396 : decode b_M_isRound 396 = .ok (.ireturn, 1) := by decide +kernel
theorem d_M_findCircle_0 : decode b_M_findCircle 0 = .ok (.iconst 0, 1) := by decide +kernel
theorem d_M_findCircle_1 : decode b_M_findCircle 1 = .ok (.istore_n 1, 1) := by decide +kernel
theorem d_M_findCircle_2 : decode b_M_findCircle 2 = .ok (.iload_n 1, 1) := by decide +kernel
theorem d_M_findCircle_3 : decode b_M_findCircle 3 = .ok (.aload_n 0, 1) := by decide +kernel
theorem d_M_findCircle_4 : decode b_M_findCircle 4 = .ok (.getfield 45, 3) := by decide +kernel
theorem d_M_findCircle_7 : decode b_M_findCircle 7 = .ok (.if_icmp .ge (118), 3) := by decide +kernel
theorem d_M_findCircle_10 : decode b_M_findCircle 10 = .ok (.iconst 0, 1) := by decide +kernel
theorem d_M_findCircle_11 : decode b_M_findCircle 11 = .ok (.istore_n 2, 1) := by decide +kernel
theorem d_M_findCircle_12 : decode b_M_findCircle 12 = .ok (.iload_n 2, 1) := by decide +kernel
theorem d_M_findCircle_13 : decode b_M_findCircle 13 = .ok (.iload_n 1, 1) := by decide +kernel
theorem d_M_findCircle_14 : decode b_M_findCircle 14 = .ok (.if_icmp .gt (105), 3) := by decide +kernel
theorem d_M_findCircle_17 : decode b_M_findCircle 17 = .ok (.aload_n 0, 1) := by decide +kernel
theorem d_M_findCircle_18 : decode b_M_findCircle 18 = .ok (.iload_n 1, 1) := by decide +kernel
theorem d_M_findCircle_19 : decode b_M_findCircle 19 = .ok (.iload_n 2, 1) := by decide +kernel
theorem d_M_findCircle_20 : decode b_M_findCircle 20 = .ok (.invokevirtual 164, 3) := by decide +kernel
theorem d_M_findCircle_23 : decode b_M_findCircle 23 = .ok (.ifCond .eq (90), 3) := by decide +kernel
theorem d_M_findCircle_26 : decode b_M_findCircle 26 = .ok (.aload_n 0, 1) := by decide +kernel
theorem d_M_findCircle_27 : decode b_M_findCircle 27 = .ok (.aload_n 0, 1) := by decide +kernel
theorem d_M_findCircle_28 : decode b_M_findCircle 28 = .ok (.getfield 19, 3) := by decide +kernel
theorem d_M_findCircle_31 : decode b_M_findCircle 31 = .ok (.iload_n 1, 1) := by decide +kernel
theorem d_M_findCircle_32 : decode b_M_findCircle 32 = .ok (.iaload, 1) := by decide +kernel
theorem d_M_findCircle_33 : decode b_M_findCircle 33 = .ok (.aload_n 0, 1) := by decide +kernel
theorem d_M_findCircle_34 : decode b_M_findCircle 34 = .ok (.getfield 19, 3) := by decide +kernel
theorem d_M_findCircle_37 : decode b_M_findCircle 37 = .ok (.iload_n 2, 1) := by decide +kernel
theorem d_M_findCircle_38 : decode b_M_findCircle 38 = .ok (.iaload, 1) := by decide +kernel
theorem d_M_findCircle_39 : decode b_M_findCircle 39 = .ok (.iadd, 1) := by decide +kernel
theorem d_M_findCircle_40 : decode b_M_findCircle 40 = .ok (.i2l, 1) := by decide +kernel
theorem d_M_findCircle_41 : decode b_M_findCircle 41 = .ok (.putfield 149, 3) := by decide +kernel
theorem d_M_findCircle_44 : decode b_M_findCircle 44 = .ok (.aload_n 0, 1) := by decide +kernel
theorem d_M_findCircle_45 : decode b_M_findCircle 45 = .ok (.aload_n 0, 1) := by decide +kernel
theorem d_M_findCircle_46 : decode b_M_findCircle 46 = .ok (.getfield 22, 3) := by decide +kernel
theorem d_M_findCircle_49 : decode b_M_findCircle 49 = .ok (.iload_n 1, 1) := by decide +kernel
theorem d_M_findCircle_50 : decode b_M_findCircle 50 = .ok (.iaload, 1) := by decide +kernel
theorem d_M_findCircle_51 : decode b_M_findCircle 51 = .ok (.aload_n 0, 1) := by decide +kernel
theorem d_M_findCircle_52 : decode b_M_findCircle 52 = .ok (.getfield 22, 3) := by decide +kernel
theorem d_M_findCircle_55 : decode b_M_findCircle 55 = .ok (.iload_n 2, 1) := by decide +kernel
theorem d_M_findCircle_56 : decode b_M_findCircle 56 = .ok (.iaload, 1) := by decide +kernel
theorem d_M_findCircle_57 : decode b_M_findCircle 57 = .ok (.iadd, 1) := by decide +kernel
theorem d_M_findCircle_58 : decode b_M_findCircle 58 = .ok (.i2l, 1) := by decide +kernel
theorem d_M_findCircle_59 : decode b_M_findCircle 59 = .ok (.putfield 152, 3) := by decide +kernel
theorem d_M_findCircle_62 : decode b_M_findCircle 62 = .ok (.aload_n 0, 1) := by decide +kernel
theorem d_M_findCircle_63 : decode b_M_findCircle 63 = .ok (.ldc2_w 99, 3) := by decide +kernel
theorem d_M_findCircle_66 : decode b_M_findCircle 66 = .ok (.putfield 155, 3) := by decide +kernel
theorem d_M_findCircle_69 : decode b_M_findCircle 69 = .ok (.aload_n 0, 1) := by decide +kernel
theorem d_M_findCircle_70 : decode b_M_findCircle 70 = .ok (.aload_n 0, 1) := by decide +kernel
theorem d_M_findCircle_71 : decode b_M_findCircle 71 = .ok (.getfield 19, 3) := by decide +kernel
theorem d_M_findCircle_74 : decode b_M_findCircle 74 = .ok (.iload_n 1, 1) := by decide +kernel
theorem d_M_findCircle_75 : decode b_M_findCircle 75 = .ok (.iaload, 1) := by decide +kernel
theorem d_M_findCircle_76 : decode b_M_findCircle 76 = .ok (.i2l, 1) := by decide +kernel
theorem d_M_findCircle_77 : decode b_M_findCircle 77 = .ok (.aload_n 0, 1) := by decide +kernel
theorem d_M_findCircle_78 : decode b_M_findCircle 78 = .ok (.getfield 22, 3) := by decide +kernel
theorem d_M_findCircle_81 : decode b_M_findCircle 81 = .ok (.iload_n 1, 1) := by decide +kernel
theorem d_M_findCircle_82 : decode b_M_findCircle 82 = .ok (.iaload, 1) := by decide +kernel
theorem d_M_findCircle_83 : decode b_M_findCircle 83 = .ok (.i2l, 1) := by decide +kernel
theorem d_M_findCircle_84 : decode b_M_findCircle 84 = .ok (.aload_n 0, 1) := by decide +kernel
theorem d_M_findCircle_85 : decode b_M_findCircle 85 = .ok (.getfield 19, 3) := by decide +kernel
theorem d_M_findCircle_88 : decode b_M_findCircle 88 = .ok (.iload_n 2, 1) := by decide +kernel
theorem d_M_findCircle_89 : decode b_M_findCircle 89 = .ok (.iaload, 1) := by decide +kernel
theorem d_M_findCircle_90 : decode b_M_findCircle 90 = .ok (.i2l, 1) := by decide +kernel
theorem d_M_findCircle_91 : decode b_M_findCircle 91 = .ok (.aload_n 0, 1) := by decide +kernel
theorem d_M_findCircle_92 : decode b_M_findCircle 92 = .ok (.getfield 22, 3) := by decide +kernel
theorem d_M_findCircle_95 : decode b_M_findCircle 95 = .ok (.iload_n 2, 1) := by decide +kernel
theorem d_M_findCircle_96 : decode b_M_findCircle 96 = .ok (.iaload, 1) := by decide +kernel
theorem d_M_findCircle_97 : decode b_M_findCircle 97 = .ok (.i2l, 1) := by decide +kernel
theorem d_M_findCircle_98 : decode b_M_findCircle 98 = .ok (.invokestatic 62, 3) := by decide +kernel
theorem d_M_findCircle_101 : decode b_M_findCircle 101 = .ok (.putfield 158, 3) := by decide +kernel
theorem d_M_findCircle_104 : decode b_M_findCircle 104 = .ok (.aload_n 0, 1) := by decide +kernel
theorem d_M_findCircle_105 : decode b_M_findCircle 105 = .ok (.ldc2_w 168, 3) := by decide +kernel
theorem d_M_findCircle_108 : decode b_M_findCircle 108 = .ok (.putfield 161, 3) := by decide +kernel
theorem d_M_findCircle_111 : decode b_M_findCircle 111 = .ok (.iconst 1, 1) := by decide +kernel
theorem d_M_findCircle_112 : decode b_M_findCircle 112 = .ok (.ireturn, 1) := by decide +kernel
theorem d_M_findCircle_113 : decode b_M_findCircle 113 = .ok (.iinc 2 (1), 3) := by decide +kernel
theorem d_M_findCircle_116 : decode b_M_findCircle 116 = .ok (.goto (-104), 3) := by decide +kernel
theorem d_M_findCircle_119 : decode b_M_findCircle 119 = .ok (.iinc 1 (1), 3) := by decide +kernel
theorem d_M_findCircle_122 : decode b_M_findCircle 122 = .ok (.goto (-120), 3) := by decide +kernel
theorem d_M_findCircle_125 : decode b_M_findCircle 125 = .ok (.iconst 0, 1) := by decide +kernel
theorem d_M_findCircle_126 : decode b_M_findCircle 126 = .ok (.istore_n 1, 1) := by decide +kernel
theorem d_M_findCircle_127 : decode b_M_findCircle 127 = .ok (.iload_n 1, 1) := by decide +kernel
theorem d_M_findCircle_128 : decode b_M_findCircle 128 = .ok (.aload_n 0, 1) := by decide +kernel
theorem d_M_findCircle_129 : decode b_M_findCircle 129 = .ok (.getfield 45, 3) := by decide +kernel
theorem d_M_findCircle_132 : decode b_M_findCircle 132 = .ok (.if_icmp .ge (68), 3) := by decide +kernel
theorem d_M_findCircle_135 : decode b_M_findCircle 135 = .ok (.iconst 0, 1) := by decide +kernel
theorem d_M_findCircle_136 : decode b_M_findCircle 136 = .ok (.istore_n 2, 1) := by decide +kernel
theorem d_M_findCircle_137 : decode b_M_findCircle 137 = .ok (.iload_n 2, 1) := by decide +kernel
theorem d_M_findCircle_138 : decode b_M_findCircle 138 = .ok (.aload_n 0, 1) := by decide +kernel
theorem d_M_findCircle_139 : decode b_M_findCircle 139 = .ok (.getfield 45, 3) := by decide +kernel
theorem d_M_findCircle_142 : decode b_M_findCircle 142 = .ok (.if_icmp .ge (52), 3) := by decide +kernel
theorem d_M_findCircle_145 : decode b_M_findCircle 145 = .ok (.iconst 0, 1) := by decide +kernel
theorem d_M_findCircle_146 : decode b_M_findCircle 146 = .ok (.istore_n 3, 1) := by decide +kernel
theorem d_M_findCircle_147 : decode b_M_findCircle 147 = .ok (.iload_n 3, 1) := by decide +kernel
theorem d_M_findCircle_148 : decode b_M_findCircle 148 = .ok (.aload_n 0, 1) := by decide +kernel
theorem d_M_findCircle_149 : decode b_M_findCircle 149 = .ok (.getfield 45, 3) := by decide +kernel
theorem d_M_findCircle_152 : decode b_M_findCircle 152 = .ok (.if_icmp .ge (36), 3) := by decide +kernel
theorem d_M_findCircle_155 : decode b_M_findCircle 155 = .ok (.iload_n 1, 1) := by decide +kernel
theorem d_M_findCircle_156 : decode b_M_findCircle 156 = .ok (.iload_n 2, 1) := by decide +kernel
theorem d_M_findCircle_157 : decode b_M_findCircle 157 = .ok (.if_icmp .eq (25), 3) := by decide +kernel
theorem d_M_findCircle_160 : decode b_M_findCircle 160 = .ok (.iload_n 2, 1) := by decide +kernel
theorem d_M_findCircle_161 : decode b_M_findCircle 161 = .ok (.iload_n 3, 1) := by decide +kernel
theorem d_M_findCircle_162 : decode b_M_findCircle 162 = .ok (.if_icmp .eq (20), 3) := by decide +kernel
theorem d_M_findCircle_165 : decode b_M_findCircle 165 = .ok (.iload_n 1, 1) := by decide +kernel
theorem d_M_findCircle_166 : decode b_M_findCircle 166 = .ok (.iload_n 3, 1) := by decide +kernel
theorem d_M_findCircle_167 : decode b_M_findCircle 167 = .ok (.if_icmp .eq (15), 3) := by decide +kernel
theorem d_M_findCircle_170 : decode b_M_findCircle 170 = .ok (.aload_n 0, 1) := by decide +kernel
theorem d_M_findCircle_171 : decode b_M_findCircle 171 = .ok (.iload_n 1, 1) := by decide +kernel
theorem d_M_findCircle_172 : decode b_M_findCircle 172 = .ok (.iload_n 2, 1) := by decide +kernel
theorem d_M_findCircle_173 : decode b_M_findCircle 173 = .ok (.iload_n 3, 1) := by decide +kernel
theorem d_M_findCircle_174 : decode b_M_findCircle 174 = .ok (.invokevirtual 170, 3) := by decide +kernel
theorem d_M_findCircle_177 : decode b_M_findCircle 177 = .ok (.ifCond .eq (5), 3) := by decide +kernel
theorem d_M_findCircle_180 : decode b_M_findCircle 180 = .ok (.iconst 1, 1) := by decide +kernel
theorem d_M_findCircle_181 : decode b_M_findCircle 181 = .ok (.ireturn, 1) := by decide +kernel
theorem d_M_findCircle_182 : decode b_M_findCircle 182 = .ok (.iinc 3 (1), 3) := by decide +kernel
theorem d_M_findCircle_185 : decode b_M_findCircle 185 = .ok (.goto (-38), 3) := by decide +kernel
theorem d_M_findCircle_188 : decode b_M_findCircle 188 = .ok (.iinc 2 (1), 3) := by decide +kernel
theorem d_M_findCircle_191 : decode b_M_findCircle 191 = .ok (.goto (-54), 3) := by decide +kernel
theorem d_M_findCircle_194 : decode b_M_findCircle 194 = .ok (.iinc 1 (1), 3) := by decide +kernel
theorem d_M_findCircle_197 : decode b_M_findCircle 197 = .ok (.goto (-70), 3) := by decide +kernel
theorem d_M_findCircle_200 : decode b_M_findCircle 200 = .ok (.iconst 0, 1) := by decide +kernel
theorem d_M_findCircle_201 : decode b_M_findCircle 201 = .ok (.ireturn, 1) := by decide +kernel
theorem d_M_circle_0 : decode b_M_circle 0 = .ok (.aload_n 0, 1) := by decide +kernel
theorem d_M_circle_1 : decode b_M_circle 1 = .ok (.iload_n 1, 1) := by decide +kernel
theorem d_M_circle_2 : decode b_M_circle 2 = .ok (.invokevirtual 79, 3) := by decide +kernel
theorem d_M_circle_5 : decode b_M_circle 5 = .ok (.ifCond .ne (5), 3) := by decide +kernel
theorem d_M_circle_8 : decode b_M_circle 8 = .ok (.iconst (-1), 1) := by decide +kernel
theorem d_M_circle_9 : decode b_M_circle 9 = .ok (.ireturn, 1) := by decide +kernel
theorem d_M_circle_10 : decode b_M_circle 10 = .ok (.iload_n 2, 1) := by decide +kernel
theorem d_M_circle_11 : decode b_M_circle 11 = .ok (.iconst 0, 1) := by decide +kernel
theorem d_M_circle_12 : decode b_M_circle 12 = .ok (.iconst 2, 1) := by decide +kernel
theorem d_M_circle_13 : decode b_M_circle 13 = .ok (.invokestatic 83, 3) := by decide +kernel
theorem d_M_circle_16 : decode b_M_circle 16 = .ok (.ifCond .ne (6), 3) := by decide +kernel
theorem d_M_circle_19 : decode b_M_circle 19 = .ok (.bipush (-2), 2) := by decide +kernel
theorem d_M_circle_21 : decode b_M_circle 21 = .ok (.ireturn, 1) := by decide +kernel
theorem d_M_circle_22 : decode b_M_circle 22 = .ok (.aload_n 0, 1) := by decide +kernel
theorem d_M_circle_23 : decode b_M_circle 23 = .ok (.iload_n 1, 1) := by decide +kernel
theorem d_M_circle_24 : decode b_M_circle 24 = .ok (.invokevirtual 87, 3) := by decide +kernel
theorem d_M_circle_27 : decode b_M_circle 27 = .ok (.aload_n 0, 1) := by decide +kernel
theorem d_M_circle_28 : decode b_M_circle 28 = .ok (.invokevirtual 173, 3) := by decide +kernel
theorem d_M_circle_31 : decode b_M_circle 31 = .ok (.ifCond .ne (6), 3) := by decide +kernel
theorem d_M_circle_34 : decode b_M_circle 34 = .ok (.bipush (-3), 2) := by decide +kernel
theorem d_M_circle_36 : decode b_M_circle 36 = .ok (.ireturn, 1) := by decide +kernel
theorem d_M_circle_37 : decode b_M_circle 37 = .ok (.iload_n 2, 1) := by decide +kernel
theorem d_M_circle_38 : decode b_M_circle 38 = .ok (.iconst 2, 1) := by decide +kernel
theorem d_M_circle_39 : decode b_M_circle 39 = .ok (.if_icmp .ne (18), 3) := by decide +kernel
theorem d_M_circle_42 : decode b_M_circle 42 = .ok (.aload_n 0, 1) := by decide +kernel
theorem d_M_circle_43 : decode b_M_circle 43 = .ok (.aload_n 0, 1) := by decide +kernel
theorem d_M_circle_44 : decode b_M_circle 44 = .ok (.getfield 158, 3) := by decide +kernel
theorem d_M_circle_47 : decode b_M_circle 47 = .ok (.aload_n 0, 1) := by decide +kernel
theorem d_M_circle_48 : decode b_M_circle 48 = .ok (.getfield 161, 3) := by decide +kernel
theorem d_M_circle_51 : decode b_M_circle 51 = .ok (.invokevirtual 143, 3) := by decide +kernel
theorem d_M_circle_54 : decode b_M_circle 54 = .ok (.goto (26), 3) := by decide +kernel
theorem d_M_circle_57 : decode b_M_circle 57 = .ok (.aload_n 0, 1) := by decide +kernel
theorem d_M_circle_58 : decode b_M_circle 58 = .ok (.iload_n 2, 1) := by decide +kernel
theorem d_M_circle_59 : decode b_M_circle 59 = .ok (.ifCond .ne (10), 3) := by decide +kernel
theorem d_M_circle_62 : decode b_M_circle 62 = .ok (.aload_n 0, 1) := by decide +kernel
theorem d_M_circle_63 : decode b_M_circle 63 = .ok (.getfield 149, 3) := by decide +kernel
theorem d_M_circle_66 : decode b_M_circle 66 = .ok (.goto (7), 3) := by decide +kernel
theorem d_M_circle_69 : decode b_M_circle 69 = .ok (.aload_n 0, 1) := by decide +kernel
theorem d_M_circle_70 : decode b_M_circle 70 = .ok (.getfield 152, 3) := by decide +kernel
theorem d_M_circle_73 : decode b_M_circle 73 = .ok (.aload_n 0, 1) := by decide +kernel
theorem d_M_circle_74 : decode b_M_circle 74 = .ok (.getfield 155, 3) := by decide +kernel
theorem d_M_circle_77 : decode b_M_circle 77 = .ok (.invokevirtual 143, 3) := by decide +kernel
theorem d_M_circle_80 : decode b_M_circle 80 = .ok (.iconst 1, 1) := by decide +kernel
theorem d_M_circle_81 : decode b_M_circle 81 = .ok (.ireturn, 1) := by decide +kernel
theorem d_M_keep_0 : decode b_M_keep 0 = .ok (.aload_n 0, 1) := by decide +kernel
theorem d_M_keep_1 : decode b_M_keep 1 = .ok (.getfield 39, 3) := by decide +kernel
theorem d_M_keep_4 : decode b_M_keep 4 = .ok (.bipush (8), 2) := by decide +kernel
theorem d_M_keep_6 : decode b_M_keep 6 = .ok (.if_icmp .eq (12), 3) := by decide +kernel
theorem d_M_keep_9 : decode b_M_keep 9 = .ok (.aload_n 0, 1) := by decide +kernel
theorem d_M_keep_10 : decode b_M_keep 10 = .ok (.getfield 51, 3) := by decide +kernel
theorem d_M_keep_13 : decode b_M_keep 13 = .ok (.bipush (24), 2) := by decide +kernel
theorem d_M_keep_15 : decode b_M_keep 15 = .ok (.if_icmp .le (6), 3) := by decide +kernel
theorem d_M_keep_18 : decode b_M_keep 18 = .ok (.bipush (-5), 2) := by decide +kernel
theorem d_M_keep_20 : decode b_M_keep 20 = .ok (.ireturn, 1) := by decide +kernel
theorem d_M_keep_21 : decode b_M_keep 21 = .ok (.iconst 0, 1) := by decide +kernel
theorem d_M_keep_22 : decode b_M_keep 22 = .ok (.istore_n 1, 1) := by decide +kernel
theorem d_M_keep_23 : decode b_M_keep 23 = .ok (.iload_n 1, 1) := by decide +kernel
theorem d_M_keep_24 : decode b_M_keep 24 = .ok (.aload_n 0, 1) := by decide +kernel
theorem d_M_keep_25 : decode b_M_keep 25 = .ok (.getfield 51, 3) := by decide +kernel
theorem d_M_keep_28 : decode b_M_keep 28 = .ok (.if_icmp .ge (49), 3) := by decide +kernel
theorem d_M_keep_31 : decode b_M_keep 31 = .ok (.aload_n 0, 1) := by decide +kernel
theorem d_M_keep_32 : decode b_M_keep 32 = .ok (.getfield 7, 3) := by decide +kernel
theorem d_M_keep_35 : decode b_M_keep 35 = .ok (.bipush (24), 2) := by decide +kernel
theorem d_M_keep_37 : decode b_M_keep 37 = .ok (.aload_n 0, 1) := by decide +kernel
theorem d_M_keep_38 : decode b_M_keep 38 = .ok (.getfield 39, 3) := by decide +kernel
theorem d_M_keep_41 : decode b_M_keep 41 = .ok (.imul, 1) := by decide +kernel
theorem d_M_keep_42 : decode b_M_keep 42 = .ok (.iload_n 1, 1) := by decide +kernel
theorem d_M_keep_43 : decode b_M_keep 43 = .ok (.iadd, 1) := by decide +kernel
theorem d_M_keep_44 : decode b_M_keep 44 = .ok (.aload_n 0, 1) := by decide +kernel
theorem d_M_keep_45 : decode b_M_keep 45 = .ok (.getfield 25, 3) := by decide +kernel
theorem d_M_keep_48 : decode b_M_keep 48 = .ok (.iload_n 1, 1) := by decide +kernel
theorem d_M_keep_49 : decode b_M_keep 49 = .ok (.iaload, 1) := by decide +kernel
theorem d_M_keep_50 : decode b_M_keep 50 = .ok (.iastore, 1) := by decide +kernel
theorem d_M_keep_51 : decode b_M_keep 51 = .ok (.aload_n 0, 1) := by decide +kernel
theorem d_M_keep_52 : decode b_M_keep 52 = .ok (.getfield 13, 3) := by decide +kernel
theorem d_M_keep_55 : decode b_M_keep 55 = .ok (.bipush (24), 2) := by decide +kernel
theorem d_M_keep_57 : decode b_M_keep 57 = .ok (.aload_n 0, 1) := by decide +kernel
theorem d_M_keep_58 : decode b_M_keep 58 = .ok (.getfield 39, 3) := by decide +kernel
theorem d_M_keep_61 : decode b_M_keep 61 = .ok (.imul, 1) := by decide +kernel
theorem d_M_keep_62 : decode b_M_keep 62 = .ok (.iload_n 1, 1) := by decide +kernel
theorem d_M_keep_63 : decode b_M_keep 63 = .ok (.iadd, 1) := by decide +kernel
theorem d_M_keep_64 : decode b_M_keep 64 = .ok (.aload_n 0, 1) := by decide +kernel
theorem d_M_keep_65 : decode b_M_keep 65 = .ok (.getfield 28, 3) := by decide +kernel
theorem d_M_keep_68 : decode b_M_keep 68 = .ok (.iload_n 1, 1) := by decide +kernel
theorem d_M_keep_69 : decode b_M_keep 69 = .ok (.iaload, 1) := by decide +kernel
theorem d_M_keep_70 : decode b_M_keep 70 = .ok (.iastore, 1) := by decide +kernel
theorem d_M_keep_71 : decode b_M_keep 71 = .ok (.iinc 1 (1), 3) := by decide +kernel
theorem d_M_keep_74 : decode b_M_keep 74 = .ok (.goto (-51), 3) := by decide +kernel
theorem d_M_keep_77 : decode b_M_keep 77 = .ok (.aload_n 0, 1) := by decide +kernel
theorem d_M_keep_78 : decode b_M_keep 78 = .ok (.getfield 16, 3) := by decide +kernel
theorem d_M_keep_81 : decode b_M_keep 81 = .ok (.aload_n 0, 1) := by decide +kernel
theorem d_M_keep_82 : decode b_M_keep 82 = .ok (.getfield 39, 3) := by decide +kernel
theorem d_M_keep_85 : decode b_M_keep 85 = .ok (.aload_n 0, 1) := by decide +kernel
theorem d_M_keep_86 : decode b_M_keep 86 = .ok (.getfield 51, 3) := by decide +kernel
theorem d_M_keep_89 : decode b_M_keep 89 = .ok (.iastore, 1) := by decide +kernel
theorem d_M_keep_90 : decode b_M_keep 90 = .ok (.aload_n 0, 1) := by decide +kernel
theorem d_M_keep_91 : decode b_M_keep 91 = .ok (.dup, 1) := by decide +kernel
theorem d_M_keep_92 : decode b_M_keep 92 = .ok (.getfield 39, 3) := by decide +kernel
theorem d_M_keep_95 : decode b_M_keep 95 = .ok (.iconst 1, 1) := by decide +kernel
theorem d_M_keep_96 : decode b_M_keep 96 = .ok (.iadd, 1) := by decide +kernel
theorem d_M_keep_97 : decode b_M_keep 97 = .ok (.putfield 39, 3) := by decide +kernel
theorem d_M_keep_100 : decode b_M_keep 100 = .ok (.aload_n 0, 1) := by decide +kernel
theorem d_M_keep_101 : decode b_M_keep 101 = .ok (.getfield 39, 3) := by decide +kernel
theorem d_M_keep_104 : decode b_M_keep 104 = .ok (.iconst 1, 1) := by decide +kernel
theorem d_M_keep_105 : decode b_M_keep 105 = .ok (.isub, 1) := by decide +kernel
theorem d_M_keep_106 : decode b_M_keep 106 = .ok (.ireturn, 1) := by decide +kernel
theorem d_M_wrong_0 : decode b_M_wrong 0 = .ok (.aload_n 0, 1) := by decide +kernel
theorem d_M_wrong_1 : decode b_M_wrong 1 = .ok (.iload_n 1, 1) := by decide +kernel
theorem d_M_wrong_2 : decode b_M_wrong 2 = .ok (.invokevirtual 79, 3) := by decide +kernel
theorem d_M_wrong_5 : decode b_M_wrong 5 = .ok (.ifCond .eq (11), 3) := by decide +kernel
theorem d_M_wrong_8 : decode b_M_wrong 8 = .ok (.aload_n 0, 1) := by decide +kernel
theorem d_M_wrong_9 : decode b_M_wrong 9 = .ok (.iload_n 2, 1) := by decide +kernel
theorem d_M_wrong_10 : decode b_M_wrong 10 = .ok (.invokevirtual 79, 3) := by decide +kernel
theorem d_M_wrong_13 : decode b_M_wrong 13 = .ok (.ifCond .ne (7), 3) := by decide +kernel
theorem d_M_wrong_16 : decode b_M_wrong 16 = .ok (.iconst (-1), 1) := by decide +kernel
theorem d_M_wrong_17 : decode b_M_wrong 17 = .ok (.goto (27), 3) := by decide +kernel
theorem d_M_wrong_20 : decode b_M_wrong 20 = .ok (.aload_n 0, 1) := by decide +kernel
theorem d_M_wrong_21 : decode b_M_wrong 21 = .ok (.getfield 16, 3) := by decide +kernel
theorem d_M_wrong_24 : decode b_M_wrong 24 = .ok (.iload_n 1, 1) := by decide +kernel
theorem d_M_wrong_25 : decode b_M_wrong 25 = .ok (.iaload, 1) := by decide +kernel
theorem d_M_wrong_26 : decode b_M_wrong 26 = .ok (.ifCond .eq (12), 3) := by decide +kernel
theorem d_M_wrong_29 : decode b_M_wrong 29 = .ok (.aload_n 0, 1) := by decide +kernel
theorem d_M_wrong_30 : decode b_M_wrong 30 = .ok (.getfield 16, 3) := by decide +kernel
theorem d_M_wrong_33 : decode b_M_wrong 33 = .ok (.iload_n 2, 1) := by decide +kernel
theorem d_M_wrong_34 : decode b_M_wrong 34 = .ok (.iaload, 1) := by decide +kernel
theorem d_M_wrong_35 : decode b_M_wrong 35 = .ok (.ifCond .ne (8), 3) := by decide +kernel
theorem d_M_wrong_38 : decode b_M_wrong 38 = .ok (.bipush (-3), 2) := by decide +kernel
theorem d_M_wrong_40 : decode b_M_wrong 40 = .ok (.goto (4), 3) := by decide +kernel
theorem d_M_wrong_43 : decode b_M_wrong 43 = .ok (.iconst 0, 1) := by decide +kernel
theorem d_M_wrong_44 : decode b_M_wrong 44 = .ok (.ireturn, 1) := by decide +kernel
theorem d_M_sum_0 : decode b_M_sum 0 = .ok (.aload_n 0, 1) := by decide +kernel
theorem d_M_sum_1 : decode b_M_sum 1 = .ok (.iload_n 1, 1) := by decide +kernel
theorem d_M_sum_2 : decode b_M_sum 2 = .ok (.iload_n 2, 1) := by decide +kernel
theorem d_M_sum_3 : decode b_M_sum 3 = .ok (.invokevirtual 177, 3) := by decide +kernel
theorem d_M_sum_6 : decode b_M_sum 6 = .ok (.istore_n 3, 1) := by decide +kernel
theorem d_M_sum_7 : decode b_M_sum 7 = .ok (.iload_n 3, 1) := by decide +kernel
theorem d_M_sum_8 : decode b_M_sum 8 = .ok (.ifCond .ge (5), 3) := by decide +kernel
theorem d_M_sum_11 : decode b_M_sum 11 = .ok (.iload_n 3, 1) := by decide +kernel
theorem d_M_sum_12 : decode b_M_sum 12 = .ok (.ireturn, 1) := by decide +kernel
theorem d_M_sum_13 : decode b_M_sum 13 = .ok (.aload_n 0, 1) := by decide +kernel
theorem d_M_sum_14 : decode b_M_sum 14 = .ok (.iload_n 1, 1) := by decide +kernel
theorem d_M_sum_15 : decode b_M_sum 15 = .ok (.iload_n 2, 1) := by decide +kernel
theorem d_M_sum_16 : decode b_M_sum 16 = .ok (.iconst 1, 1) := by decide +kernel
theorem d_M_sum_17 : decode b_M_sum 17 = .ok (.invokevirtual 181, 3) := by decide +kernel
theorem d_M_sum_20 : decode b_M_sum 20 = .ok (.iconst 0, 1) := by decide +kernel
theorem d_M_sum_21 : decode b_M_sum 21 = .ok (.istore 4, 2) := by decide +kernel
theorem d_M_sum_23 : decode b_M_sum 23 = .ok (.iload 4, 2) := by decide +kernel
theorem d_M_sum_25 : decode b_M_sum 25 = .ok (.aload_n 0, 1) := by decide +kernel
theorem d_M_sum_26 : decode b_M_sum 26 = .ok (.getfield 45, 3) := by decide +kernel
theorem d_M_sum_29 : decode b_M_sum 29 = .ok (.if_icmp .ge (50), 3) := by decide +kernel
theorem d_M_sum_32 : decode b_M_sum 32 = .ok (.aload_n 0, 1) := by decide +kernel
theorem d_M_sum_33 : decode b_M_sum 33 = .ok (.getfield 19, 3) := by decide +kernel
theorem d_M_sum_36 : decode b_M_sum 36 = .ok (.iload 4, 2) := by decide +kernel
theorem d_M_sum_38 : decode b_M_sum 38 = .ok (.iaload, 1) := by decide +kernel
theorem d_M_sum_39 : decode b_M_sum 39 = .ok (.sipush (-300), 3) := by decide +kernel
theorem d_M_sum_42 : decode b_M_sum 42 = .ok (.sipush (300), 3) := by decide +kernel
theorem d_M_sum_45 : decode b_M_sum 45 = .ok (.invokestatic 83, 3) := by decide +kernel
theorem d_M_sum_48 : decode b_M_sum 48 = .ok (.ifCond .eq (22), 3) := by decide +kernel
theorem d_M_sum_51 : decode b_M_sum 51 = .ok (.aload_n 0, 1) := by decide +kernel
theorem d_M_sum_52 : decode b_M_sum 52 = .ok (.getfield 22, 3) := by decide +kernel
theorem d_M_sum_55 : decode b_M_sum 55 = .ok (.iload 4, 2) := by decide +kernel
theorem d_M_sum_57 : decode b_M_sum 57 = .ok (.iaload, 1) := by decide +kernel
theorem d_M_sum_58 : decode b_M_sum 58 = .ok (.sipush (-300), 3) := by decide +kernel
theorem d_M_sum_61 : decode b_M_sum 61 = .ok (.sipush (300), 3) := by decide +kernel
theorem d_M_sum_64 : decode b_M_sum 64 = .ok (.invokestatic 83, 3) := by decide +kernel
theorem d_M_sum_67 : decode b_M_sum 67 = .ok (.ifCond .ne (6), 3) := by decide +kernel
theorem d_M_sum_70 : decode b_M_sum 70 = .ok (.bipush (-6), 2) := by decide +kernel
theorem d_M_sum_72 : decode b_M_sum 72 = .ok (.ireturn, 1) := by decide +kernel
theorem d_M_sum_73 : decode b_M_sum 73 = .ok (.iinc 4 (1), 3) := by decide +kernel
theorem d_M_sum_76 : decode b_M_sum 76 = .ok (.goto (-53), 3) := by decide +kernel
theorem d_M_sum_79 : decode b_M_sum 79 = .ok (.aload_n 0, 1) := by decide +kernel
theorem d_M_sum_80 : decode b_M_sum 80 = .ok (.invokevirtual 185, 3) := by decide +kernel
theorem d_M_sum_83 : decode b_M_sum 83 = .ok (.ireturn, 1) := by decide +kernel
theorem d_M_turned_0 : decode b_M_turned 0 = .ok (.aload_n 0, 1) := by decide +kernel
theorem d_M_turned_1 : decode b_M_turned 1 = .ok (.iload_n 1, 1) := by decide +kernel
theorem d_M_turned_2 : decode b_M_turned 2 = .ok (.invokevirtual 79, 3) := by decide +kernel
theorem d_M_turned_5 : decode b_M_turned 5 = .ok (.ifCond .ne (5), 3) := by decide +kernel
theorem d_M_turned_8 : decode b_M_turned 8 = .ok (.iconst (-1), 1) := by decide +kernel
theorem d_M_turned_9 : decode b_M_turned 9 = .ok (.ireturn, 1) := by decide +kernel
theorem d_M_turned_10 : decode b_M_turned 10 = .ok (.aload_n 0, 1) := by decide +kernel
theorem d_M_turned_11 : decode b_M_turned 11 = .ok (.getfield 16, 3) := by decide +kernel
theorem d_M_turned_14 : decode b_M_turned 14 = .ok (.iload_n 1, 1) := by decide +kernel
theorem d_M_turned_15 : decode b_M_turned 15 = .ok (.iaload, 1) := by decide +kernel
theorem d_M_turned_16 : decode b_M_turned 16 = .ok (.ifCond .ne (6), 3) := by decide +kernel
theorem d_M_turned_19 : decode b_M_turned 19 = .ok (.bipush (-3), 2) := by decide +kernel
theorem d_M_turned_21 : decode b_M_turned 21 = .ok (.ireturn, 1) := by decide +kernel
theorem d_M_turned_22 : decode b_M_turned 22 = .ok (.aload_n 0, 1) := by decide +kernel
theorem d_M_turned_23 : decode b_M_turned 23 = .ok (.aload_n 0, 1) := by decide +kernel
theorem d_M_turned_24 : decode b_M_turned 24 = .ok (.getfield 16, 3) := by decide +kernel
theorem d_M_turned_27 : decode b_M_turned 27 = .ok (.iload_n 1, 1) := by decide +kernel
theorem d_M_turned_28 : decode b_M_turned 28 = .ok (.iaload, 1) := by decide +kernel
theorem d_M_turned_29 : decode b_M_turned 29 = .ok (.putfield 45, 3) := by decide +kernel
theorem d_M_turned_32 : decode b_M_turned 32 = .ok (.iconst 0, 1) := by decide +kernel
theorem d_M_turned_33 : decode b_M_turned 33 = .ok (.istore_n 2, 1) := by decide +kernel
theorem d_M_turned_34 : decode b_M_turned 34 = .ok (.iload_n 2, 1) := by decide +kernel
theorem d_M_turned_35 : decode b_M_turned 35 = .ok (.aload_n 0, 1) := by decide +kernel
theorem d_M_turned_36 : decode b_M_turned 36 = .ok (.getfield 45, 3) := by decide +kernel
theorem d_M_turned_39 : decode b_M_turned 39 = .ok (.if_icmp .ge (45), 3) := by decide +kernel
theorem d_M_turned_42 : decode b_M_turned 42 = .ok (.aload_n 0, 1) := by decide +kernel
theorem d_M_turned_43 : decode b_M_turned 43 = .ok (.getfield 19, 3) := by decide +kernel
theorem d_M_turned_46 : decode b_M_turned 46 = .ok (.iload_n 2, 1) := by decide +kernel
theorem d_M_turned_47 : decode b_M_turned 47 = .ok (.aload_n 0, 1) := by decide +kernel
theorem d_M_turned_48 : decode b_M_turned 48 = .ok (.getfield 7, 3) := by decide +kernel
theorem d_M_turned_51 : decode b_M_turned 51 = .ok (.bipush (24), 2) := by decide +kernel
theorem d_M_turned_53 : decode b_M_turned 53 = .ok (.iload_n 1, 1) := by decide +kernel
theorem d_M_turned_54 : decode b_M_turned 54 = .ok (.imul, 1) := by decide +kernel
theorem d_M_turned_55 : decode b_M_turned 55 = .ok (.iload_n 2, 1) := by decide +kernel
theorem d_M_turned_56 : decode b_M_turned 56 = .ok (.iadd, 1) := by decide +kernel
theorem d_M_turned_57 : decode b_M_turned 57 = .ok (.iaload, 1) := by decide +kernel
theorem d_M_turned_58 : decode b_M_turned 58 = .ok (.ineg, 1) := by decide +kernel
theorem d_M_turned_59 : decode b_M_turned 59 = .ok (.iastore, 1) := by decide +kernel
theorem d_M_turned_60 : decode b_M_turned 60 = .ok (.aload_n 0, 1) := by decide +kernel
theorem d_M_turned_61 : decode b_M_turned 61 = .ok (.getfield 22, 3) := by decide +kernel
theorem d_M_turned_64 : decode b_M_turned 64 = .ok (.iload_n 2, 1) := by decide +kernel
theorem d_M_turned_65 : decode b_M_turned 65 = .ok (.aload_n 0, 1) := by decide +kernel
theorem d_M_turned_66 : decode b_M_turned 66 = .ok (.getfield 13, 3) := by decide +kernel
theorem d_M_turned_69 : decode b_M_turned 69 = .ok (.bipush (24), 2) := by decide +kernel
theorem d_M_turned_71 : decode b_M_turned 71 = .ok (.iload_n 1, 1) := by decide +kernel
theorem d_M_turned_72 : decode b_M_turned 72 = .ok (.imul, 1) := by decide +kernel
theorem d_M_turned_73 : decode b_M_turned 73 = .ok (.iload_n 2, 1) := by decide +kernel
theorem d_M_turned_74 : decode b_M_turned 74 = .ok (.iadd, 1) := by decide +kernel
theorem d_M_turned_75 : decode b_M_turned 75 = .ok (.iaload, 1) := by decide +kernel
theorem d_M_turned_76 : decode b_M_turned 76 = .ok (.ineg, 1) := by decide +kernel
theorem d_M_turned_77 : decode b_M_turned 77 = .ok (.iastore, 1) := by decide +kernel
theorem d_M_turned_78 : decode b_M_turned 78 = .ok (.iinc 2 (1), 3) := by decide +kernel
theorem d_M_turned_81 : decode b_M_turned 81 = .ok (.goto (-47), 3) := by decide +kernel
theorem d_M_turned_84 : decode b_M_turned 84 = .ok (.aload_n 0, 1) := by decide +kernel
theorem d_M_turned_85 : decode b_M_turned 85 = .ok (.invokevirtual 48, 3) := by decide +kernel
theorem d_M_turned_88 : decode b_M_turned 88 = .ok (.aload_n 0, 1) := by decide +kernel
theorem d_M_turned_89 : decode b_M_turned 89 = .ok (.invokevirtual 185, 3) := by decide +kernel
theorem d_M_turned_92 : decode b_M_turned 92 = .ok (.ireturn, 1) := by decide +kernel
theorem d_M_meets_0 : decode b_M_meets 0 = .ok (.aload_n 0, 1) := by decide +kernel
theorem d_M_meets_1 : decode b_M_meets 1 = .ok (.iload_n 1, 1) := by decide +kernel
theorem d_M_meets_2 : decode b_M_meets 2 = .ok (.iload_n 2, 1) := by decide +kernel
theorem d_M_meets_3 : decode b_M_meets 3 = .ok (.invokevirtual 177, 3) := by decide +kernel
theorem d_M_meets_6 : decode b_M_meets 6 = .ok (.istore_n 3, 1) := by decide +kernel
theorem d_M_meets_7 : decode b_M_meets 7 = .ok (.iload_n 3, 1) := by decide +kernel
theorem d_M_meets_8 : decode b_M_meets 8 = .ok (.ifCond .ge (5), 3) := by decide +kernel
theorem d_M_meets_11 : decode b_M_meets 11 = .ok (.iload_n 3, 1) := by decide +kernel
theorem d_M_meets_12 : decode b_M_meets 12 = .ok (.ireturn, 1) := by decide +kernel
theorem d_M_meets_13 : decode b_M_meets 13 = .ok (.aload_n 0, 1) := by decide +kernel
theorem d_M_meets_14 : decode b_M_meets 14 = .ok (.iload_n 1, 1) := by decide +kernel
theorem d_M_meets_15 : decode b_M_meets 15 = .ok (.iload_n 2, 1) := by decide +kernel
theorem d_M_meets_16 : decode b_M_meets 16 = .ok (.iconst (-1), 1) := by decide +kernel
theorem d_M_meets_17 : decode b_M_meets 17 = .ok (.invokevirtual 181, 3) := by decide +kernel
theorem d_M_meets_20 : decode b_M_meets 20 = .ok (.aload_n 0, 1) := by decide +kernel
theorem d_M_meets_21 : decode b_M_meets 21 = .ok (.lconst 0, 1) := by decide +kernel
theorem d_M_meets_22 : decode b_M_meets 22 = .ok (.lconst 0, 1) := by decide +kernel
theorem d_M_meets_23 : decode b_M_meets 23 = .ok (.invokevirtual 91, 3) := by decide +kernel
theorem d_M_meets_26 : decode b_M_meets 26 = .ok (.ifCond .le (7), 3) := by decide +kernel
theorem d_M_meets_29 : decode b_M_meets 29 = .ok (.iconst 1, 1) := by decide +kernel
theorem d_M_meets_30 : decode b_M_meets 30 = .ok (.goto (4), 3) := by decide +kernel
theorem d_M_meets_33 : decode b_M_meets 33 = .ok (.iconst 0, 1) := by decide +kernel
theorem d_M_meets_34 : decode b_M_meets 34 = .ok (.ireturn, 1) := by decide +kernel
theorem d_M_apart_0 : decode b_M_apart 0 = .ok (.aload_n 0, 1) := by decide +kernel
theorem d_M_apart_1 : decode b_M_apart 1 = .ok (.iload_n 1, 1) := by decide +kernel
theorem d_M_apart_2 : decode b_M_apart 2 = .ok (.iload_n 2, 1) := by decide +kernel
theorem d_M_apart_3 : decode b_M_apart 3 = .ok (.invokevirtual 177, 3) := by decide +kernel
theorem d_M_apart_6 : decode b_M_apart 6 = .ok (.istore_n 3, 1) := by decide +kernel
theorem d_M_apart_7 : decode b_M_apart 7 = .ok (.iload_n 3, 1) := by decide +kernel
theorem d_M_apart_8 : decode b_M_apart 8 = .ok (.ifCond .ge (5), 3) := by decide +kernel
theorem d_M_apart_11 : decode b_M_apart 11 = .ok (.iload_n 3, 1) := by decide +kernel
theorem d_M_apart_12 : decode b_M_apart 12 = .ok (.ireturn, 1) := by decide +kernel
theorem d_M_apart_13 : decode b_M_apart 13 = .ok (.aload_n 0, 1) := by decide +kernel
theorem d_M_apart_14 : decode b_M_apart 14 = .ok (.iload_n 1, 1) := by decide +kernel
theorem d_M_apart_15 : decode b_M_apart 15 = .ok (.iload_n 2, 1) := by decide +kernel
theorem d_M_apart_16 : decode b_M_apart 16 = .ok (.iconst (-1), 1) := by decide +kernel
theorem d_M_apart_17 : decode b_M_apart 17 = .ok (.invokevirtual 181, 3) := by decide +kernel
theorem d_M_apart_20 : decode b_M_apart 20 = .ok (.aload_n 0, 1) := by decide +kernel
theorem d_M_apart_21 : decode b_M_apart 21 = .ok (.aload_n 0, 1) := by decide +kernel
theorem d_M_apart_22 : decode b_M_apart 22 = .ok (.getfield 25, 3) := by decide +kernel
theorem d_M_apart_25 : decode b_M_apart 25 = .ok (.iconst 0, 1) := by decide +kernel
theorem d_M_apart_26 : decode b_M_apart 26 = .ok (.iaload, 1) := by decide +kernel
theorem d_M_apart_27 : decode b_M_apart 27 = .ok (.i2l, 1) := by decide +kernel
theorem d_M_apart_28 : decode b_M_apart 28 = .ok (.aload_n 0, 1) := by decide +kernel
theorem d_M_apart_29 : decode b_M_apart 29 = .ok (.getfield 28, 3) := by decide +kernel
theorem d_M_apart_32 : decode b_M_apart 32 = .ok (.iconst 0, 1) := by decide +kernel
theorem d_M_apart_33 : decode b_M_apart 33 = .ok (.iaload, 1) := by decide +kernel
theorem d_M_apart_34 : decode b_M_apart 34 = .ok (.i2l, 1) := by decide +kernel
theorem d_M_apart_35 : decode b_M_apart 35 = .ok (.lconst 0, 1) := by decide +kernel
theorem d_M_apart_36 : decode b_M_apart 36 = .ok (.lconst 0, 1) := by decide +kernel
theorem d_M_apart_37 : decode b_M_apart 37 = .ok (.invokestatic 62, 3) := by decide +kernel
theorem d_M_apart_40 : decode b_M_apart 40 = .ok (.putfield 130, 3) := by decide +kernel
theorem d_M_apart_43 : decode b_M_apart 43 = .ok (.aload_n 0, 1) := by decide +kernel
theorem d_M_apart_44 : decode b_M_apart 44 = .ok (.lconst 1, 1) := by decide +kernel
theorem d_M_apart_45 : decode b_M_apart 45 = .ok (.putfield 133, 3) := by decide +kernel
theorem d_M_apart_48 : decode b_M_apart 48 = .ok (.aload_n 0, 1) := by decide +kernel
theorem d_M_apart_49 : decode b_M_apart 49 = .ok (.lconst 0, 1) := by decide +kernel
theorem d_M_apart_50 : decode b_M_apart 50 = .ok (.lconst 0, 1) := by decide +kernel
theorem d_M_apart_51 : decode b_M_apart 51 = .ok (.invokevirtual 91, 3) := by decide +kernel
theorem d_M_apart_54 : decode b_M_apart 54 = .ok (.ifCond .le (8), 3) := by decide +kernel
theorem d_M_apart_57 : decode b_M_apart 57 = .ok (.aload_n 0, 1) := by decide +kernel
theorem d_M_apart_58 : decode b_M_apart 58 = .ok (.lconst 0, 1) := by decide +kernel
theorem d_M_apart_59 : decode b_M_apart 59 = .ok (.putfield 130, 3) := by decide +kernel
theorem d_M_apart_62 : decode b_M_apart 62 = .ok (.iconst 0, 1) := by decide +kernel
theorem d_M_apart_63 : decode b_M_apart 63 = .ok (.istore 4, 2) := by decide +kernel
theorem d_M_apart_65 : decode b_M_apart 65 = .ok (.iload 4, 2) := by decide +kernel
theorem d_M_apart_67 : decode b_M_apart 67 = .ok (.aload_n 0, 1) := by decide +kernel
theorem d_M_apart_68 : decode b_M_apart 68 = .ok (.getfield 51, 3) := by decide +kernel
theorem d_M_apart_71 : decode b_M_apart 71 = .ok (.if_icmp .ge (192), 3) := by decide +kernel
theorem d_M_apart_74 : decode b_M_apart 74 = .ok (.aload_n 0, 1) := by decide +kernel
theorem d_M_apart_75 : decode b_M_apart 75 = .ok (.getfield 130, 3) := by decide +kernel
theorem d_M_apart_78 : decode b_M_apart 78 = .ok (.lconst 0, 1) := by decide +kernel
theorem d_M_apart_79 : decode b_M_apart 79 = .ok (.lcmp, 1) := by decide +kernel
theorem d_M_apart_80 : decode b_M_apart 80 = .ok (.ifCond .le (183), 3) := by decide +kernel
theorem d_M_apart_83 : decode b_M_apart 83 = .ok (.aload_n 0, 1) := by decide +kernel
theorem d_M_apart_84 : decode b_M_apart 84 = .ok (.iload 4, 2) := by decide +kernel
theorem d_M_apart_86 : decode b_M_apart 86 = .ok (.invokevirtual 66, 3) := by decide +kernel
theorem d_M_apart_89 : decode b_M_apart 89 = .ok (.istore 5, 2) := by decide +kernel
theorem d_M_apart_91 : decode b_M_apart 91 = .ok (.aload_n 0, 1) := by decide +kernel
theorem d_M_apart_92 : decode b_M_apart 92 = .ok (.aload_n 0, 1) := by decide +kernel
theorem d_M_apart_93 : decode b_M_apart 93 = .ok (.getfield 25, 3) := by decide +kernel
theorem d_M_apart_96 : decode b_M_apart 96 = .ok (.iload 4, 2) := by decide +kernel
theorem d_M_apart_98 : decode b_M_apart 98 = .ok (.iaload, 1) := by decide +kernel
theorem d_M_apart_99 : decode b_M_apart 99 = .ok (.i2l, 1) := by decide +kernel
theorem d_M_apart_100 : decode b_M_apart 100 = .ok (.aload_n 0, 1) := by decide +kernel
theorem d_M_apart_101 : decode b_M_apart 101 = .ok (.getfield 28, 3) := by decide +kernel
theorem d_M_apart_104 : decode b_M_apart 104 = .ok (.iload 4, 2) := by decide +kernel
theorem d_M_apart_106 : decode b_M_apart 106 = .ok (.iaload, 1) := by decide +kernel
theorem d_M_apart_107 : decode b_M_apart 107 = .ok (.i2l, 1) := by decide +kernel
theorem d_M_apart_108 : decode b_M_apart 108 = .ok (.lconst 0, 1) := by decide +kernel
theorem d_M_apart_109 : decode b_M_apart 109 = .ok (.lconst 0, 1) := by decide +kernel
theorem d_M_apart_110 : decode b_M_apart 110 = .ok (.invokestatic 62, 3) := by decide +kernel
theorem d_M_apart_113 : decode b_M_apart 113 = .ok (.lconst 1, 1) := by decide +kernel
theorem d_M_apart_114 : decode b_M_apart 114 = .ok (.invokevirtual 188, 3) := by decide +kernel
theorem d_M_apart_117 : decode b_M_apart 117 = .ok (.aload_n 0, 1) := by decide +kernel
theorem d_M_apart_118 : decode b_M_apart 118 = .ok (.getfield 25, 3) := by decide +kernel
theorem d_M_apart_121 : decode b_M_apart 121 = .ok (.iload 5, 2) := by decide +kernel
theorem d_M_apart_123 : decode b_M_apart 123 = .ok (.iaload, 1) := by decide +kernel
theorem d_M_apart_124 : decode b_M_apart 124 = .ok (.aload_n 0, 1) := by decide +kernel
theorem d_M_apart_125 : decode b_M_apart 125 = .ok (.getfield 25, 3) := by decide +kernel
theorem d_M_apart_128 : decode b_M_apart 128 = .ok (.iload 4, 2) := by decide +kernel
theorem d_M_apart_130 : decode b_M_apart 130 = .ok (.iaload, 1) := by decide +kernel
theorem d_M_apart_131 : decode b_M_apart 131 = .ok (.isub, 1) := by decide +kernel
theorem d_M_apart_132 : decode b_M_apart 132 = .ok (.i2l, 1) := by decide +kernel
theorem d_M_apart_133 : decode b_M_apart 133 = .ok (.lstore 6, 2) := by decide +kernel
theorem d_M_apart_135 : decode b_M_apart 135 = .ok (.aload_n 0, 1) := by decide +kernel
theorem d_M_apart_136 : decode b_M_apart 136 = .ok (.getfield 28, 3) := by decide +kernel
theorem d_M_apart_139 : decode b_M_apart 139 = .ok (.iload 5, 2) := by decide +kernel
theorem d_M_apart_141 : decode b_M_apart 141 = .ok (.iaload, 1) := by decide +kernel
theorem d_M_apart_142 : decode b_M_apart 142 = .ok (.aload_n 0, 1) := by decide +kernel
theorem d_M_apart_143 : decode b_M_apart 143 = .ok (.getfield 28, 3) := by decide +kernel
theorem d_M_apart_146 : decode b_M_apart 146 = .ok (.iload 4, 2) := by decide +kernel
theorem d_M_apart_148 : decode b_M_apart 148 = .ok (.iaload, 1) := by decide +kernel
theorem d_M_apart_149 : decode b_M_apart 149 = .ok (.isub, 1) := by decide +kernel
theorem d_M_apart_150 : decode b_M_apart 150 = .ok (.i2l, 1) := by decide +kernel
theorem d_M_apart_151 : decode b_M_apart 151 = .ok (.lstore 8, 2) := by decide +kernel
theorem d_M_apart_153 : decode b_M_apart 153 = .ok (.aload_n 0, 1) := by decide +kernel
theorem d_M_apart_154 : decode b_M_apart 154 = .ok (.getfield 25, 3) := by decide +kernel
theorem d_M_apart_157 : decode b_M_apart 157 = .ok (.iload 4, 2) := by decide +kernel
theorem d_M_apart_159 : decode b_M_apart 159 = .ok (.iaload, 1) := by decide +kernel
theorem d_M_apart_160 : decode b_M_apart 160 = .ok (.i2l, 1) := by decide +kernel
theorem d_M_apart_161 : decode b_M_apart 161 = .ok (.lload 6, 2) := by decide +kernel
theorem d_M_apart_163 : decode b_M_apart 163 = .ok (.lmul, 1) := by decide +kernel
theorem d_M_apart_164 : decode b_M_apart 164 = .ok (.aload_n 0, 1) := by decide +kernel
theorem d_M_apart_165 : decode b_M_apart 165 = .ok (.getfield 28, 3) := by decide +kernel
theorem d_M_apart_168 : decode b_M_apart 168 = .ok (.iload 4, 2) := by decide +kernel
theorem d_M_apart_170 : decode b_M_apart 170 = .ok (.iaload, 1) := by decide +kernel
theorem d_M_apart_171 : decode b_M_apart 171 = .ok (.i2l, 1) := by decide +kernel
theorem d_M_apart_172 : decode b_M_apart 172 = .ok (.lload 8, 2) := by decide +kernel
theorem d_M_apart_174 : decode b_M_apart 174 = .ok (.lmul, 1) := by decide +kernel
theorem d_M_apart_175 : decode b_M_apart 175 = .ok (.ladd, 1) := by decide +kernel
theorem d_M_apart_176 : decode b_M_apart 176 = .ok (.lneg, 1) := by decide +kernel
theorem d_M_apart_177 : decode b_M_apart 177 = .ok (.lstore 10, 2) := by decide +kernel
theorem d_M_apart_179 : decode b_M_apart 179 = .ok (.lload 6, 2) := by decide +kernel
theorem d_M_apart_181 : decode b_M_apart 181 = .ok (.lload 6, 2) := by decide +kernel
theorem d_M_apart_183 : decode b_M_apart 183 = .ok (.lmul, 1) := by decide +kernel
theorem d_M_apart_184 : decode b_M_apart 184 = .ok (.lload 8, 2) := by decide +kernel
theorem d_M_apart_186 : decode b_M_apart 186 = .ok (.lload 8, 2) := by decide +kernel
theorem d_M_apart_188 : decode b_M_apart 188 = .ok (.lmul, 1) := by decide +kernel
theorem d_M_apart_189 : decode b_M_apart 189 = .ok (.ladd, 1) := by decide +kernel
theorem d_M_apart_190 : decode b_M_apart 190 = .ok (.lstore 12, 2) := by decide +kernel
theorem d_M_apart_192 : decode b_M_apart 192 = .ok (.lload 10, 2) := by decide +kernel
theorem d_M_apart_194 : decode b_M_apart 194 = .ok (.lconst 0, 1) := by decide +kernel
theorem d_M_apart_195 : decode b_M_apart 195 = .ok (.lcmp, 1) := by decide +kernel
theorem d_M_apart_196 : decode b_M_apart 196 = .ok (.ifCond .le (61), 3) := by decide +kernel
theorem d_M_apart_199 : decode b_M_apart 199 = .ok (.lload 10, 2) := by decide +kernel
theorem d_M_apart_201 : decode b_M_apart 201 = .ok (.lload 12, 2) := by decide +kernel
theorem d_M_apart_203 : decode b_M_apart 203 = .ok (.lcmp, 1) := by decide +kernel
theorem d_M_apart_204 : decode b_M_apart 204 = .ok (.ifCond .ge (53), 3) := by decide +kernel
theorem d_M_apart_207 : decode b_M_apart 207 = .ok (.lconst 0, 1) := by decide +kernel
theorem d_M_apart_208 : decode b_M_apart 208 = .ok (.lconst 0, 1) := by decide +kernel
theorem d_M_apart_209 : decode b_M_apart 209 = .ok (.aload_n 0, 1) := by decide +kernel
theorem d_M_apart_210 : decode b_M_apart 210 = .ok (.getfield 25, 3) := by decide +kernel
theorem d_M_apart_213 : decode b_M_apart 213 = .ok (.iload 4, 2) := by decide +kernel
theorem d_M_apart_215 : decode b_M_apart 215 = .ok (.iaload, 1) := by decide +kernel
theorem d_M_apart_216 : decode b_M_apart 216 = .ok (.i2l, 1) := by decide +kernel
theorem d_M_apart_217 : decode b_M_apart 217 = .ok (.aload_n 0, 1) := by decide +kernel
theorem d_M_apart_218 : decode b_M_apart 218 = .ok (.getfield 28, 3) := by decide +kernel
theorem d_M_apart_221 : decode b_M_apart 221 = .ok (.iload 4, 2) := by decide +kernel
theorem d_M_apart_223 : decode b_M_apart 223 = .ok (.iaload, 1) := by decide +kernel
theorem d_M_apart_224 : decode b_M_apart 224 = .ok (.i2l, 1) := by decide +kernel
theorem d_M_apart_225 : decode b_M_apart 225 = .ok (.aload_n 0, 1) := by decide +kernel
theorem d_M_apart_226 : decode b_M_apart 226 = .ok (.getfield 25, 3) := by decide +kernel
theorem d_M_apart_229 : decode b_M_apart 229 = .ok (.iload 5, 2) := by decide +kernel
theorem d_M_apart_231 : decode b_M_apart 231 = .ok (.iaload, 1) := by decide +kernel
theorem d_M_apart_232 : decode b_M_apart 232 = .ok (.i2l, 1) := by decide +kernel
theorem d_M_apart_233 : decode b_M_apart 233 = .ok (.aload_n 0, 1) := by decide +kernel
theorem d_M_apart_234 : decode b_M_apart 234 = .ok (.getfield 28, 3) := by decide +kernel
theorem d_M_apart_237 : decode b_M_apart 237 = .ok (.iload 5, 2) := by decide +kernel
theorem d_M_apart_239 : decode b_M_apart 239 = .ok (.iaload, 1) := by decide +kernel
theorem d_M_apart_240 : decode b_M_apart 240 = .ok (.i2l, 1) := by decide +kernel
theorem d_M_apart_241 : decode b_M_apart 241 = .ok (.invokestatic 58, 3) := by decide +kernel
theorem d_M_apart_244 : decode b_M_apart 244 = .ok (.lstore 14, 2) := by decide +kernel
theorem d_M_apart_246 : decode b_M_apart 246 = .ok (.aload_n 0, 1) := by decide +kernel
theorem d_M_apart_247 : decode b_M_apart 247 = .ok (.lload 14, 2) := by decide +kernel
theorem d_M_apart_249 : decode b_M_apart 249 = .ok (.lload 14, 2) := by decide +kernel
theorem d_M_apart_251 : decode b_M_apart 251 = .ok (.lmul, 1) := by decide +kernel
theorem d_M_apart_252 : decode b_M_apart 252 = .ok (.lload 12, 2) := by decide +kernel
theorem d_M_apart_254 : decode b_M_apart 254 = .ok (.invokevirtual 188, 3) := by decide +kernel
theorem d_M_apart_257 : decode b_M_apart 257 = .ok (.iinc 4 (1), 3) := by decide +kernel
theorem d_M_apart_260 : decode b_M_apart 260 = .ok (.goto (-195), 3) := by decide +kernel
theorem d_M_apart_263 : decode b_M_apart 263 = .ok (.aload_n 0, 1) := by decide +kernel
theorem d_M_apart_264 : decode b_M_apart 264 = .ok (.aload_n 0, 1) := by decide +kernel
theorem d_M_apart_265 : decode b_M_apart 265 = .ok (.getfield 130, 3) := by decide +kernel
theorem d_M_apart_268 : decode b_M_apart 268 = .ok (.aload_n 0, 1) := by decide +kernel
theorem d_M_apart_269 : decode b_M_apart 269 = .ok (.getfield 133, 3) := by decide +kernel
theorem d_M_apart_272 : decode b_M_apart 272 = .ok (.invokevirtual 143, 3) := by decide +kernel
theorem d_M_apart_275 : decode b_M_apart 275 = .ok (.iconst 1, 1) := by decide +kernel
theorem d_M_apart_276 : decode b_M_apart 276 = .ok (.ireturn, 1) := by decide +kernel
theorem d_M_better_0 : decode b_M_better 0 = .ok (.lload_n 1, 1) := by decide +kernel
theorem d_M_better_1 : decode b_M_better 1 = .ok (.aload_n 0, 1) := by decide +kernel
theorem d_M_better_2 : decode b_M_better 2 = .ok (.getfield 133, 3) := by decide +kernel
theorem d_M_better_5 : decode b_M_better 5 = .ok (.lmul, 1) := by decide +kernel
theorem d_M_better_6 : decode b_M_better 6 = .ok (.aload_n 0, 1) := by decide +kernel
theorem d_M_better_7 : decode b_M_better 7 = .ok (.getfield 130, 3) := by decide +kernel
theorem d_M_better_10 : decode b_M_better 10 = .ok (.lload_n 3, 1) := by decide +kernel
theorem d_M_better_11 : decode b_M_better 11 = .ok (.lmul, 1) := by decide +kernel
theorem d_M_better_12 : decode b_M_better 12 = .ok (.lcmp, 1) := by decide +kernel
theorem d_M_better_13 : decode b_M_better 13 = .ok (.ifCond .ge (13), 3) := by decide +kernel
theorem d_M_better_16 : decode b_M_better 16 = .ok (.aload_n 0, 1) := by decide +kernel
theorem d_M_better_17 : decode b_M_better 17 = .ok (.lload_n 1, 1) := by decide +kernel
theorem d_M_better_18 : decode b_M_better 18 = .ok (.putfield 130, 3) := by decide +kernel
theorem d_M_better_21 : decode b_M_better 21 = .ok (.aload_n 0, 1) := by decide +kernel
theorem d_M_better_22 : decode b_M_better 22 = .ok (.lload_n 3, 1) := by decide +kernel
theorem d_M_better_23 : decode b_M_better 23 = .ok (.putfield 133, 3) := by decide +kernel
theorem d_M_better_26 : decode b_M_better 26 = .ok (.return_, 1) := by decide +kernel
theorem d_M_mixed_0 : decode b_M_mixed 0 = .ok (.aload_n 0, 1) := by decide +kernel
theorem d_M_mixed_1 : decode b_M_mixed 1 = .ok (.iload_n 1, 1) := by decide +kernel
theorem d_M_mixed_2 : decode b_M_mixed 2 = .ok (.iload_n 2, 1) := by decide +kernel
theorem d_M_mixed_3 : decode b_M_mixed 3 = .ok (.invokevirtual 177, 3) := by decide +kernel
theorem d_M_mixed_6 : decode b_M_mixed 6 = .ok (.istore_n 3, 1) := by decide +kernel
theorem d_M_mixed_7 : decode b_M_mixed 7 = .ok (.iload_n 3, 1) := by decide +kernel
theorem d_M_mixed_8 : decode b_M_mixed 8 = .ok (.ifCond .ge (5), 3) := by decide +kernel
theorem d_M_mixed_11 : decode b_M_mixed 11 = .ok (.iload_n 3, 1) := by decide +kernel
theorem d_M_mixed_12 : decode b_M_mixed 12 = .ok (.ireturn, 1) := by decide +kernel
theorem d_M_mixed_13 : decode b_M_mixed 13 = .ok (.aload_n 0, 1) := by decide +kernel
theorem d_M_mixed_14 : decode b_M_mixed 14 = .ok (.iload_n 1, 1) := by decide +kernel
theorem d_M_mixed_15 : decode b_M_mixed 15 = .ok (.iload_n 2, 1) := by decide +kernel
theorem d_M_mixed_16 : decode b_M_mixed 16 = .ok (.iconst 1, 1) := by decide +kernel
theorem d_M_mixed_17 : decode b_M_mixed 17 = .ok (.invokevirtual 181, 3) := by decide +kernel
theorem d_M_mixed_20 : decode b_M_mixed 20 = .ok (.aload_n 0, 1) := by decide +kernel
theorem d_M_mixed_21 : decode b_M_mixed 21 = .ok (.invokevirtual 95, 3) := by decide +kernel
theorem d_M_mixed_24 : decode b_M_mixed 24 = .ok (.lstore 4, 2) := by decide +kernel
theorem d_M_mixed_26 : decode b_M_mixed 26 = .ok (.aload_n 0, 1) := by decide +kernel
theorem d_M_mixed_27 : decode b_M_mixed 27 = .ok (.iload_n 1, 1) := by decide +kernel
theorem d_M_mixed_28 : decode b_M_mixed 28 = .ok (.invokevirtual 87, 3) := by decide +kernel
theorem d_M_mixed_31 : decode b_M_mixed 31 = .ok (.lload 4, 2) := by decide +kernel
theorem d_M_mixed_33 : decode b_M_mixed 33 = .ok (.aload_n 0, 1) := by decide +kernel
theorem d_M_mixed_34 : decode b_M_mixed 34 = .ok (.invokevirtual 95, 3) := by decide +kernel
theorem d_M_mixed_37 : decode b_M_mixed 37 = .ok (.lsub, 1) := by decide +kernel
theorem d_M_mixed_38 : decode b_M_mixed 38 = .ok (.lstore 4, 2) := by decide +kernel
theorem d_M_mixed_40 : decode b_M_mixed 40 = .ok (.aload_n 0, 1) := by decide +kernel
theorem d_M_mixed_41 : decode b_M_mixed 41 = .ok (.iload_n 2, 1) := by decide +kernel
theorem d_M_mixed_42 : decode b_M_mixed 42 = .ok (.invokevirtual 87, 3) := by decide +kernel
theorem d_M_mixed_45 : decode b_M_mixed 45 = .ok (.lload 4, 2) := by decide +kernel
theorem d_M_mixed_47 : decode b_M_mixed 47 = .ok (.aload_n 0, 1) := by decide +kernel
theorem d_M_mixed_48 : decode b_M_mixed 48 = .ok (.invokevirtual 95, 3) := by decide +kernel
theorem d_M_mixed_51 : decode b_M_mixed 51 = .ok (.lsub, 1) := by decide +kernel
theorem d_M_mixed_52 : decode b_M_mixed 52 = .ok (.l2i, 1) := by decide +kernel
theorem d_M_mixed_53 : decode b_M_mixed 53 = .ok (.ireturn, 1) := by decide +kernel
theorem d_M_holds_0 : decode b_M_holds 0 = .ok (.aload_n 0, 1) := by decide +kernel
theorem d_M_holds_1 : decode b_M_holds 1 = .ok (.iload_n 1, 1) := by decide +kernel
theorem d_M_holds_2 : decode b_M_holds 2 = .ok (.invokevirtual 79, 3) := by decide +kernel
theorem d_M_holds_5 : decode b_M_holds 5 = .ok (.ifCond .ne (5), 3) := by decide +kernel
theorem d_M_holds_8 : decode b_M_holds 8 = .ok (.iconst (-1), 1) := by decide +kernel
theorem d_M_holds_9 : decode b_M_holds 9 = .ok (.ireturn, 1) := by decide +kernel
theorem d_M_holds_10 : decode b_M_holds 10 = .ok (.iload_n 2, 1) := by decide +kernel
theorem d_M_holds_11 : decode b_M_holds 11 = .ok (.sipush (-1000), 3) := by decide +kernel
theorem d_M_holds_14 : decode b_M_holds 14 = .ok (.sipush (1000), 3) := by decide +kernel
theorem d_M_holds_17 : decode b_M_holds 17 = .ok (.invokestatic 83, 3) := by decide +kernel
theorem d_M_holds_20 : decode b_M_holds 20 = .ok (.ifCond .eq (16), 3) := by decide +kernel
theorem d_M_holds_23 : decode b_M_holds 23 = .ok (.iload_n 3, 1) := by decide +kernel
theorem d_M_holds_24 : decode b_M_holds 24 = .ok (.sipush (-1000), 3) := by decide +kernel
theorem d_M_holds_27 : decode b_M_holds 27 = .ok (.sipush (1000), 3) := by decide +kernel
theorem d_M_holds_30 : decode b_M_holds 30 = .ok (.invokestatic 83, 3) := by decide +kernel
theorem d_M_holds_33 : decode b_M_holds 33 = .ok (.ifCond .ne (6), 3) := by decide +kernel
theorem d_M_holds_36 : decode b_M_holds 36 = .ok (.bipush (-2), 2) := by decide +kernel
theorem d_M_holds_38 : decode b_M_holds 38 = .ok (.ireturn, 1) := by decide +kernel
theorem d_M_holds_39 : decode b_M_holds 39 = .ok (.aload_n 0, 1) := by decide +kernel
theorem d_M_holds_40 : decode b_M_holds 40 = .ok (.iload_n 1, 1) := by decide +kernel
theorem d_M_holds_41 : decode b_M_holds 41 = .ok (.invokevirtual 87, 3) := by decide +kernel
theorem d_M_holds_44 : decode b_M_holds 44 = .ok (.aload_n 0, 1) := by decide +kernel
theorem d_M_holds_45 : decode b_M_holds 45 = .ok (.iload_n 2, 1) := by decide +kernel
theorem d_M_holds_46 : decode b_M_holds 46 = .ok (.i2l, 1) := by decide +kernel
theorem d_M_holds_47 : decode b_M_holds 47 = .ok (.iload_n 3, 1) := by decide +kernel
theorem d_M_holds_48 : decode b_M_holds 48 = .ok (.i2l, 1) := by decide +kernel
theorem d_M_holds_49 : decode b_M_holds 49 = .ok (.invokevirtual 91, 3) := by decide +kernel
theorem d_M_holds_52 : decode b_M_holds 52 = .ok (.ireturn, 1) := by decide +kernel
theorem d_M_supports_0 : decode b_M_supports 0 = .ok (.aload_n 0, 1) := by decide +kernel
theorem d_M_supports_1 : decode b_M_supports 1 = .ok (.iload_n 1, 1) := by decide +kernel
theorem d_M_supports_2 : decode b_M_supports 2 = .ok (.invokevirtual 79, 3) := by decide +kernel
theorem d_M_supports_5 : decode b_M_supports 5 = .ok (.ifCond .ne (5), 3) := by decide +kernel
theorem d_M_supports_8 : decode b_M_supports 8 = .ok (.iconst (-1), 1) := by decide +kernel
theorem d_M_supports_9 : decode b_M_supports 9 = .ok (.ireturn, 1) := by decide +kernel
theorem d_M_supports_10 : decode b_M_supports 10 = .ok (.iload_n 2, 1) := by decide +kernel
theorem d_M_supports_11 : decode b_M_supports 11 = .ok (.bipush (-100), 2) := by decide +kernel
theorem d_M_supports_13 : decode b_M_supports 13 = .ok (.bipush (100), 2) := by decide +kernel
theorem d_M_supports_15 : decode b_M_supports 15 = .ok (.invokestatic 83, 3) := by decide +kernel
theorem d_M_supports_18 : decode b_M_supports 18 = .ok (.ifCond .eq (14), 3) := by decide +kernel
theorem d_M_supports_21 : decode b_M_supports 21 = .ok (.iload_n 3, 1) := by decide +kernel
theorem d_M_supports_22 : decode b_M_supports 22 = .ok (.bipush (-100), 2) := by decide +kernel
theorem d_M_supports_24 : decode b_M_supports 24 = .ok (.bipush (100), 2) := by decide +kernel
theorem d_M_supports_26 : decode b_M_supports 26 = .ok (.invokestatic 83, 3) := by decide +kernel
theorem d_M_supports_29 : decode b_M_supports 29 = .ok (.ifCond .ne (6), 3) := by decide +kernel
theorem d_M_supports_32 : decode b_M_supports 32 = .ok (.bipush (-2), 2) := by decide +kernel
theorem d_M_supports_34 : decode b_M_supports 34 = .ok (.ireturn, 1) := by decide +kernel
theorem d_M_supports_35 : decode b_M_supports 35 = .ok (.aload_n 0, 1) := by decide +kernel
theorem d_M_supports_36 : decode b_M_supports 36 = .ok (.iload_n 1, 1) := by decide +kernel
theorem d_M_supports_37 : decode b_M_supports 37 = .ok (.invokevirtual 87, 3) := by decide +kernel
theorem d_M_supports_40 : decode b_M_supports 40 = .ok (.aload_n 0, 1) := by decide +kernel
theorem d_M_supports_41 : decode b_M_supports 41 = .ok (.getfield 51, 3) := by decide +kernel
theorem d_M_supports_44 : decode b_M_supports 44 = .ok (.ifCond .ne (6), 3) := by decide +kernel
theorem d_M_supports_47 : decode b_M_supports 47 = .ok (.bipush (-3), 2) := by decide +kernel
theorem d_M_supports_49 : decode b_M_supports 49 = .ok (.ireturn, 1) := by decide +kernel
theorem d_M_supports_50 : decode b_M_supports 50 = .ok (.iload_n 2, 1) := by decide +kernel
theorem d_M_supports_51 : decode b_M_supports 51 = .ok (.aload_n 0, 1) := by decide +kernel
theorem d_M_supports_52 : decode b_M_supports 52 = .ok (.getfield 19, 3) := by decide +kernel
theorem d_M_supports_55 : decode b_M_supports 55 = .ok (.iconst 0, 1) := by decide +kernel
theorem d_M_supports_56 : decode b_M_supports 56 = .ok (.iaload, 1) := by decide +kernel
theorem d_M_supports_57 : decode b_M_supports 57 = .ok (.imul, 1) := by decide +kernel
theorem d_M_supports_58 : decode b_M_supports 58 = .ok (.iload_n 3, 1) := by decide +kernel
theorem d_M_supports_59 : decode b_M_supports 59 = .ok (.aload_n 0, 1) := by decide +kernel
theorem d_M_supports_60 : decode b_M_supports 60 = .ok (.getfield 22, 3) := by decide +kernel
theorem d_M_supports_63 : decode b_M_supports 63 = .ok (.iconst 0, 1) := by decide +kernel
theorem d_M_supports_64 : decode b_M_supports 64 = .ok (.iaload, 1) := by decide +kernel
theorem d_M_supports_65 : decode b_M_supports 65 = .ok (.imul, 1) := by decide +kernel
theorem d_M_supports_66 : decode b_M_supports 66 = .ok (.iadd, 1) := by decide +kernel
theorem d_M_supports_67 : decode b_M_supports 67 = .ok (.istore 4, 2) := by decide +kernel
theorem d_M_supports_69 : decode b_M_supports 69 = .ok (.iconst 1, 1) := by decide +kernel
theorem d_M_supports_70 : decode b_M_supports 70 = .ok (.istore 5, 2) := by decide +kernel
theorem d_M_supports_72 : decode b_M_supports 72 = .ok (.iload 5, 2) := by decide +kernel
theorem d_M_supports_74 : decode b_M_supports 74 = .ok (.aload_n 0, 1) := by decide +kernel
theorem d_M_supports_75 : decode b_M_supports 75 = .ok (.getfield 45, 3) := by decide +kernel
theorem d_M_supports_78 : decode b_M_supports 78 = .ok (.if_icmp .ge (46), 3) := by decide +kernel
theorem d_M_supports_81 : decode b_M_supports 81 = .ok (.iload_n 2, 1) := by decide +kernel
theorem d_M_supports_82 : decode b_M_supports 82 = .ok (.aload_n 0, 1) := by decide +kernel
theorem d_M_supports_83 : decode b_M_supports 83 = .ok (.getfield 19, 3) := by decide +kernel
theorem d_M_supports_86 : decode b_M_supports 86 = .ok (.iload 5, 2) := by decide +kernel
theorem d_M_supports_88 : decode b_M_supports 88 = .ok (.iaload, 1) := by decide +kernel
theorem d_M_supports_89 : decode b_M_supports 89 = .ok (.imul, 1) := by decide +kernel
theorem d_M_supports_90 : decode b_M_supports 90 = .ok (.iload_n 3, 1) := by decide +kernel
theorem d_M_supports_91 : decode b_M_supports 91 = .ok (.aload_n 0, 1) := by decide +kernel
theorem d_M_supports_92 : decode b_M_supports 92 = .ok (.getfield 22, 3) := by decide +kernel
theorem d_M_supports_95 : decode b_M_supports 95 = .ok (.iload 5, 2) := by decide +kernel
theorem d_M_supports_97 : decode b_M_supports 97 = .ok (.iaload, 1) := by decide +kernel
theorem d_M_supports_98 : decode b_M_supports 98 = .ok (.imul, 1) := by decide +kernel
theorem d_M_supports_99 : decode b_M_supports 99 = .ok (.iadd, 1) := by decide +kernel
theorem d_M_supports_100 : decode b_M_supports 100 = .ok (.istore 6, 2) := by decide +kernel
theorem d_M_supports_102 : decode b_M_supports 102 = .ok (.iload 6, 2) := by decide +kernel
theorem d_M_supports_104 : decode b_M_supports 104 = .ok (.iload 4, 2) := by decide +kernel
theorem d_M_supports_106 : decode b_M_supports 106 = .ok (.if_icmp .le (8), 3) := by decide +kernel
theorem d_M_supports_109 : decode b_M_supports 109 = .ok (.iload 6, 2) := by decide +kernel
theorem d_M_supports_111 : decode b_M_supports 111 = .ok (.goto (5), 3) := by decide +kernel
theorem d_M_supports_114 : decode b_M_supports 114 = .ok (.iload 4, 2) := by decide +kernel
theorem d_M_supports_116 : decode b_M_supports 116 = .ok (.istore 4, 2) := by decide +kernel
theorem d_M_supports_118 : decode b_M_supports 118 = .ok (.iinc 5 (1), 3) := by decide +kernel
theorem d_M_supports_121 : decode b_M_supports 121 = .ok (.goto (-49), 3) := by decide +kernel
theorem d_M_supports_124 : decode b_M_supports 124 = .ok (.iconst 0, 1) := by decide +kernel
theorem d_M_supports_125 : decode b_M_supports 125 = .ok (.istore 5, 2) := by decide +kernel
theorem d_M_supports_127 : decode b_M_supports 127 = .ok (.iconst 0, 1) := by decide +kernel
theorem d_M_supports_128 : decode b_M_supports 128 = .ok (.istore 6, 2) := by decide +kernel
theorem d_M_supports_130 : decode b_M_supports 130 = .ok (.iload 6, 2) := by decide +kernel
theorem d_M_supports_132 : decode b_M_supports 132 = .ok (.aload_n 0, 1) := by decide +kernel
theorem d_M_supports_133 : decode b_M_supports 133 = .ok (.getfield 51, 3) := by decide +kernel
theorem d_M_supports_136 : decode b_M_supports 136 = .ok (.if_icmp .ge (43), 3) := by decide +kernel
theorem d_M_supports_139 : decode b_M_supports 139 = .ok (.iload 5, 2) := by decide +kernel
theorem d_M_supports_141 : decode b_M_supports 141 = .ok (.iload_n 2, 1) := by decide +kernel
theorem d_M_supports_142 : decode b_M_supports 142 = .ok (.aload_n 0, 1) := by decide +kernel
theorem d_M_supports_143 : decode b_M_supports 143 = .ok (.getfield 25, 3) := by decide +kernel
theorem d_M_supports_146 : decode b_M_supports 146 = .ok (.iload 6, 2) := by decide +kernel
theorem d_M_supports_148 : decode b_M_supports 148 = .ok (.iaload, 1) := by decide +kernel
theorem d_M_supports_149 : decode b_M_supports 149 = .ok (.imul, 1) := by decide +kernel
theorem d_M_supports_150 : decode b_M_supports 150 = .ok (.iload_n 3, 1) := by decide +kernel
theorem d_M_supports_151 : decode b_M_supports 151 = .ok (.aload_n 0, 1) := by decide +kernel
theorem d_M_supports_152 : decode b_M_supports 152 = .ok (.getfield 28, 3) := by decide +kernel
theorem d_M_supports_155 : decode b_M_supports 155 = .ok (.iload 6, 2) := by decide +kernel
theorem d_M_supports_157 : decode b_M_supports 157 = .ok (.iaload, 1) := by decide +kernel
theorem d_M_supports_158 : decode b_M_supports 158 = .ok (.imul, 1) := by decide +kernel
theorem d_M_supports_159 : decode b_M_supports 159 = .ok (.iadd, 1) := by decide +kernel
theorem d_M_supports_160 : decode b_M_supports 160 = .ok (.iload 4, 2) := by decide +kernel
theorem d_M_supports_162 : decode b_M_supports 162 = .ok (.if_icmp .ne (7), 3) := by decide +kernel
theorem d_M_supports_165 : decode b_M_supports 165 = .ok (.iconst 1, 1) := by decide +kernel
theorem d_M_supports_166 : decode b_M_supports 166 = .ok (.goto (4), 3) := by decide +kernel
theorem d_M_supports_169 : decode b_M_supports 169 = .ok (.iconst 0, 1) := by decide +kernel
theorem d_M_supports_170 : decode b_M_supports 170 = .ok (.iadd, 1) := by decide +kernel
theorem d_M_supports_171 : decode b_M_supports 171 = .ok (.istore 5, 2) := by decide +kernel
theorem d_M_supports_173 : decode b_M_supports 173 = .ok (.iinc 6 (1), 3) := by decide +kernel
theorem d_M_supports_176 : decode b_M_supports 176 = .ok (.goto (-46), 3) := by decide +kernel
theorem d_M_supports_179 : decode b_M_supports 179 = .ok (.aload_n 0, 1) := by decide +kernel
theorem d_M_supports_180 : decode b_M_supports 180 = .ok (.iload 4, 2) := by decide +kernel
theorem d_M_supports_182 : decode b_M_supports 182 = .ok (.i2l, 1) := by decide +kernel
theorem d_M_supports_183 : decode b_M_supports 183 = .ok (.putfield 42, 3) := by decide +kernel
theorem d_M_supports_186 : decode b_M_supports 186 = .ok (.aload_n 0, 1) := by decide +kernel
theorem d_M_supports_187 : decode b_M_supports 187 = .ok (.iload 5, 2) := by decide +kernel
theorem d_M_supports_189 : decode b_M_supports 189 = .ok (.i2l, 1) := by decide +kernel
theorem d_M_supports_190 : decode b_M_supports 190 = .ok (.putfield 31, 3) := by decide +kernel
theorem d_M_supports_193 : decode b_M_supports 193 = .ok (.iconst 1, 1) := by decide +kernel
theorem d_M_supports_194 : decode b_M_supports 194 = .ok (.ireturn, 1) := by decide +kernel
theorem d_M_nearest_0 : decode b_M_nearest 0 = .ok (.aload_n 0, 1) := by decide +kernel
theorem d_M_nearest_1 : decode b_M_nearest 1 = .ok (.iload_n 1, 1) := by decide +kernel
theorem d_M_nearest_2 : decode b_M_nearest 2 = .ok (.invokevirtual 79, 3) := by decide +kernel
theorem d_M_nearest_5 : decode b_M_nearest 5 = .ok (.ifCond .ne (5), 3) := by decide +kernel
theorem d_M_nearest_8 : decode b_M_nearest 8 = .ok (.iconst (-1), 1) := by decide +kernel
theorem d_M_nearest_9 : decode b_M_nearest 9 = .ok (.ireturn, 1) := by decide +kernel
theorem d_M_nearest_10 : decode b_M_nearest 10 = .ok (.aload_n 0, 1) := by decide +kernel
theorem d_M_nearest_11 : decode b_M_nearest 11 = .ok (.iload_n 1, 1) := by decide +kernel
theorem d_M_nearest_12 : decode b_M_nearest 12 = .ok (.invokevirtual 87, 3) := by decide +kernel
theorem d_M_nearest_15 : decode b_M_nearest 15 = .ok (.aload_n 0, 1) := by decide +kernel
theorem d_M_nearest_16 : decode b_M_nearest 16 = .ok (.getfield 45, 3) := by decide +kernel
theorem d_M_nearest_19 : decode b_M_nearest 19 = .ok (.iconst 2, 1) := by decide +kernel
theorem d_M_nearest_20 : decode b_M_nearest 20 = .ok (.if_icmp .ge (6), 3) := by decide +kernel
theorem d_M_nearest_23 : decode b_M_nearest 23 = .ok (.bipush (-3), 2) := by decide +kernel
theorem d_M_nearest_25 : decode b_M_nearest 25 = .ok (.ireturn, 1) := by decide +kernel
theorem d_M_nearest_26 : decode b_M_nearest 26 = .ok (.aload_n 0, 1) := by decide +kernel
theorem d_M_nearest_27 : decode b_M_nearest 27 = .ok (.getfield 19, 3) := by decide +kernel
theorem d_M_nearest_30 : decode b_M_nearest 30 = .ok (.iconst 0, 1) := by decide +kernel
theorem d_M_nearest_31 : decode b_M_nearest 31 = .ok (.iaload, 1) := by decide +kernel
theorem d_M_nearest_32 : decode b_M_nearest 32 = .ok (.i2l, 1) := by decide +kernel
theorem d_M_nearest_33 : decode b_M_nearest 33 = .ok (.aload_n 0, 1) := by decide +kernel
theorem d_M_nearest_34 : decode b_M_nearest 34 = .ok (.getfield 22, 3) := by decide +kernel
theorem d_M_nearest_37 : decode b_M_nearest 37 = .ok (.iconst 0, 1) := by decide +kernel
theorem d_M_nearest_38 : decode b_M_nearest 38 = .ok (.iaload, 1) := by decide +kernel
theorem d_M_nearest_39 : decode b_M_nearest 39 = .ok (.i2l, 1) := by decide +kernel
theorem d_M_nearest_40 : decode b_M_nearest 40 = .ok (.aload_n 0, 1) := by decide +kernel
theorem d_M_nearest_41 : decode b_M_nearest 41 = .ok (.getfield 19, 3) := by decide +kernel
theorem d_M_nearest_44 : decode b_M_nearest 44 = .ok (.iconst 1, 1) := by decide +kernel
theorem d_M_nearest_45 : decode b_M_nearest 45 = .ok (.iaload, 1) := by decide +kernel
theorem d_M_nearest_46 : decode b_M_nearest 46 = .ok (.i2l, 1) := by decide +kernel
theorem d_M_nearest_47 : decode b_M_nearest 47 = .ok (.aload_n 0, 1) := by decide +kernel
theorem d_M_nearest_48 : decode b_M_nearest 48 = .ok (.getfield 22, 3) := by decide +kernel
theorem d_M_nearest_51 : decode b_M_nearest 51 = .ok (.iconst 1, 1) := by decide +kernel
theorem d_M_nearest_52 : decode b_M_nearest 52 = .ok (.iaload, 1) := by decide +kernel
theorem d_M_nearest_53 : decode b_M_nearest 53 = .ok (.i2l, 1) := by decide +kernel
theorem d_M_nearest_54 : decode b_M_nearest 54 = .ok (.invokestatic 62, 3) := by decide +kernel
theorem d_M_nearest_57 : decode b_M_nearest 57 = .ok (.lstore_n 2, 1) := by decide +kernel
theorem d_M_nearest_58 : decode b_M_nearest 58 = .ok (.iconst 0, 1) := by decide +kernel
theorem d_M_nearest_59 : decode b_M_nearest 59 = .ok (.istore 4, 2) := by decide +kernel
theorem d_M_nearest_61 : decode b_M_nearest 61 = .ok (.iload 4, 2) := by decide +kernel
theorem d_M_nearest_63 : decode b_M_nearest 63 = .ok (.aload_n 0, 1) := by decide +kernel
theorem d_M_nearest_64 : decode b_M_nearest 64 = .ok (.getfield 45, 3) := by decide +kernel
theorem d_M_nearest_67 : decode b_M_nearest 67 = .ok (.if_icmp .ge (76), 3) := by decide +kernel
theorem d_M_nearest_70 : decode b_M_nearest 70 = .ok (.iconst 0, 1) := by decide +kernel
theorem d_M_nearest_71 : decode b_M_nearest 71 = .ok (.istore 5, 2) := by decide +kernel
theorem d_M_nearest_73 : decode b_M_nearest 73 = .ok (.iload 5, 2) := by decide +kernel
theorem d_M_nearest_75 : decode b_M_nearest 75 = .ok (.iload 4, 2) := by decide +kernel
theorem d_M_nearest_77 : decode b_M_nearest 77 = .ok (.if_icmp .ge (60), 3) := by decide +kernel
theorem d_M_nearest_80 : decode b_M_nearest 80 = .ok (.aload_n 0, 1) := by decide +kernel
theorem d_M_nearest_81 : decode b_M_nearest 81 = .ok (.getfield 19, 3) := by decide +kernel
theorem d_M_nearest_84 : decode b_M_nearest 84 = .ok (.iload 4, 2) := by decide +kernel
theorem d_M_nearest_86 : decode b_M_nearest 86 = .ok (.iaload, 1) := by decide +kernel
theorem d_M_nearest_87 : decode b_M_nearest 87 = .ok (.i2l, 1) := by decide +kernel
theorem d_M_nearest_88 : decode b_M_nearest 88 = .ok (.aload_n 0, 1) := by decide +kernel
theorem d_M_nearest_89 : decode b_M_nearest 89 = .ok (.getfield 22, 3) := by decide +kernel
theorem d_M_nearest_92 : decode b_M_nearest 92 = .ok (.iload 4, 2) := by decide +kernel
theorem d_M_nearest_94 : decode b_M_nearest 94 = .ok (.iaload, 1) := by decide +kernel
theorem d_M_nearest_95 : decode b_M_nearest 95 = .ok (.i2l, 1) := by decide +kernel
theorem d_M_nearest_96 : decode b_M_nearest 96 = .ok (.aload_n 0, 1) := by decide +kernel
theorem d_M_nearest_97 : decode b_M_nearest 97 = .ok (.getfield 19, 3) := by decide +kernel
theorem d_M_nearest_100 : decode b_M_nearest 100 = .ok (.iload 5, 2) := by decide +kernel
theorem d_M_nearest_102 : decode b_M_nearest 102 = .ok (.iaload, 1) := by decide +kernel
theorem d_M_nearest_103 : decode b_M_nearest 103 = .ok (.i2l, 1) := by decide +kernel
theorem d_M_nearest_104 : decode b_M_nearest 104 = .ok (.aload_n 0, 1) := by decide +kernel
theorem d_M_nearest_105 : decode b_M_nearest 105 = .ok (.getfield 22, 3) := by decide +kernel
theorem d_M_nearest_108 : decode b_M_nearest 108 = .ok (.iload 5, 2) := by decide +kernel
theorem d_M_nearest_110 : decode b_M_nearest 110 = .ok (.iaload, 1) := by decide +kernel
theorem d_M_nearest_111 : decode b_M_nearest 111 = .ok (.i2l, 1) := by decide +kernel
theorem d_M_nearest_112 : decode b_M_nearest 112 = .ok (.invokestatic 62, 3) := by decide +kernel
theorem d_M_nearest_115 : decode b_M_nearest 115 = .ok (.lstore 6, 2) := by decide +kernel
theorem d_M_nearest_117 : decode b_M_nearest 117 = .ok (.lload 6, 2) := by decide +kernel
theorem d_M_nearest_119 : decode b_M_nearest 119 = .ok (.lload_n 2, 1) := by decide +kernel
theorem d_M_nearest_120 : decode b_M_nearest 120 = .ok (.lcmp, 1) := by decide +kernel
theorem d_M_nearest_121 : decode b_M_nearest 121 = .ok (.ifCond .ge (8), 3) := by decide +kernel
theorem d_M_nearest_124 : decode b_M_nearest 124 = .ok (.lload 6, 2) := by decide +kernel
theorem d_M_nearest_126 : decode b_M_nearest 126 = .ok (.goto (4), 3) := by decide +kernel
theorem d_M_nearest_129 : decode b_M_nearest 129 = .ok (.lload_n 2, 1) := by decide +kernel
theorem d_M_nearest_130 : decode b_M_nearest 130 = .ok (.lstore_n 2, 1) := by decide +kernel
theorem d_M_nearest_131 : decode b_M_nearest 131 = .ok (.iinc 5 (1), 3) := by decide +kernel
theorem d_M_nearest_134 : decode b_M_nearest 134 = .ok (.goto (-61), 3) := by decide +kernel
theorem d_M_nearest_137 : decode b_M_nearest 137 = .ok (.iinc 4 (1), 3) := by decide +kernel
theorem d_M_nearest_140 : decode b_M_nearest 140 = .ok (.goto (-79), 3) := by decide +kernel
theorem d_M_nearest_143 : decode b_M_nearest 143 = .ok (.lload_n 2, 1) := by decide +kernel
theorem d_M_nearest_144 : decode b_M_nearest 144 = .ok (.l2i, 1) := by decide +kernel
theorem d_M_nearest_145 : decode b_M_nearest 145 = .ok (.ireturn, 1) := by decide +kernel
theorem d_M_within_0 : decode b_M_within 0 = .ok (.aload_n 0, 1) := by decide +kernel
theorem d_M_within_1 : decode b_M_within 1 = .ok (.iload_n 1, 1) := by decide +kernel
theorem d_M_within_2 : decode b_M_within 2 = .ok (.invokevirtual 79, 3) := by decide +kernel
theorem d_M_within_5 : decode b_M_within 5 = .ok (.ifCond .eq (11), 3) := by decide +kernel
theorem d_M_within_8 : decode b_M_within 8 = .ok (.aload_n 0, 1) := by decide +kernel
theorem d_M_within_9 : decode b_M_within 9 = .ok (.iload_n 2, 1) := by decide +kernel
theorem d_M_within_10 : decode b_M_within 10 = .ok (.invokevirtual 79, 3) := by decide +kernel
theorem d_M_within_13 : decode b_M_within 13 = .ok (.ifCond .ne (5), 3) := by decide +kernel
theorem d_M_within_16 : decode b_M_within 16 = .ok (.iconst (-1), 1) := by decide +kernel
theorem d_M_within_17 : decode b_M_within 17 = .ok (.ireturn, 1) := by decide +kernel
theorem d_M_within_18 : decode b_M_within 18 = .ok (.aload_n 0, 1) := by decide +kernel
theorem d_M_within_19 : decode b_M_within 19 = .ok (.iload_n 2, 1) := by decide +kernel
theorem d_M_within_20 : decode b_M_within 20 = .ok (.invokevirtual 87, 3) := by decide +kernel
theorem d_M_within_23 : decode b_M_within 23 = .ok (.iconst 1, 1) := by decide +kernel
theorem d_M_within_24 : decode b_M_within 24 = .ok (.istore_n 3, 1) := by decide +kernel
theorem d_M_within_25 : decode b_M_within 25 = .ok (.iconst 0, 1) := by decide +kernel
theorem d_M_within_26 : decode b_M_within 26 = .ok (.istore 4, 2) := by decide +kernel
theorem d_M_within_28 : decode b_M_within 28 = .ok (.iload 4, 2) := by decide +kernel
theorem d_M_within_30 : decode b_M_within 30 = .ok (.aload_n 0, 1) := by decide +kernel
theorem d_M_within_31 : decode b_M_within 31 = .ok (.getfield 16, 3) := by decide +kernel
theorem d_M_within_34 : decode b_M_within 34 = .ok (.iload_n 1, 1) := by decide +kernel
theorem d_M_within_35 : decode b_M_within 35 = .ok (.iaload, 1) := by decide +kernel
theorem d_M_within_36 : decode b_M_within 36 = .ok (.if_icmp .ge (52), 3) := by decide +kernel
theorem d_M_within_39 : decode b_M_within 39 = .ok (.iload_n 3, 1) := by decide +kernel
theorem d_M_within_40 : decode b_M_within 40 = .ok (.ifCond .eq (40), 3) := by decide +kernel
theorem d_M_within_43 : decode b_M_within 43 = .ok (.aload_n 0, 1) := by decide +kernel
theorem d_M_within_44 : decode b_M_within 44 = .ok (.aload_n 0, 1) := by decide +kernel
theorem d_M_within_45 : decode b_M_within 45 = .ok (.getfield 7, 3) := by decide +kernel
theorem d_M_within_48 : decode b_M_within 48 = .ok (.bipush (24), 2) := by decide +kernel
theorem d_M_within_50 : decode b_M_within 50 = .ok (.iload_n 1, 1) := by decide +kernel
theorem d_M_within_51 : decode b_M_within 51 = .ok (.imul, 1) := by decide +kernel
theorem d_M_within_52 : decode b_M_within 52 = .ok (.iload 4, 2) := by decide +kernel
theorem d_M_within_54 : decode b_M_within 54 = .ok (.iadd, 1) := by decide +kernel
theorem d_M_within_55 : decode b_M_within 55 = .ok (.iaload, 1) := by decide +kernel
theorem d_M_within_56 : decode b_M_within 56 = .ok (.i2l, 1) := by decide +kernel
theorem d_M_within_57 : decode b_M_within 57 = .ok (.aload_n 0, 1) := by decide +kernel
theorem d_M_within_58 : decode b_M_within 58 = .ok (.getfield 13, 3) := by decide +kernel
theorem d_M_within_61 : decode b_M_within 61 = .ok (.bipush (24), 2) := by decide +kernel
theorem d_M_within_63 : decode b_M_within 63 = .ok (.iload_n 1, 1) := by decide +kernel
theorem d_M_within_64 : decode b_M_within 64 = .ok (.imul, 1) := by decide +kernel
theorem d_M_within_65 : decode b_M_within 65 = .ok (.iload 4, 2) := by decide +kernel
theorem d_M_within_67 : decode b_M_within 67 = .ok (.iadd, 1) := by decide +kernel
theorem d_M_within_68 : decode b_M_within 68 = .ok (.iaload, 1) := by decide +kernel
theorem d_M_within_69 : decode b_M_within 69 = .ok (.i2l, 1) := by decide +kernel
theorem d_M_within_70 : decode b_M_within 70 = .ok (.invokevirtual 91, 3) := by decide +kernel
theorem d_M_within_73 : decode b_M_within 73 = .ok (.ifCond .le (7), 3) := by decide +kernel
theorem d_M_within_76 : decode b_M_within 76 = .ok (.iconst 1, 1) := by decide +kernel
theorem d_M_within_77 : decode b_M_within 77 = .ok (.goto (4), 3) := by decide +kernel
theorem d_M_within_80 : decode b_M_within 80 = .ok (.iconst 0, 1) := by decide +kernel
theorem d_M_within_81 : decode b_M_within 81 = .ok (.istore_n 3, 1) := by decide +kernel
theorem d_M_within_82 : decode b_M_within 82 = .ok (.iinc 4 (1), 3) := by decide +kernel
theorem d_M_within_85 : decode b_M_within 85 = .ok (.goto (-57), 3) := by decide +kernel
theorem d_M_within_88 : decode b_M_within 88 = .ok (.iload_n 3, 1) := by decide +kernel
theorem d_M_within_89 : decode b_M_within 89 = .ok (.ifCond .eq (7), 3) := by decide +kernel
theorem d_M_within_92 : decode b_M_within 92 = .ok (.iconst 1, 1) := by decide +kernel
theorem d_M_within_93 : decode b_M_within 93 = .ok (.goto (4), 3) := by decide +kernel
theorem d_M_within_96 : decode b_M_within 96 = .ok (.iconst 0, 1) := by decide +kernel
theorem d_M_within_97 : decode b_M_within 97 = .ok (.ireturn, 1) := by decide +kernel
theorem d_M_first_0 : decode b_M_first 0 = .ok (.aload_n 0, 1) := by decide +kernel
theorem d_M_first_1 : decode b_M_first 1 = .ok (.iconst 0, 1) := by decide +kernel
theorem d_M_first_2 : decode b_M_first 2 = .ok (.putfield 35, 3) := by decide +kernel
theorem d_M_first_5 : decode b_M_first 5 = .ok (.aload_n 0, 1) := by decide +kernel
theorem d_M_first_6 : decode b_M_first 6 = .ok (.getfield 42, 3) := by decide +kernel
theorem d_M_first_9 : decode b_M_first 9 = .ok (.lreturn, 1) := by decide +kernel
theorem d_M_second_0 : decode b_M_second 0 = .ok (.aload_n 0, 1) := by decide +kernel
theorem d_M_second_1 : decode b_M_second 1 = .ok (.iconst 0, 1) := by decide +kernel
theorem d_M_second_2 : decode b_M_second 2 = .ok (.putfield 35, 3) := by decide +kernel
theorem d_M_second_5 : decode b_M_second 5 = .ok (.aload_n 0, 1) := by decide +kernel
theorem d_M_second_6 : decode b_M_second 6 = .ok (.getfield 31, 3) := by decide +kernel
theorem d_M_second_9 : decode b_M_second 9 = .ok (.lreturn, 1) := by decide +kernel
theorem d_M_told_0 : decode b_M_told 0 = .ok (.aload_n 0, 1) := by decide +kernel
theorem d_M_told_1 : decode b_M_told 1 = .ok (.iconst 0, 1) := by decide +kernel
theorem d_M_told_2 : decode b_M_told 2 = .ok (.putfield 35, 3) := by decide +kernel
theorem d_M_told_5 : decode b_M_told 5 = .ok (.iload_n 1, 1) := by decide +kernel
theorem d_M_told_6 : decode b_M_told 6 = .ok (.iconst 0, 1) := by decide +kernel
theorem d_M_told_7 : decode b_M_told 7 = .ok (.iconst 1, 1) := by decide +kernel
theorem d_M_told_8 : decode b_M_told 8 = .ok (.invokestatic 83, 3) := by decide +kernel
theorem d_M_told_11 : decode b_M_told 11 = .ok (.ifCond .ne (6), 3) := by decide +kernel
theorem d_M_told_14 : decode b_M_told 14 = .ok (.bipush (-2), 2) := by decide +kernel
theorem d_M_told_16 : decode b_M_told 16 = .ok (.ireturn, 1) := by decide +kernel
theorem d_M_told_17 : decode b_M_told 17 = .ok (.iconst 0, 1) := by decide +kernel
theorem d_M_told_18 : decode b_M_told 18 = .ok (.istore_n 2, 1) := by decide +kernel
theorem d_M_told_19 : decode b_M_told 19 = .ok (.iconst 0, 1) := by decide +kernel
theorem d_M_told_20 : decode b_M_told 20 = .ok (.istore_n 3, 1) := by decide +kernel
theorem d_M_told_21 : decode b_M_told 21 = .ok (.iload_n 3, 1) := by decide +kernel
theorem d_M_told_22 : decode b_M_told 22 = .ok (.aload_n 0, 1) := by decide +kernel
theorem d_M_told_23 : decode b_M_told 23 = .ok (.getfield 39, 3) := by decide +kernel
theorem d_M_told_26 : decode b_M_told 26 = .ok (.if_icmp .ge (18), 3) := by decide +kernel
theorem d_M_told_29 : decode b_M_told 29 = .ok (.iload_n 2, 1) := by decide +kernel
theorem d_M_told_30 : decode b_M_told 30 = .ok (.aload_n 0, 1) := by decide +kernel
theorem d_M_told_31 : decode b_M_told 31 = .ok (.getfield 16, 3) := by decide +kernel
theorem d_M_told_34 : decode b_M_told 34 = .ok (.iload_n 3, 1) := by decide +kernel
theorem d_M_told_35 : decode b_M_told 35 = .ok (.iaload, 1) := by decide +kernel
theorem d_M_told_36 : decode b_M_told 36 = .ok (.iadd, 1) := by decide +kernel
theorem d_M_told_37 : decode b_M_told 37 = .ok (.istore_n 2, 1) := by decide +kernel
theorem d_M_told_38 : decode b_M_told 38 = .ok (.iinc 3 (1), 3) := by decide +kernel
theorem d_M_told_41 : decode b_M_told 41 = .ok (.goto (-20), 3) := by decide +kernel
theorem d_M_told_44 : decode b_M_told 44 = .ok (.iload_n 1, 1) := by decide +kernel
theorem d_M_told_45 : decode b_M_told 45 = .ok (.ifCond .ne (10), 3) := by decide +kernel
theorem d_M_told_48 : decode b_M_told 48 = .ok (.aload_n 0, 1) := by decide +kernel
theorem d_M_told_49 : decode b_M_told 49 = .ok (.getfield 39, 3) := by decide +kernel
theorem d_M_told_52 : decode b_M_told 52 = .ok (.goto (4), 3) := by decide +kernel
theorem d_M_told_55 : decode b_M_told 55 = .ok (.iload_n 2, 1) := by decide +kernel
theorem d_M_told_56 : decode b_M_told 56 = .ok (.ireturn, 1) := by decide +kernel
theorem d_C_init_0 : decode b_C_init 0 = .ok (.aload_n 0, 1) := by decide +kernel
theorem d_C_init_1 : decode b_C_init 1 = .ok (.invokespecial 1, 3) := by decide +kernel
theorem d_C_init_4 : decode b_C_init 4 = .ok (.aload_n 0, 1) := by decide +kernel
theorem d_C_init_5 : decode b_C_init 5 = .ok (.lconst 0, 1) := by decide +kernel
theorem d_C_init_6 : decode b_C_init 6 = .ok (.putfield 7, 3) := by decide +kernel
theorem d_C_init_9 : decode b_C_init 9 = .ok (.aload_n 0, 1) := by decide +kernel
theorem d_C_init_10 : decode b_C_init 10 = .ok (.lconst 0, 1) := by decide +kernel
theorem d_C_init_11 : decode b_C_init 11 = .ok (.putfield 13, 3) := by decide +kernel
theorem d_C_init_14 : decode b_C_init 14 = .ok (.aload_n 0, 1) := by decide +kernel
theorem d_C_init_15 : decode b_C_init 15 = .ok (.lconst 0, 1) := by decide +kernel
theorem d_C_init_16 : decode b_C_init 16 = .ok (.putfield 16, 3) := by decide +kernel
theorem d_C_init_19 : decode b_C_init 19 = .ok (.aload_n 0, 1) := by decide +kernel
theorem d_C_init_20 : decode b_C_init 20 = .ok (.lconst 0, 1) := by decide +kernel
theorem d_C_init_21 : decode b_C_init 21 = .ok (.putfield 19, 3) := by decide +kernel
theorem d_C_init_24 : decode b_C_init 24 = .ok (.aload_n 0, 1) := by decide +kernel
theorem d_C_init_25 : decode b_C_init 25 = .ok (.lconst 1, 1) := by decide +kernel
theorem d_C_init_26 : decode b_C_init 26 = .ok (.putfield 22, 3) := by decide +kernel
theorem d_C_init_29 : decode b_C_init 29 = .ok (.return_, 1) := by decide +kernel
theorem d_C_enclose_0 : decode b_C_enclose 0 = .ok (.aload_n 0, 1) := by decide +kernel
theorem d_C_enclose_1 : decode b_C_enclose 1 = .ok (.aload_n 1, 1) := by decide +kernel
theorem d_C_enclose_2 : decode b_C_enclose 2 = .ok (.iconst 0, 1) := by decide +kernel
theorem d_C_enclose_3 : decode b_C_enclose 3 = .ok (.invokevirtual 25, 3) := by decide +kernel
theorem d_C_enclose_6 : decode b_C_enclose 6 = .ok (.iconst 1, 1) := by decide +kernel
theorem d_C_enclose_7 : decode b_C_enclose 7 = .ok (.istore_n 2, 1) := by decide +kernel
theorem d_C_enclose_8 : decode b_C_enclose 8 = .ok (.iload_n 2, 1) := by decide +kernel
theorem d_C_enclose_9 : decode b_C_enclose 9 = .ok (.aload_n 1, 1) := by decide +kernel
theorem d_C_enclose_10 : decode b_C_enclose 10 = .ok (.invokevirtual 29, 3) := by decide +kernel
theorem d_C_enclose_13 : decode b_C_enclose 13 = .ok (.if_icmp .ge (24), 3) := by decide +kernel
theorem d_C_enclose_16 : decode b_C_enclose 16 = .ok (.aload_n 0, 1) := by decide +kernel
theorem d_C_enclose_17 : decode b_C_enclose 17 = .ok (.aload_n 1, 1) := by decide +kernel
theorem d_C_enclose_18 : decode b_C_enclose 18 = .ok (.iload_n 2, 1) := by decide +kernel
theorem d_C_enclose_19 : decode b_C_enclose 19 = .ok (.invokevirtual 35, 3) := by decide +kernel
theorem d_C_enclose_22 : decode b_C_enclose 22 = .ok (.ifCond .ne (9), 3) := by decide +kernel
theorem d_C_enclose_25 : decode b_C_enclose 25 = .ok (.aload_n 0, 1) := by decide +kernel
theorem d_C_enclose_26 : decode b_C_enclose 26 = .ok (.aload_n 1, 1) := by decide +kernel
theorem d_C_enclose_27 : decode b_C_enclose 27 = .ok (.iload_n 2, 1) := by decide +kernel
theorem d_C_enclose_28 : decode b_C_enclose 28 = .ok (.invokevirtual 39, 3) := by decide +kernel
theorem d_C_enclose_31 : decode b_C_enclose 31 = .ok (.iinc 2 (1), 3) := by decide +kernel
theorem d_C_enclose_34 : decode b_C_enclose 34 = .ok (.goto (-26), 3) := by decide +kernel
theorem d_C_enclose_37 : decode b_C_enclose 37 = .ok (.return_, 1) := by decide +kernel
theorem d_C_encloseThrough_0 : decode b_C_encloseThrough 0 = .ok (.aload_n 0, 1) := by decide +kernel
theorem d_C_encloseThrough_1 : decode b_C_encloseThrough 1 = .ok (.aload_n 1, 1) := by decide +kernel
theorem d_C_encloseThrough_2 : decode b_C_encloseThrough 2 = .ok (.iload_n 2, 1) := by decide +kernel
theorem d_C_encloseThrough_3 : decode b_C_encloseThrough 3 = .ok (.invokevirtual 25, 3) := by decide +kernel
theorem d_C_encloseThrough_6 : decode b_C_encloseThrough 6 = .ok (.iconst 0, 1) := by decide +kernel
theorem d_C_encloseThrough_7 : decode b_C_encloseThrough 7 = .ok (.istore_n 3, 1) := by decide +kernel
theorem d_C_encloseThrough_8 : decode b_C_encloseThrough 8 = .ok (.iload_n 3, 1) := by decide +kernel
theorem d_C_encloseThrough_9 : decode b_C_encloseThrough 9 = .ok (.iload_n 2, 1) := by decide +kernel
theorem d_C_encloseThrough_10 : decode b_C_encloseThrough 10 = .ok (.if_icmp .ge (25), 3) := by decide +kernel
theorem d_C_encloseThrough_13 : decode b_C_encloseThrough 13 = .ok (.aload_n 0, 1) := by decide +kernel
theorem d_C_encloseThrough_14 : decode b_C_encloseThrough 14 = .ok (.aload_n 1, 1) := by decide +kernel
theorem d_C_encloseThrough_15 : decode b_C_encloseThrough 15 = .ok (.iload_n 3, 1) := by decide +kernel
theorem d_C_encloseThrough_16 : decode b_C_encloseThrough 16 = .ok (.invokevirtual 35, 3) := by decide +kernel
theorem d_C_encloseThrough_19 : decode b_C_encloseThrough 19 = .ok (.ifCond .ne (10), 3) := by decide +kernel
theorem d_C_encloseThrough_22 : decode b_C_encloseThrough 22 = .ok (.aload_n 0, 1) := by decide +kernel
theorem d_C_encloseThrough_23 : decode b_C_encloseThrough 23 = .ok (.aload_n 1, 1) := by decide +kernel
theorem d_C_encloseThrough_24 : decode b_C_encloseThrough 24 = .ok (.iload_n 2, 1) := by decide +kernel
theorem d_C_encloseThrough_25 : decode b_C_encloseThrough 25 = .ok (.iload_n 3, 1) := by decide +kernel
theorem d_C_encloseThrough_26 : decode b_C_encloseThrough 26 = .ok (.invokevirtual 42, 3) := by decide +kernel
theorem d_C_encloseThrough_29 : decode b_C_encloseThrough 29 = .ok (.iinc 3 (1), 3) := by decide +kernel
theorem d_C_encloseThrough_32 : decode b_C_encloseThrough 32 = .ok (.goto (-24), 3) := by decide +kernel
theorem d_C_encloseThrough_35 : decode b_C_encloseThrough 35 = .ok (.return_, 1) := by decide +kernel
theorem d_C_encloseThroughBoth_0 : decode b_C_encloseThroughBoth 0 = .ok (.aload_n 0, 1) := by decide +kernel
theorem d_C_encloseThroughBoth_1 : decode b_C_encloseThroughBoth 1 = .ok (.aload_n 1, 1) := by decide +kernel
theorem d_C_encloseThroughBoth_2 : decode b_C_encloseThroughBoth 2 = .ok (.iload_n 2, 1) := by decide +kernel
theorem d_C_encloseThroughBoth_3 : decode b_C_encloseThroughBoth 3 = .ok (.iload_n 3, 1) := by decide +kernel
theorem d_C_encloseThroughBoth_4 : decode b_C_encloseThroughBoth 4 = .ok (.invokevirtual 46, 3) := by decide +kernel
theorem d_C_encloseThroughBoth_7 : decode b_C_encloseThroughBoth 7 = .ok (.iconst 0, 1) := by decide +kernel
theorem d_C_encloseThroughBoth_8 : decode b_C_encloseThroughBoth 8 = .ok (.istore 4, 2) := by decide +kernel
theorem d_C_encloseThroughBoth_10 : decode b_C_encloseThroughBoth 10 = .ok (.iload 4, 2) := by decide +kernel
theorem d_C_encloseThroughBoth_12 : decode b_C_encloseThroughBoth 12 = .ok (.iload_n 3, 1) := by decide +kernel
theorem d_C_encloseThroughBoth_13 : decode b_C_encloseThroughBoth 13 = .ok (.if_icmp .ge (28), 3) := by decide +kernel
theorem d_C_encloseThroughBoth_16 : decode b_C_encloseThroughBoth 16 = .ok (.aload_n 0, 1) := by decide +kernel
theorem d_C_encloseThroughBoth_17 : decode b_C_encloseThroughBoth 17 = .ok (.aload_n 1, 1) := by decide +kernel
theorem d_C_encloseThroughBoth_18 : decode b_C_encloseThroughBoth 18 = .ok (.iload 4, 2) := by decide +kernel
theorem d_C_encloseThroughBoth_20 : decode b_C_encloseThroughBoth 20 = .ok (.invokevirtual 35, 3) := by decide +kernel
theorem d_C_encloseThroughBoth_23 : decode b_C_encloseThroughBoth 23 = .ok (.ifCond .ne (12), 3) := by decide +kernel
theorem d_C_encloseThroughBoth_26 : decode b_C_encloseThroughBoth 26 = .ok (.aload_n 0, 1) := by decide +kernel
theorem d_C_encloseThroughBoth_27 : decode b_C_encloseThroughBoth 27 = .ok (.aload_n 1, 1) := by decide +kernel
theorem d_C_encloseThroughBoth_28 : decode b_C_encloseThroughBoth 28 = .ok (.iload_n 2, 1) := by decide +kernel
theorem d_C_encloseThroughBoth_29 : decode b_C_encloseThroughBoth 29 = .ok (.iload_n 3, 1) := by decide +kernel
theorem d_C_encloseThroughBoth_30 : decode b_C_encloseThroughBoth 30 = .ok (.iload 4, 2) := by decide +kernel
theorem d_C_encloseThroughBoth_32 : decode b_C_encloseThroughBoth 32 = .ok (.invokevirtual 49, 3) := by decide +kernel
theorem d_C_encloseThroughBoth_35 : decode b_C_encloseThroughBoth 35 = .ok (.iinc 4 (1), 3) := by decide +kernel
theorem d_C_encloseThroughBoth_38 : decode b_C_encloseThroughBoth 38 = .ok (.goto (-28), 3) := by decide +kernel
theorem d_C_encloseThroughBoth_41 : decode b_C_encloseThroughBoth 41 = .ok (.return_, 1) := by decide +kernel
theorem d_C_has_0 : decode b_C_has 0 = .ok (.aload_n 1, 1) := by decide +kernel
theorem d_C_has_1 : decode b_C_has 1 = .ok (.iload_n 2, 1) := by decide +kernel
theorem d_C_has_2 : decode b_C_has 2 = .ok (.invokevirtual 53, 3) := by decide +kernel
theorem d_C_has_5 : decode b_C_has 5 = .ok (.i2l, 1) := by decide +kernel
theorem d_C_has_6 : decode b_C_has 6 = .ok (.aload_n 0, 1) := by decide +kernel
theorem d_C_has_7 : decode b_C_has 7 = .ok (.getfield 7, 3) := by decide +kernel
theorem d_C_has_10 : decode b_C_has 10 = .ok (.lsub, 1) := by decide +kernel
theorem d_C_has_11 : decode b_C_has 11 = .ok (.lstore_n 3, 1) := by decide +kernel
theorem d_C_has_12 : decode b_C_has 12 = .ok (.aload_n 1, 1) := by decide +kernel
theorem d_C_has_13 : decode b_C_has 13 = .ok (.iload_n 2, 1) := by decide +kernel
theorem d_C_has_14 : decode b_C_has 14 = .ok (.invokevirtual 57, 3) := by decide +kernel
theorem d_C_has_17 : decode b_C_has 17 = .ok (.i2l, 1) := by decide +kernel
theorem d_C_has_18 : decode b_C_has 18 = .ok (.aload_n 0, 1) := by decide +kernel
theorem d_C_has_19 : decode b_C_has 19 = .ok (.getfield 13, 3) := by decide +kernel
theorem d_C_has_22 : decode b_C_has 22 = .ok (.lsub, 1) := by decide +kernel
theorem d_C_has_23 : decode b_C_has 23 = .ok (.lstore 5, 2) := by decide +kernel
theorem d_C_has_25 : decode b_C_has 25 = .ok (.lload_n 3, 1) := by decide +kernel
theorem d_C_has_26 : decode b_C_has 26 = .ok (.lload_n 3, 1) := by decide +kernel
theorem d_C_has_27 : decode b_C_has 27 = .ok (.lmul, 1) := by decide +kernel
theorem d_C_has_28 : decode b_C_has 28 = .ok (.lload 5, 2) := by decide +kernel
theorem d_C_has_30 : decode b_C_has 30 = .ok (.lload 5, 2) := by decide +kernel
theorem d_C_has_32 : decode b_C_has 32 = .ok (.lmul, 1) := by decide +kernel
theorem d_C_has_33 : decode b_C_has 33 = .ok (.ladd, 1) := by decide +kernel
theorem d_C_has_34 : decode b_C_has 34 = .ok (.aload_n 0, 1) := by decide +kernel
theorem d_C_has_35 : decode b_C_has 35 = .ok (.getfield 22, 3) := by decide +kernel
theorem d_C_has_38 : decode b_C_has 38 = .ok (.lmul, 1) := by decide +kernel
theorem d_C_has_39 : decode b_C_has 39 = .ok (.ldc2_w 60, 3) := by decide +kernel
theorem d_C_has_42 : decode b_C_has 42 = .ok (.lload_n 3, 1) := by decide +kernel
theorem d_C_has_43 : decode b_C_has 43 = .ok (.aload_n 0, 1) := by decide +kernel
theorem d_C_has_44 : decode b_C_has 44 = .ok (.getfield 16, 3) := by decide +kernel
theorem d_C_has_47 : decode b_C_has 47 = .ok (.lmul, 1) := by decide +kernel
theorem d_C_has_48 : decode b_C_has 48 = .ok (.lload 5, 2) := by decide +kernel
theorem d_C_has_50 : decode b_C_has 50 = .ok (.aload_n 0, 1) := by decide +kernel
theorem d_C_has_51 : decode b_C_has 51 = .ok (.getfield 19, 3) := by decide +kernel
theorem d_C_has_54 : decode b_C_has 54 = .ok (.lmul, 1) := by decide +kernel
theorem d_C_has_55 : decode b_C_has 55 = .ok (.ladd, 1) := by decide +kernel
theorem d_C_has_56 : decode b_C_has 56 = .ok (.lmul, 1) := by decide +kernel
theorem d_C_has_57 : decode b_C_has 57 = .ok (.lcmp, 1) := by decide +kernel
theorem d_C_has_58 : decode b_C_has 58 = .ok (.ifCond .gt (7), 3) := by decide +kernel
theorem d_C_has_61 : decode b_C_has 61 = .ok (.iconst 1, 1) := by decide +kernel
theorem d_C_has_62 : decode b_C_has 62 = .ok (.goto (4), 3) := by decide +kernel
theorem d_C_has_65 : decode b_C_has 65 = .ok (.iconst 0, 1) := by decide +kernel
theorem d_C_has_66 : decode b_C_has 66 = .ok (.ireturn, 1) := by decide +kernel
theorem d_C_shrinkTo_0 : decode b_C_shrinkTo 0 = .ok (.aload_n 0, 1) := by decide +kernel
theorem d_C_shrinkTo_1 : decode b_C_shrinkTo 1 = .ok (.aload_n 1, 1) := by decide +kernel
theorem d_C_shrinkTo_2 : decode b_C_shrinkTo 2 = .ok (.iload_n 2, 1) := by decide +kernel
theorem d_C_shrinkTo_3 : decode b_C_shrinkTo 3 = .ok (.invokevirtual 53, 3) := by decide +kernel
theorem d_C_shrinkTo_6 : decode b_C_shrinkTo 6 = .ok (.i2l, 1) := by decide +kernel
theorem d_C_shrinkTo_7 : decode b_C_shrinkTo 7 = .ok (.putfield 7, 3) := by decide +kernel
theorem d_C_shrinkTo_10 : decode b_C_shrinkTo 10 = .ok (.aload_n 0, 1) := by decide +kernel
theorem d_C_shrinkTo_11 : decode b_C_shrinkTo 11 = .ok (.aload_n 1, 1) := by decide +kernel
theorem d_C_shrinkTo_12 : decode b_C_shrinkTo 12 = .ok (.iload_n 2, 1) := by decide +kernel
theorem d_C_shrinkTo_13 : decode b_C_shrinkTo 13 = .ok (.invokevirtual 57, 3) := by decide +kernel
theorem d_C_shrinkTo_16 : decode b_C_shrinkTo 16 = .ok (.i2l, 1) := by decide +kernel
theorem d_C_shrinkTo_17 : decode b_C_shrinkTo 17 = .ok (.putfield 13, 3) := by decide +kernel
theorem d_C_shrinkTo_20 : decode b_C_shrinkTo 20 = .ok (.aload_n 0, 1) := by decide +kernel
theorem d_C_shrinkTo_21 : decode b_C_shrinkTo 21 = .ok (.lconst 0, 1) := by decide +kernel
theorem d_C_shrinkTo_22 : decode b_C_shrinkTo 22 = .ok (.putfield 16, 3) := by decide +kernel
theorem d_C_shrinkTo_25 : decode b_C_shrinkTo 25 = .ok (.aload_n 0, 1) := by decide +kernel
theorem d_C_shrinkTo_26 : decode b_C_shrinkTo 26 = .ok (.lconst 0, 1) := by decide +kernel
theorem d_C_shrinkTo_27 : decode b_C_shrinkTo 27 = .ok (.putfield 19, 3) := by decide +kernel
theorem d_C_shrinkTo_30 : decode b_C_shrinkTo 30 = .ok (.aload_n 0, 1) := by decide +kernel
theorem d_C_shrinkTo_31 : decode b_C_shrinkTo 31 = .ok (.lconst 1, 1) := by decide +kernel
theorem d_C_shrinkTo_32 : decode b_C_shrinkTo 32 = .ok (.putfield 22, 3) := by decide +kernel
theorem d_C_shrinkTo_35 : decode b_C_shrinkTo 35 = .ok (.return_, 1) := by decide +kernel
theorem d_C_spanAcross_0 : decode b_C_spanAcross 0 = .ok (.aload_n 0, 1) := by decide +kernel
theorem d_C_spanAcross_1 : decode b_C_spanAcross 1 = .ok (.aload_n 1, 1) := by decide +kernel
theorem d_C_spanAcross_2 : decode b_C_spanAcross 2 = .ok (.iload_n 2, 1) := by decide +kernel
theorem d_C_spanAcross_3 : decode b_C_spanAcross 3 = .ok (.invokevirtual 53, 3) := by decide +kernel
theorem d_C_spanAcross_6 : decode b_C_spanAcross 6 = .ok (.i2l, 1) := by decide +kernel
theorem d_C_spanAcross_7 : decode b_C_spanAcross 7 = .ok (.putfield 7, 3) := by decide +kernel
theorem d_C_spanAcross_10 : decode b_C_spanAcross 10 = .ok (.aload_n 0, 1) := by decide +kernel
theorem d_C_spanAcross_11 : decode b_C_spanAcross 11 = .ok (.aload_n 1, 1) := by decide +kernel
theorem d_C_spanAcross_12 : decode b_C_spanAcross 12 = .ok (.iload_n 2, 1) := by decide +kernel
theorem d_C_spanAcross_13 : decode b_C_spanAcross 13 = .ok (.invokevirtual 57, 3) := by decide +kernel
theorem d_C_spanAcross_16 : decode b_C_spanAcross 16 = .ok (.i2l, 1) := by decide +kernel
theorem d_C_spanAcross_17 : decode b_C_spanAcross 17 = .ok (.putfield 13, 3) := by decide +kernel
theorem d_C_spanAcross_20 : decode b_C_spanAcross 20 = .ok (.aload_n 0, 1) := by decide +kernel
theorem d_C_spanAcross_21 : decode b_C_spanAcross 21 = .ok (.aload_n 1, 1) := by decide +kernel
theorem d_C_spanAcross_22 : decode b_C_spanAcross 22 = .ok (.iload_n 3, 1) := by decide +kernel
theorem d_C_spanAcross_23 : decode b_C_spanAcross 23 = .ok (.invokevirtual 53, 3) := by decide +kernel
theorem d_C_spanAcross_26 : decode b_C_spanAcross 26 = .ok (.i2l, 1) := by decide +kernel
theorem d_C_spanAcross_27 : decode b_C_spanAcross 27 = .ok (.aload_n 0, 1) := by decide +kernel
theorem d_C_spanAcross_28 : decode b_C_spanAcross 28 = .ok (.getfield 7, 3) := by decide +kernel
theorem d_C_spanAcross_31 : decode b_C_spanAcross 31 = .ok (.lsub, 1) := by decide +kernel
theorem d_C_spanAcross_32 : decode b_C_spanAcross 32 = .ok (.putfield 16, 3) := by decide +kernel
theorem d_C_spanAcross_35 : decode b_C_spanAcross 35 = .ok (.aload_n 0, 1) := by decide +kernel
theorem d_C_spanAcross_36 : decode b_C_spanAcross 36 = .ok (.aload_n 1, 1) := by decide +kernel
theorem d_C_spanAcross_37 : decode b_C_spanAcross 37 = .ok (.iload_n 3, 1) := by decide +kernel
theorem d_C_spanAcross_38 : decode b_C_spanAcross 38 = .ok (.invokevirtual 57, 3) := by decide +kernel
theorem d_C_spanAcross_41 : decode b_C_spanAcross 41 = .ok (.i2l, 1) := by decide +kernel
theorem d_C_spanAcross_42 : decode b_C_spanAcross 42 = .ok (.aload_n 0, 1) := by decide +kernel
theorem d_C_spanAcross_43 : decode b_C_spanAcross 43 = .ok (.getfield 13, 3) := by decide +kernel
theorem d_C_spanAcross_46 : decode b_C_spanAcross 46 = .ok (.lsub, 1) := by decide +kernel
theorem d_C_spanAcross_47 : decode b_C_spanAcross 47 = .ok (.putfield 19, 3) := by decide +kernel
theorem d_C_spanAcross_50 : decode b_C_spanAcross 50 = .ok (.aload_n 0, 1) := by decide +kernel
theorem d_C_spanAcross_51 : decode b_C_spanAcross 51 = .ok (.ldc2_w 60, 3) := by decide +kernel
theorem d_C_spanAcross_54 : decode b_C_spanAcross 54 = .ok (.putfield 22, 3) := by decide +kernel
theorem d_C_spanAcross_57 : decode b_C_spanAcross 57 = .ok (.return_, 1) := by decide +kernel
theorem d_C_passThrough_0 : decode b_C_passThrough 0 = .ok (.aload_n 0, 1) := by decide +kernel
theorem d_C_passThrough_1 : decode b_C_passThrough 1 = .ok (.aload_n 1, 1) := by decide +kernel
theorem d_C_passThrough_2 : decode b_C_passThrough 2 = .ok (.iload_n 2, 1) := by decide +kernel
theorem d_C_passThrough_3 : decode b_C_passThrough 3 = .ok (.invokevirtual 53, 3) := by decide +kernel
theorem d_C_passThrough_6 : decode b_C_passThrough 6 = .ok (.i2l, 1) := by decide +kernel
theorem d_C_passThrough_7 : decode b_C_passThrough 7 = .ok (.putfield 7, 3) := by decide +kernel
theorem d_C_passThrough_10 : decode b_C_passThrough 10 = .ok (.aload_n 0, 1) := by decide +kernel
theorem d_C_passThrough_11 : decode b_C_passThrough 11 = .ok (.aload_n 1, 1) := by decide +kernel
theorem d_C_passThrough_12 : decode b_C_passThrough 12 = .ok (.iload_n 2, 1) := by decide +kernel
theorem d_C_passThrough_13 : decode b_C_passThrough 13 = .ok (.invokevirtual 57, 3) := by decide +kernel
theorem d_C_passThrough_16 : decode b_C_passThrough 16 = .ok (.i2l, 1) := by decide +kernel
theorem d_C_passThrough_17 : decode b_C_passThrough 17 = .ok (.putfield 13, 3) := by decide +kernel
theorem d_C_passThrough_20 : decode b_C_passThrough 20 = .ok (.aload_n 1, 1) := by decide +kernel
theorem d_C_passThrough_21 : decode b_C_passThrough 21 = .ok (.iload_n 3, 1) := by decide +kernel
theorem d_C_passThrough_22 : decode b_C_passThrough 22 = .ok (.invokevirtual 53, 3) := by decide +kernel
theorem d_C_passThrough_25 : decode b_C_passThrough 25 = .ok (.i2l, 1) := by decide +kernel
theorem d_C_passThrough_26 : decode b_C_passThrough 26 = .ok (.aload_n 0, 1) := by decide +kernel
theorem d_C_passThrough_27 : decode b_C_passThrough 27 = .ok (.getfield 7, 3) := by decide +kernel
theorem d_C_passThrough_30 : decode b_C_passThrough 30 = .ok (.lsub, 1) := by decide +kernel
theorem d_C_passThrough_31 : decode b_C_passThrough 31 = .ok (.lstore 5, 2) := by decide +kernel
theorem d_C_passThrough_33 : decode b_C_passThrough 33 = .ok (.aload_n 1, 1) := by decide +kernel
theorem d_C_passThrough_34 : decode b_C_passThrough 34 = .ok (.iload_n 3, 1) := by decide +kernel
theorem d_C_passThrough_35 : decode b_C_passThrough 35 = .ok (.invokevirtual 57, 3) := by decide +kernel
theorem d_C_passThrough_38 : decode b_C_passThrough 38 = .ok (.i2l, 1) := by decide +kernel
theorem d_C_passThrough_39 : decode b_C_passThrough 39 = .ok (.aload_n 0, 1) := by decide +kernel
theorem d_C_passThrough_40 : decode b_C_passThrough 40 = .ok (.getfield 13, 3) := by decide +kernel
theorem d_C_passThrough_43 : decode b_C_passThrough 43 = .ok (.lsub, 1) := by decide +kernel
theorem d_C_passThrough_44 : decode b_C_passThrough 44 = .ok (.lstore 7, 2) := by decide +kernel
theorem d_C_passThrough_46 : decode b_C_passThrough 46 = .ok (.aload_n 1, 1) := by decide +kernel
theorem d_C_passThrough_47 : decode b_C_passThrough 47 = .ok (.iload 4, 2) := by decide +kernel
theorem d_C_passThrough_49 : decode b_C_passThrough 49 = .ok (.invokevirtual 53, 3) := by decide +kernel
theorem d_C_passThrough_52 : decode b_C_passThrough 52 = .ok (.i2l, 1) := by decide +kernel
theorem d_C_passThrough_53 : decode b_C_passThrough 53 = .ok (.aload_n 0, 1) := by decide +kernel
theorem d_C_passThrough_54 : decode b_C_passThrough 54 = .ok (.getfield 7, 3) := by decide +kernel
theorem d_C_passThrough_57 : decode b_C_passThrough 57 = .ok (.lsub, 1) := by decide +kernel
theorem d_C_passThrough_58 : decode b_C_passThrough 58 = .ok (.lstore 9, 2) := by decide +kernel
theorem d_C_passThrough_60 : decode b_C_passThrough 60 = .ok (.aload_n 1, 1) := by decide +kernel
theorem d_C_passThrough_61 : decode b_C_passThrough 61 = .ok (.iload 4, 2) := by decide +kernel
theorem d_C_passThrough_63 : decode b_C_passThrough 63 = .ok (.invokevirtual 57, 3) := by decide +kernel
theorem d_C_passThrough_66 : decode b_C_passThrough 66 = .ok (.i2l, 1) := by decide +kernel
theorem d_C_passThrough_67 : decode b_C_passThrough 67 = .ok (.aload_n 0, 1) := by decide +kernel
theorem d_C_passThrough_68 : decode b_C_passThrough 68 = .ok (.getfield 13, 3) := by decide +kernel
theorem d_C_passThrough_71 : decode b_C_passThrough 71 = .ok (.lsub, 1) := by decide +kernel
theorem d_C_passThrough_72 : decode b_C_passThrough 72 = .ok (.lstore 11, 2) := by decide +kernel
theorem d_C_passThrough_74 : decode b_C_passThrough 74 = .ok (.lload 5, 2) := by decide +kernel
theorem d_C_passThrough_76 : decode b_C_passThrough 76 = .ok (.lload 5, 2) := by decide +kernel
theorem d_C_passThrough_78 : decode b_C_passThrough 78 = .ok (.lmul, 1) := by decide +kernel
theorem d_C_passThrough_79 : decode b_C_passThrough 79 = .ok (.lload 7, 2) := by decide +kernel
theorem d_C_passThrough_81 : decode b_C_passThrough 81 = .ok (.lload 7, 2) := by decide +kernel
theorem d_C_passThrough_83 : decode b_C_passThrough 83 = .ok (.lmul, 1) := by decide +kernel
theorem d_C_passThrough_84 : decode b_C_passThrough 84 = .ok (.ladd, 1) := by decide +kernel
theorem d_C_passThrough_85 : decode b_C_passThrough 85 = .ok (.lstore 13, 2) := by decide +kernel
theorem d_C_passThrough_87 : decode b_C_passThrough 87 = .ok (.lload 9, 2) := by decide +kernel
theorem d_C_passThrough_89 : decode b_C_passThrough 89 = .ok (.lload 9, 2) := by decide +kernel
theorem d_C_passThrough_91 : decode b_C_passThrough 91 = .ok (.lmul, 1) := by decide +kernel
theorem d_C_passThrough_92 : decode b_C_passThrough 92 = .ok (.lload 11, 2) := by decide +kernel
theorem d_C_passThrough_94 : decode b_C_passThrough 94 = .ok (.lload 11, 2) := by decide +kernel
theorem d_C_passThrough_96 : decode b_C_passThrough 96 = .ok (.lmul, 1) := by decide +kernel
theorem d_C_passThrough_97 : decode b_C_passThrough 97 = .ok (.ladd, 1) := by decide +kernel
theorem d_C_passThrough_98 : decode b_C_passThrough 98 = .ok (.lstore 15, 2) := by decide +kernel
theorem d_C_passThrough_100 : decode b_C_passThrough 100 = .ok (.lload 5, 2) := by decide +kernel
theorem d_C_passThrough_102 : decode b_C_passThrough 102 = .ok (.lload 11, 2) := by decide +kernel
theorem d_C_passThrough_104 : decode b_C_passThrough 104 = .ok (.lmul, 1) := by decide +kernel
theorem d_C_passThrough_105 : decode b_C_passThrough 105 = .ok (.lload 7, 2) := by decide +kernel
theorem d_C_passThrough_107 : decode b_C_passThrough 107 = .ok (.lload 9, 2) := by decide +kernel
theorem d_C_passThrough_109 : decode b_C_passThrough 109 = .ok (.lmul, 1) := by decide +kernel
theorem d_C_passThrough_110 : decode b_C_passThrough 110 = .ok (.lsub, 1) := by decide +kernel
theorem d_C_passThrough_111 : decode b_C_passThrough 111 = .ok (.lstore 17, 2) := by decide +kernel
theorem d_C_passThrough_113 : decode b_C_passThrough 113 = .ok (.lload 17, 2) := by decide +kernel
theorem d_C_passThrough_115 : decode b_C_passThrough 115 = .ok (.lconst 0, 1) := by decide +kernel
theorem d_C_passThrough_116 : decode b_C_passThrough 116 = .ok (.lcmp, 1) := by decide +kernel
theorem d_C_passThrough_117 : decode b_C_passThrough 117 = .ok (.ifCond .ge (9), 3) := by decide +kernel
theorem d_C_passThrough_120 : decode b_C_passThrough 120 = .ok (.ldc2_w 62, 3) := by decide +kernel
theorem d_C_passThrough_123 : decode b_C_passThrough 123 = .ok (.goto (4), 3) := by decide +kernel
theorem d_C_passThrough_126 : decode b_C_passThrough 126 = .ok (.lconst 1, 1) := by decide +kernel
theorem d_C_passThrough_127 : decode b_C_passThrough 127 = .ok (.lstore 19, 2) := by decide +kernel
theorem d_C_passThrough_129 : decode b_C_passThrough 129 = .ok (.aload_n 0, 1) := by decide +kernel
theorem d_C_passThrough_130 : decode b_C_passThrough 130 = .ok (.lload 19, 2) := by decide +kernel
theorem d_C_passThrough_132 : decode b_C_passThrough 132 = .ok (.lload 11, 2) := by decide +kernel
theorem d_C_passThrough_134 : decode b_C_passThrough 134 = .ok (.lload 13, 2) := by decide +kernel
theorem d_C_passThrough_136 : decode b_C_passThrough 136 = .ok (.lmul, 1) := by decide +kernel
theorem d_C_passThrough_137 : decode b_C_passThrough 137 = .ok (.lload 7, 2) := by decide +kernel
theorem d_C_passThrough_139 : decode b_C_passThrough 139 = .ok (.lload 15, 2) := by decide +kernel
theorem d_C_passThrough_141 : decode b_C_passThrough 141 = .ok (.lmul, 1) := by decide +kernel
theorem d_C_passThrough_142 : decode b_C_passThrough 142 = .ok (.lsub, 1) := by decide +kernel
theorem d_C_passThrough_143 : decode b_C_passThrough 143 = .ok (.lmul, 1) := by decide +kernel
theorem d_C_passThrough_144 : decode b_C_passThrough 144 = .ok (.putfield 16, 3) := by decide +kernel
theorem d_C_passThrough_147 : decode b_C_passThrough 147 = .ok (.aload_n 0, 1) := by decide +kernel
theorem d_C_passThrough_148 : decode b_C_passThrough 148 = .ok (.lload 19, 2) := by decide +kernel
theorem d_C_passThrough_150 : decode b_C_passThrough 150 = .ok (.lload 5, 2) := by decide +kernel
theorem d_C_passThrough_152 : decode b_C_passThrough 152 = .ok (.lload 15, 2) := by decide +kernel
theorem d_C_passThrough_154 : decode b_C_passThrough 154 = .ok (.lmul, 1) := by decide +kernel
theorem d_C_passThrough_155 : decode b_C_passThrough 155 = .ok (.lload 9, 2) := by decide +kernel
theorem d_C_passThrough_157 : decode b_C_passThrough 157 = .ok (.lload 13, 2) := by decide +kernel
theorem d_C_passThrough_159 : decode b_C_passThrough 159 = .ok (.lmul, 1) := by decide +kernel
theorem d_C_passThrough_160 : decode b_C_passThrough 160 = .ok (.lsub, 1) := by decide +kernel
theorem d_C_passThrough_161 : decode b_C_passThrough 161 = .ok (.lmul, 1) := by decide +kernel
theorem d_C_passThrough_162 : decode b_C_passThrough 162 = .ok (.putfield 19, 3) := by decide +kernel
theorem d_C_passThrough_165 : decode b_C_passThrough 165 = .ok (.aload_n 0, 1) := by decide +kernel
theorem d_C_passThrough_166 : decode b_C_passThrough 166 = .ok (.lload 19, 2) := by decide +kernel
theorem d_C_passThrough_168 : decode b_C_passThrough 168 = .ok (.ldc2_w 60, 3) := by decide +kernel
theorem d_C_passThrough_171 : decode b_C_passThrough 171 = .ok (.lmul, 1) := by decide +kernel
theorem d_C_passThrough_172 : decode b_C_passThrough 172 = .ok (.lload 17, 2) := by decide +kernel
theorem d_C_passThrough_174 : decode b_C_passThrough 174 = .ok (.lmul, 1) := by decide +kernel
theorem d_C_passThrough_175 : decode b_C_passThrough 175 = .ok (.putfield 22, 3) := by decide +kernel
theorem d_C_passThrough_178 : decode b_C_passThrough 178 = .ok (.return_, 1) := by decide +kernel
theorem d_C_middleX_0 : decode b_C_middleX 0 = .ok (.aload_n 0, 1) := by decide +kernel
theorem d_C_middleX_1 : decode b_C_middleX 1 = .ok (.getfield 7, 3) := by decide +kernel
theorem d_C_middleX_4 : decode b_C_middleX 4 = .ok (.aload_n 0, 1) := by decide +kernel
theorem d_C_middleX_5 : decode b_C_middleX 5 = .ok (.getfield 22, 3) := by decide +kernel
theorem d_C_middleX_8 : decode b_C_middleX 8 = .ok (.lmul, 1) := by decide +kernel
theorem d_C_middleX_9 : decode b_C_middleX 9 = .ok (.aload_n 0, 1) := by decide +kernel
theorem d_C_middleX_10 : decode b_C_middleX 10 = .ok (.getfield 16, 3) := by decide +kernel
theorem d_C_middleX_13 : decode b_C_middleX 13 = .ok (.ladd, 1) := by decide +kernel
theorem d_C_middleX_14 : decode b_C_middleX 14 = .ok (.lreturn, 1) := by decide +kernel
theorem d_C_middleY_0 : decode b_C_middleY 0 = .ok (.aload_n 0, 1) := by decide +kernel
theorem d_C_middleY_1 : decode b_C_middleY 1 = .ok (.getfield 13, 3) := by decide +kernel
theorem d_C_middleY_4 : decode b_C_middleY 4 = .ok (.aload_n 0, 1) := by decide +kernel
theorem d_C_middleY_5 : decode b_C_middleY 5 = .ok (.getfield 22, 3) := by decide +kernel
theorem d_C_middleY_8 : decode b_C_middleY 8 = .ok (.lmul, 1) := by decide +kernel
theorem d_C_middleY_9 : decode b_C_middleY 9 = .ok (.aload_n 0, 1) := by decide +kernel
theorem d_C_middleY_10 : decode b_C_middleY 10 = .ok (.getfield 19, 3) := by decide +kernel
theorem d_C_middleY_13 : decode b_C_middleY 13 = .ok (.ladd, 1) := by decide +kernel
theorem d_C_middleY_14 : decode b_C_middleY 14 = .ok (.lreturn, 1) := by decide +kernel
theorem d_C_middleUnder_0 : decode b_C_middleUnder 0 = .ok (.aload_n 0, 1) := by decide +kernel
theorem d_C_middleUnder_1 : decode b_C_middleUnder 1 = .ok (.getfield 22, 3) := by decide +kernel
theorem d_C_middleUnder_4 : decode b_C_middleUnder 4 = .ok (.lreturn, 1) := by decide +kernel
theorem d_C_squareOver_0 : decode b_C_squareOver 0 = .ok (.aload_n 0, 1) := by decide +kernel
theorem d_C_squareOver_1 : decode b_C_squareOver 1 = .ok (.getfield 16, 3) := by decide +kernel
theorem d_C_squareOver_4 : decode b_C_squareOver 4 = .ok (.aload_n 0, 1) := by decide +kernel
theorem d_C_squareOver_5 : decode b_C_squareOver 5 = .ok (.getfield 16, 3) := by decide +kernel
theorem d_C_squareOver_8 : decode b_C_squareOver 8 = .ok (.lmul, 1) := by decide +kernel
theorem d_C_squareOver_9 : decode b_C_squareOver 9 = .ok (.aload_n 0, 1) := by decide +kernel
theorem d_C_squareOver_10 : decode b_C_squareOver 10 = .ok (.getfield 19, 3) := by decide +kernel
theorem d_C_squareOver_13 : decode b_C_squareOver 13 = .ok (.aload_n 0, 1) := by decide +kernel
theorem d_C_squareOver_14 : decode b_C_squareOver 14 = .ok (.getfield 19, 3) := by decide +kernel
theorem d_C_squareOver_17 : decode b_C_squareOver 17 = .ok (.lmul, 1) := by decide +kernel
theorem d_C_squareOver_18 : decode b_C_squareOver 18 = .ok (.ladd, 1) := by decide +kernel
theorem d_C_squareOver_19 : decode b_C_squareOver 19 = .ok (.lreturn, 1) := by decide +kernel
theorem d_C_squareUnder_0 : decode b_C_squareUnder 0 = .ok (.aload_n 0, 1) := by decide +kernel
theorem d_C_squareUnder_1 : decode b_C_squareUnder 1 = .ok (.getfield 22, 3) := by decide +kernel
theorem d_C_squareUnder_4 : decode b_C_squareUnder 4 = .ok (.aload_n 0, 1) := by decide +kernel
theorem d_C_squareUnder_5 : decode b_C_squareUnder 5 = .ok (.getfield 22, 3) := by decide +kernel
theorem d_C_squareUnder_8 : decode b_C_squareUnder 8 = .ok (.lmul, 1) := by decide +kernel
theorem d_C_squareUnder_9 : decode b_C_squareUnder 9 = .ok (.lreturn, 1) := by decide +kernel
theorem d_L_init_0 : decode b_L_init 0 = .ok (.aload_n 0, 1) := by decide +kernel
theorem d_L_init_1 : decode b_L_init 1 = .ok (.invokespecial 1, 3) := by decide +kernel
theorem d_L_init_4 : decode b_L_init 4 = .ok (.aload_n 0, 1) := by decide +kernel
theorem d_L_init_5 : decode b_L_init 5 = .ok (.lconst 0, 1) := by decide +kernel
theorem d_L_init_6 : decode b_L_init 6 = .ok (.putfield 7, 3) := by decide +kernel
theorem d_L_init_9 : decode b_L_init 9 = .ok (.aload_n 0, 1) := by decide +kernel
theorem d_L_init_10 : decode b_L_init 10 = .ok (.lconst 1, 1) := by decide +kernel
theorem d_L_init_11 : decode b_L_init 11 = .ok (.putfield 13, 3) := by decide +kernel
theorem d_L_init_14 : decode b_L_init 14 = .ok (.aload_n 0, 1) := by decide +kernel
theorem d_L_init_15 : decode b_L_init 15 = .ok (.iconst 0, 1) := by decide +kernel
theorem d_L_init_16 : decode b_L_init 16 = .ok (.putfield 16, 3) := by decide +kernel
theorem d_L_init_19 : decode b_L_init 19 = .ok (.return_, 1) := by decide +kernel
theorem d_L_forget_0 : decode b_L_forget 0 = .ok (.aload_n 0, 1) := by decide +kernel
theorem d_L_forget_1 : decode b_L_forget 1 = .ok (.lconst 0, 1) := by decide +kernel
theorem d_L_forget_2 : decode b_L_forget 2 = .ok (.putfield 7, 3) := by decide +kernel
theorem d_L_forget_5 : decode b_L_forget 5 = .ok (.aload_n 0, 1) := by decide +kernel
theorem d_L_forget_6 : decode b_L_forget 6 = .ok (.lconst 1, 1) := by decide +kernel
theorem d_L_forget_7 : decode b_L_forget 7 = .ok (.putfield 13, 3) := by decide +kernel
theorem d_L_forget_10 : decode b_L_forget 10 = .ok (.aload_n 0, 1) := by decide +kernel
theorem d_L_forget_11 : decode b_L_forget 11 = .ok (.iconst 0, 1) := by decide +kernel
theorem d_L_forget_12 : decode b_L_forget 12 = .ok (.putfield 16, 3) := by decide +kernel
theorem d_L_forget_15 : decode b_L_forget 15 = .ok (.return_, 1) := by decide +kernel
theorem d_L_take_0 : decode b_L_take 0 = .ok (.aload_n 0, 1) := by decide +kernel
theorem d_L_take_1 : decode b_L_take 1 = .ok (.getfield 16, 3) := by decide +kernel
theorem d_L_take_4 : decode b_L_take 4 = .ok (.ifCond .eq (19), 3) := by decide +kernel
theorem d_L_take_7 : decode b_L_take 7 = .ok (.lload_n 1, 1) := by decide +kernel
theorem d_L_take_8 : decode b_L_take 8 = .ok (.aload_n 0, 1) := by decide +kernel
theorem d_L_take_9 : decode b_L_take 9 = .ok (.getfield 13, 3) := by decide +kernel
theorem d_L_take_12 : decode b_L_take 12 = .ok (.lmul, 1) := by decide +kernel
theorem d_L_take_13 : decode b_L_take 13 = .ok (.aload_n 0, 1) := by decide +kernel
theorem d_L_take_14 : decode b_L_take 14 = .ok (.getfield 7, 3) := by decide +kernel
theorem d_L_take_17 : decode b_L_take 17 = .ok (.lload_n 3, 1) := by decide +kernel
theorem d_L_take_18 : decode b_L_take 18 = .ok (.lmul, 1) := by decide +kernel
theorem d_L_take_19 : decode b_L_take 19 = .ok (.lcmp, 1) := by decide +kernel
theorem d_L_take_20 : decode b_L_take 20 = .ok (.ifCond .ge (18), 3) := by decide +kernel
theorem d_L_take_23 : decode b_L_take 23 = .ok (.aload_n 0, 1) := by decide +kernel
theorem d_L_take_24 : decode b_L_take 24 = .ok (.lload_n 1, 1) := by decide +kernel
theorem d_L_take_25 : decode b_L_take 25 = .ok (.putfield 7, 3) := by decide +kernel
theorem d_L_take_28 : decode b_L_take 28 = .ok (.aload_n 0, 1) := by decide +kernel
theorem d_L_take_29 : decode b_L_take 29 = .ok (.lload_n 3, 1) := by decide +kernel
theorem d_L_take_30 : decode b_L_take 30 = .ok (.putfield 13, 3) := by decide +kernel
theorem d_L_take_33 : decode b_L_take 33 = .ok (.aload_n 0, 1) := by decide +kernel
theorem d_L_take_34 : decode b_L_take 34 = .ok (.iconst 1, 1) := by decide +kernel
theorem d_L_take_35 : decode b_L_take 35 = .ok (.putfield 16, 3) := by decide +kernel
theorem d_L_take_38 : decode b_L_take 38 = .ok (.return_, 1) := by decide +kernel
theorem d_L_over_0 : decode b_L_over 0 = .ok (.aload_n 0, 1) := by decide +kernel
theorem d_L_over_1 : decode b_L_over 1 = .ok (.getfield 7, 3) := by decide +kernel
theorem d_L_over_4 : decode b_L_over 4 = .ok (.lreturn, 1) := by decide +kernel
theorem d_L_under_0 : decode b_L_under 0 = .ok (.aload_n 0, 1) := by decide +kernel
theorem d_L_under_1 : decode b_L_under 1 = .ok (.getfield 13, 3) := by decide +kernel
theorem d_L_under_4 : decode b_L_under 4 = .ok (.lreturn, 1) := by decide +kernel
theorem d_R_init_0 : decode b_R_init 0 = .ok (.aload_n 0, 1) := by decide +kernel
theorem d_R_init_1 : decode b_R_init 1 = .ok (.invokespecial 3, 3) := by decide +kernel
theorem d_R_init_4 : decode b_R_init 4 = .ok (.aload_n 0, 1) := by decide +kernel
theorem d_R_init_5 : decode b_R_init 5 = .ok (.bipush (48), 2) := by decide +kernel
theorem d_R_init_7 : decode b_R_init 7 = .ok (.newarray .int, 2) := by decide +kernel
theorem d_R_init_9 : decode b_R_init 9 = .ok (.putfield 9, 3) := by decide +kernel
theorem d_R_init_12 : decode b_R_init 12 = .ok (.aload_n 0, 1) := by decide +kernel
theorem d_R_init_13 : decode b_R_init 13 = .ok (.bipush (48), 2) := by decide +kernel
theorem d_R_init_15 : decode b_R_init 15 = .ok (.newarray .int, 2) := by decide +kernel
theorem d_R_init_17 : decode b_R_init 17 = .ok (.putfield 15, 3) := by decide +kernel
theorem d_R_init_20 : decode b_R_init 20 = .ok (.aload_n 0, 1) := by decide +kernel
theorem d_R_init_21 : decode b_R_init 21 = .ok (.iconst 0, 1) := by decide +kernel
theorem d_R_init_22 : decode b_R_init 22 = .ok (.putfield 18, 3) := by decide +kernel
theorem d_R_init_25 : decode b_R_init 25 = .ok (.return_, 1) := by decide +kernel
theorem d_R_size_0 : decode b_R_size 0 = .ok (.aload_n 0, 1) := by decide +kernel
theorem d_R_size_1 : decode b_R_size 1 = .ok (.getfield 18, 3) := by decide +kernel
theorem d_R_size_4 : decode b_R_size 4 = .ok (.ireturn, 1) := by decide +kernel
theorem d_R_x_0 : decode b_R_x 0 = .ok (.iload_n 1, 1) := by decide +kernel
theorem d_R_x_1 : decode b_R_x 1 = .ok (.ifCond .lt (29), 3) := by decide +kernel
theorem d_R_x_4 : decode b_R_x 4 = .ok (.iload_n 1, 1) := by decide +kernel
theorem d_R_x_5 : decode b_R_x 5 = .ok (.aload_n 0, 1) := by decide +kernel
theorem d_R_x_6 : decode b_R_x 6 = .ok (.getfield 18, 3) := by decide +kernel
theorem d_R_x_9 : decode b_R_x 9 = .ok (.if_icmp .ge (21), 3) := by decide +kernel
theorem d_R_x_12 : decode b_R_x 12 = .ok (.iload_n 1, 1) := by decide +kernel
theorem d_R_x_13 : decode b_R_x 13 = .ok (.aload_n 0, 1) := by decide +kernel
theorem d_R_x_14 : decode b_R_x 14 = .ok (.getfield 9, 3) := by decide +kernel
theorem d_R_x_17 : decode b_R_x 17 = .ok (.arraylength, 1) := by decide +kernel
theorem d_R_x_18 : decode b_R_x 18 = .ok (.if_icmp .ge (12), 3) := by decide +kernel
theorem d_R_x_21 : decode b_R_x 21 = .ok (.aload_n 0, 1) := by decide +kernel
theorem d_R_x_22 : decode b_R_x 22 = .ok (.getfield 9, 3) := by decide +kernel
theorem d_R_x_25 : decode b_R_x 25 = .ok (.iload_n 1, 1) := by decide +kernel
theorem d_R_x_26 : decode b_R_x 26 = .ok (.iaload, 1) := by decide +kernel
theorem d_R_x_27 : decode b_R_x 27 = .ok (.goto (4), 3) := by decide +kernel
theorem d_R_x_30 : decode b_R_x 30 = .ok (.iconst 0, 1) := by decide +kernel
theorem d_R_x_31 : decode b_R_x 31 = .ok (.ireturn, 1) := by decide +kernel
theorem d_R_y_0 : decode b_R_y 0 = .ok (.iload_n 1, 1) := by decide +kernel
theorem d_R_y_1 : decode b_R_y 1 = .ok (.ifCond .lt (29), 3) := by decide +kernel
theorem d_R_y_4 : decode b_R_y 4 = .ok (.iload_n 1, 1) := by decide +kernel
theorem d_R_y_5 : decode b_R_y 5 = .ok (.aload_n 0, 1) := by decide +kernel
theorem d_R_y_6 : decode b_R_y 6 = .ok (.getfield 18, 3) := by decide +kernel
theorem d_R_y_9 : decode b_R_y 9 = .ok (.if_icmp .ge (21), 3) := by decide +kernel
theorem d_R_y_12 : decode b_R_y 12 = .ok (.iload_n 1, 1) := by decide +kernel
theorem d_R_y_13 : decode b_R_y 13 = .ok (.aload_n 0, 1) := by decide +kernel
theorem d_R_y_14 : decode b_R_y 14 = .ok (.getfield 15, 3) := by decide +kernel
theorem d_R_y_17 : decode b_R_y 17 = .ok (.arraylength, 1) := by decide +kernel
theorem d_R_y_18 : decode b_R_y 18 = .ok (.if_icmp .ge (12), 3) := by decide +kernel
theorem d_R_y_21 : decode b_R_y 21 = .ok (.aload_n 0, 1) := by decide +kernel
theorem d_R_y_22 : decode b_R_y 22 = .ok (.getfield 15, 3) := by decide +kernel
theorem d_R_y_25 : decode b_R_y 25 = .ok (.iload_n 1, 1) := by decide +kernel
theorem d_R_y_26 : decode b_R_y 26 = .ok (.iaload, 1) := by decide +kernel
theorem d_R_y_27 : decode b_R_y 27 = .ok (.goto (4), 3) := by decide +kernel
theorem d_R_y_30 : decode b_R_y 30 = .ok (.iconst 0, 1) := by decide +kernel
theorem d_R_y_31 : decode b_R_y 31 = .ok (.ireturn, 1) := by decide +kernel
theorem d_R_empty_0 : decode b_R_empty 0 = .ok (.aload_n 0, 1) := by decide +kernel
theorem d_R_empty_1 : decode b_R_empty 1 = .ok (.iconst 0, 1) := by decide +kernel
theorem d_R_empty_2 : decode b_R_empty 2 = .ok (.putfield 18, 3) := by decide +kernel
theorem d_R_empty_5 : decode b_R_empty 5 = .ok (.return_, 1) := by decide +kernel
theorem d_R_add_0 : decode b_R_add 0 = .ok (.aload_n 0, 1) := by decide +kernel
theorem d_R_add_1 : decode b_R_add 1 = .ok (.getfield 18, 3) := by decide +kernel
theorem d_R_add_4 : decode b_R_add 4 = .ok (.ifCond .lt (57), 3) := by decide +kernel
theorem d_R_add_7 : decode b_R_add 7 = .ok (.aload_n 0, 1) := by decide +kernel
theorem d_R_add_8 : decode b_R_add 8 = .ok (.getfield 18, 3) := by decide +kernel
theorem d_R_add_11 : decode b_R_add 11 = .ok (.aload_n 0, 1) := by decide +kernel
theorem d_R_add_12 : decode b_R_add 12 = .ok (.getfield 9, 3) := by decide +kernel
theorem d_R_add_15 : decode b_R_add 15 = .ok (.arraylength, 1) := by decide +kernel
theorem d_R_add_16 : decode b_R_add 16 = .ok (.if_icmp .ge (45), 3) := by decide +kernel
theorem d_R_add_19 : decode b_R_add 19 = .ok (.aload_n 0, 1) := by decide +kernel
theorem d_R_add_20 : decode b_R_add 20 = .ok (.getfield 18, 3) := by decide +kernel
theorem d_R_add_23 : decode b_R_add 23 = .ok (.aload_n 0, 1) := by decide +kernel
theorem d_R_add_24 : decode b_R_add 24 = .ok (.getfield 15, 3) := by decide +kernel
theorem d_R_add_27 : decode b_R_add 27 = .ok (.arraylength, 1) := by decide +kernel
theorem d_R_add_28 : decode b_R_add 28 = .ok (.if_icmp .ge (33), 3) := by decide +kernel
theorem d_R_add_31 : decode b_R_add 31 = .ok (.aload_n 0, 1) := by decide +kernel
theorem d_R_add_32 : decode b_R_add 32 = .ok (.getfield 9, 3) := by decide +kernel
theorem d_R_add_35 : decode b_R_add 35 = .ok (.aload_n 0, 1) := by decide +kernel
theorem d_R_add_36 : decode b_R_add 36 = .ok (.getfield 18, 3) := by decide +kernel
theorem d_R_add_39 : decode b_R_add 39 = .ok (.iload_n 1, 1) := by decide +kernel
theorem d_R_add_40 : decode b_R_add 40 = .ok (.iastore, 1) := by decide +kernel
theorem d_R_add_41 : decode b_R_add 41 = .ok (.aload_n 0, 1) := by decide +kernel
theorem d_R_add_42 : decode b_R_add 42 = .ok (.getfield 15, 3) := by decide +kernel
theorem d_R_add_45 : decode b_R_add 45 = .ok (.aload_n 0, 1) := by decide +kernel
theorem d_R_add_46 : decode b_R_add 46 = .ok (.getfield 18, 3) := by decide +kernel
theorem d_R_add_49 : decode b_R_add 49 = .ok (.iload_n 2, 1) := by decide +kernel
theorem d_R_add_50 : decode b_R_add 50 = .ok (.iastore, 1) := by decide +kernel
theorem d_R_add_51 : decode b_R_add 51 = .ok (.aload_n 0, 1) := by decide +kernel
theorem d_R_add_52 : decode b_R_add 52 = .ok (.dup, 1) := by decide +kernel
theorem d_R_add_53 : decode b_R_add 53 = .ok (.getfield 18, 3) := by decide +kernel
theorem d_R_add_56 : decode b_R_add 56 = .ok (.iconst 1, 1) := by decide +kernel
theorem d_R_add_57 : decode b_R_add 57 = .ok (.iadd, 1) := by decide +kernel
theorem d_R_add_58 : decode b_R_add 58 = .ok (.putfield 18, 3) := by decide +kernel
theorem d_R_add_61 : decode b_R_add 61 = .ok (.return_, 1) := by decide +kernel
theorem d_R_dropLast_0 : decode b_R_dropLast 0 = .ok (.aload_n 0, 1) := by decide +kernel
theorem d_R_dropLast_1 : decode b_R_dropLast 1 = .ok (.getfield 18, 3) := by decide +kernel
theorem d_R_dropLast_4 : decode b_R_dropLast 4 = .ok (.ifCond .le (13), 3) := by decide +kernel
theorem d_R_dropLast_7 : decode b_R_dropLast 7 = .ok (.aload_n 0, 1) := by decide +kernel
theorem d_R_dropLast_8 : decode b_R_dropLast 8 = .ok (.dup, 1) := by decide +kernel
theorem d_R_dropLast_9 : decode b_R_dropLast 9 = .ok (.getfield 18, 3) := by decide +kernel
theorem d_R_dropLast_12 : decode b_R_dropLast 12 = .ok (.iconst 1, 1) := by decide +kernel
theorem d_R_dropLast_13 : decode b_R_dropLast 13 = .ok (.isub, 1) := by decide +kernel
theorem d_R_dropLast_14 : decode b_R_dropLast 14 = .ok (.putfield 18, 3) := by decide +kernel
theorem d_R_dropLast_17 : decode b_R_dropLast 17 = .ok (.return_, 1) := by decide +kernel
theorem d_R_has_0 : decode b_R_has 0 = .ok (.iconst 0, 1) := by decide +kernel
theorem d_R_has_1 : decode b_R_has 1 = .ok (.istore_n 3, 1) := by decide +kernel
theorem d_R_has_2 : decode b_R_has 2 = .ok (.iload_n 3, 1) := by decide +kernel
theorem d_R_has_3 : decode b_R_has 3 = .ok (.aload_n 0, 1) := by decide +kernel
theorem d_R_has_4 : decode b_R_has 4 = .ok (.getfield 18, 3) := by decide +kernel
theorem d_R_has_7 : decode b_R_has 7 = .ok (.if_icmp .ge (29), 3) := by decide +kernel
theorem d_R_has_10 : decode b_R_has 10 = .ok (.aload_n 0, 1) := by decide +kernel
theorem d_R_has_11 : decode b_R_has 11 = .ok (.iload_n 3, 1) := by decide +kernel
theorem d_R_has_12 : decode b_R_has 12 = .ok (.invokevirtual 22, 3) := by decide +kernel
theorem d_R_has_15 : decode b_R_has 15 = .ok (.iload_n 1, 1) := by decide +kernel
theorem d_R_has_16 : decode b_R_has 16 = .ok (.if_icmp .ne (14), 3) := by decide +kernel
theorem d_R_has_19 : decode b_R_has 19 = .ok (.aload_n 0, 1) := by decide +kernel
theorem d_R_has_20 : decode b_R_has 20 = .ok (.iload_n 3, 1) := by decide +kernel
theorem d_R_has_21 : decode b_R_has 21 = .ok (.invokevirtual 26, 3) := by decide +kernel
theorem d_R_has_24 : decode b_R_has 24 = .ok (.iload_n 2, 1) := by decide +kernel
theorem d_R_has_25 : decode b_R_has 25 = .ok (.if_icmp .ne (5), 3) := by decide +kernel
theorem d_R_has_28 : decode b_R_has 28 = .ok (.iconst 1, 1) := by decide +kernel
theorem d_R_has_29 : decode b_R_has 29 = .ok (.ireturn, 1) := by decide +kernel
theorem d_R_has_30 : decode b_R_has 30 = .ok (.iinc 3 (1), 3) := by decide +kernel
theorem d_R_has_33 : decode b_R_has 33 = .ok (.goto (-31), 3) := by decide +kernel
theorem d_R_has_36 : decode b_R_has 36 = .ok (.iconst 0, 1) := by decide +kernel
theorem d_R_has_37 : decode b_R_has 37 = .ok (.ireturn, 1) := by decide +kernel
theorem d_R_isWithin_0 : decode b_R_isWithin 0 = .ok (.iconst 0, 1) := by decide +kernel
theorem d_R_isWithin_1 : decode b_R_isWithin 1 = .ok (.istore_n 2, 1) := by decide +kernel
theorem d_R_isWithin_2 : decode b_R_isWithin 2 = .ok (.iload_n 2, 1) := by decide +kernel
theorem d_R_isWithin_3 : decode b_R_isWithin 3 = .ok (.aload_n 0, 1) := by decide +kernel
theorem d_R_isWithin_4 : decode b_R_isWithin 4 = .ok (.getfield 18, 3) := by decide +kernel
theorem d_R_isWithin_7 : decode b_R_isWithin 7 = .ok (.if_icmp .ge (35), 3) := by decide +kernel
theorem d_R_isWithin_10 : decode b_R_isWithin 10 = .ok (.aload_n 0, 1) := by decide +kernel
theorem d_R_isWithin_11 : decode b_R_isWithin 11 = .ok (.iload_n 2, 1) := by decide +kernel
theorem d_R_isWithin_12 : decode b_R_isWithin 12 = .ok (.invokevirtual 22, 3) := by decide +kernel
theorem d_R_isWithin_15 : decode b_R_isWithin 15 = .ok (.iload_n 1, 1) := by decide +kernel
theorem d_R_isWithin_16 : decode b_R_isWithin 16 = .ok (.invokestatic 29, 3) := by decide +kernel
theorem d_R_isWithin_19 : decode b_R_isWithin 19 = .ok (.ifCond .eq (15), 3) := by decide +kernel
theorem d_R_isWithin_22 : decode b_R_isWithin 22 = .ok (.aload_n 0, 1) := by decide +kernel
theorem d_R_isWithin_23 : decode b_R_isWithin 23 = .ok (.iload_n 2, 1) := by decide +kernel
theorem d_R_isWithin_24 : decode b_R_isWithin 24 = .ok (.invokevirtual 26, 3) := by decide +kernel
theorem d_R_isWithin_27 : decode b_R_isWithin 27 = .ok (.iload_n 1, 1) := by decide +kernel
theorem d_R_isWithin_28 : decode b_R_isWithin 28 = .ok (.invokestatic 29, 3) := by decide +kernel
theorem d_R_isWithin_31 : decode b_R_isWithin 31 = .ok (.ifCond .ne (5), 3) := by decide +kernel
theorem d_R_isWithin_34 : decode b_R_isWithin 34 = .ok (.iconst 0, 1) := by decide +kernel
theorem d_R_isWithin_35 : decode b_R_isWithin 35 = .ok (.ireturn, 1) := by decide +kernel
theorem d_R_isWithin_36 : decode b_R_isWithin 36 = .ok (.iinc 2 (1), 3) := by decide +kernel
theorem d_R_isWithin_39 : decode b_R_isWithin 39 = .ok (.goto (-37), 3) := by decide +kernel
theorem d_R_isWithin_42 : decode b_R_isWithin 42 = .ok (.iconst 1, 1) := by decide +kernel
theorem d_R_isWithin_43 : decode b_R_isWithin 43 = .ok (.ireturn, 1) := by decide +kernel
theorem d_R_addSorted_0 : decode b_R_addSorted 0 = .ok (.aload_n 0, 1) := by decide +kernel
theorem d_R_addSorted_1 : decode b_R_addSorted 1 = .ok (.getfield 18, 3) := by decide +kernel
theorem d_R_addSorted_4 : decode b_R_addSorted 4 = .ok (.ifCond .lt (27), 3) := by decide +kernel
theorem d_R_addSorted_7 : decode b_R_addSorted 7 = .ok (.aload_n 0, 1) := by decide +kernel
theorem d_R_addSorted_8 : decode b_R_addSorted 8 = .ok (.getfield 18, 3) := by decide +kernel
theorem d_R_addSorted_11 : decode b_R_addSorted 11 = .ok (.aload_n 0, 1) := by decide +kernel
theorem d_R_addSorted_12 : decode b_R_addSorted 12 = .ok (.getfield 9, 3) := by decide +kernel
theorem d_R_addSorted_15 : decode b_R_addSorted 15 = .ok (.arraylength, 1) := by decide +kernel
theorem d_R_addSorted_16 : decode b_R_addSorted 16 = .ok (.if_icmp .ge (15), 3) := by decide +kernel
theorem d_R_addSorted_19 : decode b_R_addSorted 19 = .ok (.aload_n 0, 1) := by decide +kernel
theorem d_R_addSorted_20 : decode b_R_addSorted 20 = .ok (.getfield 18, 3) := by decide +kernel
theorem d_R_addSorted_23 : decode b_R_addSorted 23 = .ok (.aload_n 0, 1) := by decide +kernel
theorem d_R_addSorted_24 : decode b_R_addSorted 24 = .ok (.getfield 15, 3) := by decide +kernel
theorem d_R_addSorted_27 : decode b_R_addSorted 27 = .ok (.arraylength, 1) := by decide +kernel
theorem d_R_addSorted_28 : decode b_R_addSorted 28 = .ok (.if_icmp .lt (4), 3) := by decide +kernel
theorem d_R_addSorted_31 : decode b_R_addSorted 31 = .ok (.return_, 1) := by decide +kernel
theorem d_R_addSorted_32 : decode b_R_addSorted 32 = .ok (.aload_n 0, 1) := by decide +kernel
theorem d_R_addSorted_33 : decode b_R_addSorted 33 = .ok (.getfield 18, 3) := by decide +kernel
theorem d_R_addSorted_36 : decode b_R_addSorted 36 = .ok (.istore_n 3, 1) := by decide +kernel
theorem d_R_addSorted_37 : decode b_R_addSorted 37 = .ok (.iload_n 3, 1) := by decide +kernel
theorem d_R_addSorted_38 : decode b_R_addSorted 38 = .ok (.ifCond .le (73), 3) := by decide +kernel
theorem d_R_addSorted_41 : decode b_R_addSorted 41 = .ok (.aload_n 0, 1) := by decide +kernel
theorem d_R_addSorted_42 : decode b_R_addSorted 42 = .ok (.getfield 9, 3) := by decide +kernel
theorem d_R_addSorted_45 : decode b_R_addSorted 45 = .ok (.iload_n 3, 1) := by decide +kernel
theorem d_R_addSorted_46 : decode b_R_addSorted 46 = .ok (.iconst 1, 1) := by decide +kernel
theorem d_R_addSorted_47 : decode b_R_addSorted 47 = .ok (.isub, 1) := by decide +kernel
theorem d_R_addSorted_48 : decode b_R_addSorted 48 = .ok (.iaload, 1) := by decide +kernel
theorem d_R_addSorted_49 : decode b_R_addSorted 49 = .ok (.iload_n 1, 1) := by decide +kernel
theorem d_R_addSorted_50 : decode b_R_addSorted 50 = .ok (.if_icmp .gt (27), 3) := by decide +kernel
theorem d_R_addSorted_53 : decode b_R_addSorted 53 = .ok (.aload_n 0, 1) := by decide +kernel
theorem d_R_addSorted_54 : decode b_R_addSorted 54 = .ok (.getfield 9, 3) := by decide +kernel
theorem d_R_addSorted_57 : decode b_R_addSorted 57 = .ok (.iload_n 3, 1) := by decide +kernel
theorem d_R_addSorted_58 : decode b_R_addSorted 58 = .ok (.iconst 1, 1) := by decide +kernel
theorem d_R_addSorted_59 : decode b_R_addSorted 59 = .ok (.isub, 1) := by decide +kernel
theorem d_R_addSorted_60 : decode b_R_addSorted 60 = .ok (.iaload, 1) := by decide +kernel
theorem d_R_addSorted_61 : decode b_R_addSorted 61 = .ok (.iload_n 1, 1) := by decide +kernel
theorem d_R_addSorted_62 : decode b_R_addSorted 62 = .ok (.if_icmp .ne (49), 3) := by decide +kernel
theorem d_R_addSorted_65 : decode b_R_addSorted 65 = .ok (.aload_n 0, 1) := by decide +kernel
theorem d_R_addSorted_66 : decode b_R_addSorted 66 = .ok (.getfield 15, 3) := by decide +kernel
theorem d_R_addSorted_69 : decode b_R_addSorted 69 = .ok (.iload_n 3, 1) := by decide +kernel
theorem d_R_addSorted_70 : decode b_R_addSorted 70 = .ok (.iconst 1, 1) := by decide +kernel
theorem d_R_addSorted_71 : decode b_R_addSorted 71 = .ok (.isub, 1) := by decide +kernel
theorem d_R_addSorted_72 : decode b_R_addSorted 72 = .ok (.iaload, 1) := by decide +kernel
theorem d_R_addSorted_73 : decode b_R_addSorted 73 = .ok (.iload_n 2, 1) := by decide +kernel
theorem d_R_addSorted_74 : decode b_R_addSorted 74 = .ok (.if_icmp .le (37), 3) := by decide +kernel
theorem d_R_addSorted_77 : decode b_R_addSorted 77 = .ok (.aload_n 0, 1) := by decide +kernel
theorem d_R_addSorted_78 : decode b_R_addSorted 78 = .ok (.getfield 9, 3) := by decide +kernel
theorem d_R_addSorted_81 : decode b_R_addSorted 81 = .ok (.iload_n 3, 1) := by decide +kernel
theorem d_R_addSorted_82 : decode b_R_addSorted 82 = .ok (.aload_n 0, 1) := by decide +kernel
theorem d_R_addSorted_83 : decode b_R_addSorted 83 = .ok (.getfield 9, 3) := by decide +kernel
theorem d_R_addSorted_86 : decode b_R_addSorted 86 = .ok (.iload_n 3, 1) := by decide +kernel
theorem d_R_addSorted_87 : decode b_R_addSorted 87 = .ok (.iconst 1, 1) := by decide +kernel
theorem d_R_addSorted_88 : decode b_R_addSorted 88 = .ok (.isub, 1) := by decide +kernel
theorem d_R_addSorted_89 : decode b_R_addSorted 89 = .ok (.iaload, 1) := by decide +kernel
theorem d_R_addSorted_90 : decode b_R_addSorted 90 = .ok (.iastore, 1) := by decide +kernel
theorem d_R_addSorted_91 : decode b_R_addSorted 91 = .ok (.aload_n 0, 1) := by decide +kernel
theorem d_R_addSorted_92 : decode b_R_addSorted 92 = .ok (.getfield 15, 3) := by decide +kernel
theorem d_R_addSorted_95 : decode b_R_addSorted 95 = .ok (.iload_n 3, 1) := by decide +kernel
theorem d_R_addSorted_96 : decode b_R_addSorted 96 = .ok (.aload_n 0, 1) := by decide +kernel
theorem d_R_addSorted_97 : decode b_R_addSorted 97 = .ok (.getfield 15, 3) := by decide +kernel
theorem d_R_addSorted_100 : decode b_R_addSorted 100 = .ok (.iload_n 3, 1) := by decide +kernel
theorem d_R_addSorted_101 : decode b_R_addSorted 101 = .ok (.iconst 1, 1) := by decide +kernel
theorem d_R_addSorted_102 : decode b_R_addSorted 102 = .ok (.isub, 1) := by decide +kernel
theorem d_R_addSorted_103 : decode b_R_addSorted 103 = .ok (.iaload, 1) := by decide +kernel
theorem d_R_addSorted_104 : decode b_R_addSorted 104 = .ok (.iastore, 1) := by decide +kernel
theorem d_R_addSorted_105 : decode b_R_addSorted 105 = .ok (.iinc 3 (-1), 3) := by decide +kernel
theorem d_R_addSorted_108 : decode b_R_addSorted 108 = .ok (.goto (-71), 3) := by decide +kernel
theorem d_R_addSorted_111 : decode b_R_addSorted 111 = .ok (.aload_n 0, 1) := by decide +kernel
theorem d_R_addSorted_112 : decode b_R_addSorted 112 = .ok (.getfield 9, 3) := by decide +kernel
theorem d_R_addSorted_115 : decode b_R_addSorted 115 = .ok (.iload_n 3, 1) := by decide +kernel
theorem d_R_addSorted_116 : decode b_R_addSorted 116 = .ok (.iload_n 1, 1) := by decide +kernel
theorem d_R_addSorted_117 : decode b_R_addSorted 117 = .ok (.iastore, 1) := by decide +kernel
theorem d_R_addSorted_118 : decode b_R_addSorted 118 = .ok (.aload_n 0, 1) := by decide +kernel
theorem d_R_addSorted_119 : decode b_R_addSorted 119 = .ok (.getfield 15, 3) := by decide +kernel
theorem d_R_addSorted_122 : decode b_R_addSorted 122 = .ok (.iload_n 3, 1) := by decide +kernel
theorem d_R_addSorted_123 : decode b_R_addSorted 123 = .ok (.iload_n 2, 1) := by decide +kernel
theorem d_R_addSorted_124 : decode b_R_addSorted 124 = .ok (.iastore, 1) := by decide +kernel
theorem d_R_addSorted_125 : decode b_R_addSorted 125 = .ok (.aload_n 0, 1) := by decide +kernel
theorem d_R_addSorted_126 : decode b_R_addSorted 126 = .ok (.dup, 1) := by decide +kernel
theorem d_R_addSorted_127 : decode b_R_addSorted 127 = .ok (.getfield 18, 3) := by decide +kernel
theorem d_R_addSorted_130 : decode b_R_addSorted 130 = .ok (.iconst 1, 1) := by decide +kernel
theorem d_R_addSorted_131 : decode b_R_addSorted 131 = .ok (.iadd, 1) := by decide +kernel
theorem d_R_addSorted_132 : decode b_R_addSorted 132 = .ok (.putfield 18, 3) := by decide +kernel
theorem d_R_addSorted_135 : decode b_R_addSorted 135 = .ok (.return_, 1) := by decide +kernel
theorem d_R_squareBetween_0 : decode b_R_squareBetween 0 = .ok (.aload_n 0, 1) := by decide +kernel
theorem d_R_squareBetween_1 : decode b_R_squareBetween 1 = .ok (.iload_n 1, 1) := by decide +kernel
theorem d_R_squareBetween_2 : decode b_R_squareBetween 2 = .ok (.invokevirtual 22, 3) := by decide +kernel
theorem d_R_squareBetween_5 : decode b_R_squareBetween 5 = .ok (.aload_n 0, 1) := by decide +kernel
theorem d_R_squareBetween_6 : decode b_R_squareBetween 6 = .ok (.iload_n 2, 1) := by decide +kernel
theorem d_R_squareBetween_7 : decode b_R_squareBetween 7 = .ok (.invokevirtual 22, 3) := by decide +kernel
theorem d_R_squareBetween_10 : decode b_R_squareBetween 10 = .ok (.isub, 1) := by decide +kernel
theorem d_R_squareBetween_11 : decode b_R_squareBetween 11 = .ok (.istore_n 3, 1) := by decide +kernel
theorem d_R_squareBetween_12 : decode b_R_squareBetween 12 = .ok (.aload_n 0, 1) := by decide +kernel
theorem d_R_squareBetween_13 : decode b_R_squareBetween 13 = .ok (.iload_n 1, 1) := by decide +kernel
theorem d_R_squareBetween_14 : decode b_R_squareBetween 14 = .ok (.invokevirtual 26, 3) := by decide +kernel
theorem d_R_squareBetween_17 : decode b_R_squareBetween 17 = .ok (.aload_n 0, 1) := by decide +kernel
theorem d_R_squareBetween_18 : decode b_R_squareBetween 18 = .ok (.iload_n 2, 1) := by decide +kernel
theorem d_R_squareBetween_19 : decode b_R_squareBetween 19 = .ok (.invokevirtual 26, 3) := by decide +kernel
theorem d_R_squareBetween_22 : decode b_R_squareBetween 22 = .ok (.isub, 1) := by decide +kernel
theorem d_R_squareBetween_23 : decode b_R_squareBetween 23 = .ok (.istore 4, 2) := by decide +kernel
theorem d_R_squareBetween_25 : decode b_R_squareBetween 25 = .ok (.iload_n 3, 1) := by decide +kernel
theorem d_R_squareBetween_26 : decode b_R_squareBetween 26 = .ok (.iload_n 3, 1) := by decide +kernel
theorem d_R_squareBetween_27 : decode b_R_squareBetween 27 = .ok (.imul, 1) := by decide +kernel
theorem d_R_squareBetween_28 : decode b_R_squareBetween 28 = .ok (.iload 4, 2) := by decide +kernel
theorem d_R_squareBetween_30 : decode b_R_squareBetween 30 = .ok (.iload 4, 2) := by decide +kernel
theorem d_R_squareBetween_32 : decode b_R_squareBetween 32 = .ok (.imul, 1) := by decide +kernel
theorem d_R_squareBetween_33 : decode b_R_squareBetween 33 = .ok (.iadd, 1) := by decide +kernel
theorem d_R_squareBetween_34 : decode b_R_squareBetween 34 = .ok (.ireturn, 1) := by decide +kernel
theorem d_R_squareFromZero_0 : decode b_R_squareFromZero 0 = .ok (.aload_n 0, 1) := by decide +kernel
theorem d_R_squareFromZero_1 : decode b_R_squareFromZero 1 = .ok (.iload_n 1, 1) := by decide +kernel
theorem d_R_squareFromZero_2 : decode b_R_squareFromZero 2 = .ok (.invokevirtual 22, 3) := by decide +kernel
theorem d_R_squareFromZero_5 : decode b_R_squareFromZero 5 = .ok (.aload_n 0, 1) := by decide +kernel
theorem d_R_squareFromZero_6 : decode b_R_squareFromZero 6 = .ok (.iload_n 1, 1) := by decide +kernel
theorem d_R_squareFromZero_7 : decode b_R_squareFromZero 7 = .ok (.invokevirtual 22, 3) := by decide +kernel
theorem d_R_squareFromZero_10 : decode b_R_squareFromZero 10 = .ok (.imul, 1) := by decide +kernel
theorem d_R_squareFromZero_11 : decode b_R_squareFromZero 11 = .ok (.aload_n 0, 1) := by decide +kernel
theorem d_R_squareFromZero_12 : decode b_R_squareFromZero 12 = .ok (.iload_n 1, 1) := by decide +kernel
theorem d_R_squareFromZero_13 : decode b_R_squareFromZero 13 = .ok (.invokevirtual 26, 3) := by decide +kernel
theorem d_R_squareFromZero_16 : decode b_R_squareFromZero 16 = .ok (.aload_n 0, 1) := by decide +kernel
theorem d_R_squareFromZero_17 : decode b_R_squareFromZero 17 = .ok (.iload_n 1, 1) := by decide +kernel
theorem d_R_squareFromZero_18 : decode b_R_squareFromZero 18 = .ok (.invokevirtual 26, 3) := by decide +kernel
theorem d_R_squareFromZero_21 : decode b_R_squareFromZero 21 = .ok (.imul, 1) := by decide +kernel
theorem d_R_squareFromZero_22 : decode b_R_squareFromZero 22 = .ok (.iadd, 1) := by decide +kernel
theorem d_R_squareFromZero_23 : decode b_R_squareFromZero 23 = .ok (.ireturn, 1) := by decide +kernel
theorem d_R_becomeHull_0 : decode b_R_becomeHull 0 = .ok (.aload_n 3, 1) := by decide +kernel
theorem d_R_becomeHull_1 : decode b_R_becomeHull 1 = .ok (.invokevirtual 33, 3) := by decide +kernel
theorem d_R_becomeHull_4 : decode b_R_becomeHull 4 = .ok (.iconst 0, 1) := by decide +kernel
theorem d_R_becomeHull_5 : decode b_R_becomeHull 5 = .ok (.istore 4, 2) := by decide +kernel
theorem d_R_becomeHull_7 : decode b_R_becomeHull 7 = .ok (.iload 4, 2) := by decide +kernel
theorem d_R_becomeHull_9 : decode b_R_becomeHull 9 = .ok (.aload_n 1, 1) := by decide +kernel
theorem d_R_becomeHull_10 : decode b_R_becomeHull 10 = .ok (.invokevirtual 36, 3) := by decide +kernel
theorem d_R_becomeHull_13 : decode b_R_becomeHull 13 = .ok (.if_icmp .ge (29), 3) := by decide +kernel
theorem d_R_becomeHull_16 : decode b_R_becomeHull 16 = .ok (.aload_n 3, 1) := by decide +kernel
theorem d_R_becomeHull_17 : decode b_R_becomeHull 17 = .ok (.iload_n 2, 1) := by decide +kernel
theorem d_R_becomeHull_18 : decode b_R_becomeHull 18 = .ok (.aload_n 1, 1) := by decide +kernel
theorem d_R_becomeHull_19 : decode b_R_becomeHull 19 = .ok (.iload 4, 2) := by decide +kernel
theorem d_R_becomeHull_21 : decode b_R_becomeHull 21 = .ok (.invokevirtual 22, 3) := by decide +kernel
theorem d_R_becomeHull_24 : decode b_R_becomeHull 24 = .ok (.imul, 1) := by decide +kernel
theorem d_R_becomeHull_25 : decode b_R_becomeHull 25 = .ok (.iload_n 2, 1) := by decide +kernel
theorem d_R_becomeHull_26 : decode b_R_becomeHull 26 = .ok (.aload_n 1, 1) := by decide +kernel
theorem d_R_becomeHull_27 : decode b_R_becomeHull 27 = .ok (.iload 4, 2) := by decide +kernel
theorem d_R_becomeHull_29 : decode b_R_becomeHull 29 = .ok (.invokevirtual 26, 3) := by decide +kernel
theorem d_R_becomeHull_32 : decode b_R_becomeHull 32 = .ok (.imul, 1) := by decide +kernel
theorem d_R_becomeHull_33 : decode b_R_becomeHull 33 = .ok (.invokevirtual 39, 3) := by decide +kernel
theorem d_R_becomeHull_36 : decode b_R_becomeHull 36 = .ok (.iinc 4 (1), 3) := by decide +kernel
theorem d_R_becomeHull_39 : decode b_R_becomeHull 39 = .ok (.goto (-32), 3) := by decide +kernel
theorem d_R_becomeHull_42 : decode b_R_becomeHull 42 = .ok (.aload_n 0, 1) := by decide +kernel
theorem d_R_becomeHull_43 : decode b_R_becomeHull 43 = .ok (.invokevirtual 33, 3) := by decide +kernel
theorem d_R_becomeHull_46 : decode b_R_becomeHull 46 = .ok (.iconst 0, 1) := by decide +kernel
theorem d_R_becomeHull_47 : decode b_R_becomeHull 47 = .ok (.istore 4, 2) := by decide +kernel
theorem d_R_becomeHull_49 : decode b_R_becomeHull 49 = .ok (.iload 4, 2) := by decide +kernel
theorem d_R_becomeHull_51 : decode b_R_becomeHull 51 = .ok (.aload_n 3, 1) := by decide +kernel
theorem d_R_becomeHull_52 : decode b_R_becomeHull 52 = .ok (.invokevirtual 36, 3) := by decide +kernel
theorem d_R_becomeHull_55 : decode b_R_becomeHull 55 = .ok (.if_icmp .ge (26), 3) := by decide +kernel
theorem d_R_becomeHull_58 : decode b_R_becomeHull 58 = .ok (.aload_n 0, 1) := by decide +kernel
theorem d_R_becomeHull_59 : decode b_R_becomeHull 59 = .ok (.aload_n 3, 1) := by decide +kernel
theorem d_R_becomeHull_60 : decode b_R_becomeHull 60 = .ok (.iload 4, 2) := by decide +kernel
theorem d_R_becomeHull_62 : decode b_R_becomeHull 62 = .ok (.invokevirtual 22, 3) := by decide +kernel
theorem d_R_becomeHull_65 : decode b_R_becomeHull 65 = .ok (.aload_n 3, 1) := by decide +kernel
theorem d_R_becomeHull_66 : decode b_R_becomeHull 66 = .ok (.iload 4, 2) := by decide +kernel
theorem d_R_becomeHull_68 : decode b_R_becomeHull 68 = .ok (.invokevirtual 26, 3) := by decide +kernel
theorem d_R_becomeHull_71 : decode b_R_becomeHull 71 = .ok (.iconst 1, 1) := by decide +kernel
theorem d_R_becomeHull_72 : decode b_R_becomeHull 72 = .ok (.invokevirtual 43, 3) := by decide +kernel
theorem d_R_becomeHull_75 : decode b_R_becomeHull 75 = .ok (.iinc 4 (1), 3) := by decide +kernel
theorem d_R_becomeHull_78 : decode b_R_becomeHull 78 = .ok (.goto (-29), 3) := by decide +kernel
theorem d_R_becomeHull_81 : decode b_R_becomeHull 81 = .ok (.aload_n 0, 1) := by decide +kernel
theorem d_R_becomeHull_82 : decode b_R_becomeHull 82 = .ok (.getfield 18, 3) := by decide +kernel
theorem d_R_becomeHull_85 : decode b_R_becomeHull 85 = .ok (.istore 4, 2) := by decide +kernel
theorem d_R_becomeHull_87 : decode b_R_becomeHull 87 = .ok (.aload_n 3, 1) := by decide +kernel
theorem d_R_becomeHull_88 : decode b_R_becomeHull 88 = .ok (.invokevirtual 36, 3) := by decide +kernel
theorem d_R_becomeHull_91 : decode b_R_becomeHull 91 = .ok (.iconst 2, 1) := by decide +kernel
theorem d_R_becomeHull_92 : decode b_R_becomeHull 92 = .ok (.isub, 1) := by decide +kernel
theorem d_R_becomeHull_93 : decode b_R_becomeHull 93 = .ok (.istore 5, 2) := by decide +kernel
theorem d_R_becomeHull_95 : decode b_R_becomeHull 95 = .ok (.iload 5, 2) := by decide +kernel
theorem d_R_becomeHull_97 : decode b_R_becomeHull 97 = .ok (.ifCond .lt (27), 3) := by decide +kernel
theorem d_R_becomeHull_100 : decode b_R_becomeHull 100 = .ok (.aload_n 0, 1) := by decide +kernel
theorem d_R_becomeHull_101 : decode b_R_becomeHull 101 = .ok (.aload_n 3, 1) := by decide +kernel
theorem d_R_becomeHull_102 : decode b_R_becomeHull 102 = .ok (.iload 5, 2) := by decide +kernel
theorem d_R_becomeHull_104 : decode b_R_becomeHull 104 = .ok (.invokevirtual 22, 3) := by decide +kernel
theorem d_R_becomeHull_107 : decode b_R_becomeHull 107 = .ok (.aload_n 3, 1) := by decide +kernel
theorem d_R_becomeHull_108 : decode b_R_becomeHull 108 = .ok (.iload 5, 2) := by decide +kernel
theorem d_R_becomeHull_110 : decode b_R_becomeHull 110 = .ok (.invokevirtual 26, 3) := by decide +kernel
theorem d_R_becomeHull_113 : decode b_R_becomeHull 113 = .ok (.iload 4, 2) := by decide +kernel
theorem d_R_becomeHull_115 : decode b_R_becomeHull 115 = .ok (.invokevirtual 43, 3) := by decide +kernel
theorem d_R_becomeHull_118 : decode b_R_becomeHull 118 = .ok (.iinc 5 (-1), 3) := by decide +kernel
theorem d_R_becomeHull_121 : decode b_R_becomeHull 121 = .ok (.goto (-26), 3) := by decide +kernel
theorem d_R_becomeHull_124 : decode b_R_becomeHull 124 = .ok (.aload_n 0, 1) := by decide +kernel
theorem d_R_becomeHull_125 : decode b_R_becomeHull 125 = .ok (.getfield 18, 3) := by decide +kernel
theorem d_R_becomeHull_128 : decode b_R_becomeHull 128 = .ok (.iconst 1, 1) := by decide +kernel
theorem d_R_becomeHull_129 : decode b_R_becomeHull 129 = .ok (.if_icmp .le (7), 3) := by decide +kernel
theorem d_R_becomeHull_132 : decode b_R_becomeHull 132 = .ok (.aload_n 0, 1) := by decide +kernel
theorem d_R_becomeHull_133 : decode b_R_becomeHull 133 = .ok (.invokevirtual 47, 3) := by decide +kernel
theorem d_R_becomeHull_136 : decode b_R_becomeHull 136 = .ok (.return_, 1) := by decide +kernel
theorem d_R_addCorner_0 : decode b_R_addCorner 0 = .ok (.aload_n 0, 1) := by decide +kernel
theorem d_R_addCorner_1 : decode b_R_addCorner 1 = .ok (.getfield 18, 3) := by decide +kernel
theorem d_R_addCorner_4 : decode b_R_addCorner 4 = .ok (.iload_n 3, 1) := by decide +kernel
theorem d_R_addCorner_5 : decode b_R_addCorner 5 = .ok (.if_icmp .le (45), 3) := by decide +kernel
theorem d_R_addCorner_8 : decode b_R_addCorner 8 = .ok (.aload_n 0, 1) := by decide +kernel
theorem d_R_addCorner_9 : decode b_R_addCorner 9 = .ok (.getfield 18, 3) := by decide +kernel
theorem d_R_addCorner_12 : decode b_R_addCorner 12 = .ok (.iconst 1, 1) := by decide +kernel
theorem d_R_addCorner_13 : decode b_R_addCorner 13 = .ok (.if_icmp .le (37), 3) := by decide +kernel
theorem d_R_addCorner_16 : decode b_R_addCorner 16 = .ok (.aload_n 0, 1) := by decide +kernel
theorem d_R_addCorner_17 : decode b_R_addCorner 17 = .ok (.aload_n 0, 1) := by decide +kernel
theorem d_R_addCorner_18 : decode b_R_addCorner 18 = .ok (.getfield 18, 3) := by decide +kernel
theorem d_R_addCorner_21 : decode b_R_addCorner 21 = .ok (.iconst 2, 1) := by decide +kernel
theorem d_R_addCorner_22 : decode b_R_addCorner 22 = .ok (.isub, 1) := by decide +kernel
theorem d_R_addCorner_23 : decode b_R_addCorner 23 = .ok (.aload_n 0, 1) := by decide +kernel
theorem d_R_addCorner_24 : decode b_R_addCorner 24 = .ok (.getfield 18, 3) := by decide +kernel
theorem d_R_addCorner_27 : decode b_R_addCorner 27 = .ok (.iconst 1, 1) := by decide +kernel
theorem d_R_addCorner_28 : decode b_R_addCorner 28 = .ok (.isub, 1) := by decide +kernel
theorem d_R_addCorner_29 : decode b_R_addCorner 29 = .ok (.iload_n 1, 1) := by decide +kernel
theorem d_R_addCorner_30 : decode b_R_addCorner 30 = .ok (.iload_n 2, 1) := by decide +kernel
theorem d_R_addCorner_31 : decode b_R_addCorner 31 = .ok (.invokevirtual 50, 3) := by decide +kernel
theorem d_R_addCorner_34 : decode b_R_addCorner 34 = .ok (.ifCond .gt (16), 3) := by decide +kernel
theorem d_R_addCorner_37 : decode b_R_addCorner 37 = .ok (.aload_n 0, 1) := by decide +kernel
theorem d_R_addCorner_38 : decode b_R_addCorner 38 = .ok (.dup, 1) := by decide +kernel
theorem d_R_addCorner_39 : decode b_R_addCorner 39 = .ok (.getfield 18, 3) := by decide +kernel
theorem d_R_addCorner_42 : decode b_R_addCorner 42 = .ok (.iconst 1, 1) := by decide +kernel
theorem d_R_addCorner_43 : decode b_R_addCorner 43 = .ok (.isub, 1) := by decide +kernel
theorem d_R_addCorner_44 : decode b_R_addCorner 44 = .ok (.putfield 18, 3) := by decide +kernel
theorem d_R_addCorner_47 : decode b_R_addCorner 47 = .ok (.goto (-47), 3) := by decide +kernel
theorem d_R_addCorner_50 : decode b_R_addCorner 50 = .ok (.aload_n 0, 1) := by decide +kernel
theorem d_R_addCorner_51 : decode b_R_addCorner 51 = .ok (.iload_n 1, 1) := by decide +kernel
theorem d_R_addCorner_52 : decode b_R_addCorner 52 = .ok (.iload_n 2, 1) := by decide +kernel
theorem d_R_addCorner_53 : decode b_R_addCorner 53 = .ok (.invokevirtual 54, 3) := by decide +kernel
theorem d_R_addCorner_56 : decode b_R_addCorner 56 = .ok (.return_, 1) := by decide +kernel
theorem d_R_turn_0 : decode b_R_turn 0 = .ok (.aload_n 0, 1) := by decide +kernel
theorem d_R_turn_1 : decode b_R_turn 1 = .ok (.iload_n 2, 1) := by decide +kernel
theorem d_R_turn_2 : decode b_R_turn 2 = .ok (.invokevirtual 22, 3) := by decide +kernel
theorem d_R_turn_5 : decode b_R_turn 5 = .ok (.aload_n 0, 1) := by decide +kernel
theorem d_R_turn_6 : decode b_R_turn 6 = .ok (.iload_n 1, 1) := by decide +kernel
theorem d_R_turn_7 : decode b_R_turn 7 = .ok (.invokevirtual 22, 3) := by decide +kernel
theorem d_R_turn_10 : decode b_R_turn 10 = .ok (.isub, 1) := by decide +kernel
theorem d_R_turn_11 : decode b_R_turn 11 = .ok (.iload 4, 2) := by decide +kernel
theorem d_R_turn_13 : decode b_R_turn 13 = .ok (.aload_n 0, 1) := by decide +kernel
theorem d_R_turn_14 : decode b_R_turn 14 = .ok (.iload_n 1, 1) := by decide +kernel
theorem d_R_turn_15 : decode b_R_turn 15 = .ok (.invokevirtual 26, 3) := by decide +kernel
theorem d_R_turn_18 : decode b_R_turn 18 = .ok (.isub, 1) := by decide +kernel
theorem d_R_turn_19 : decode b_R_turn 19 = .ok (.imul, 1) := by decide +kernel
theorem d_R_turn_20 : decode b_R_turn 20 = .ok (.aload_n 0, 1) := by decide +kernel
theorem d_R_turn_21 : decode b_R_turn 21 = .ok (.iload_n 2, 1) := by decide +kernel
theorem d_R_turn_22 : decode b_R_turn 22 = .ok (.invokevirtual 26, 3) := by decide +kernel
theorem d_R_turn_25 : decode b_R_turn 25 = .ok (.aload_n 0, 1) := by decide +kernel
theorem d_R_turn_26 : decode b_R_turn 26 = .ok (.iload_n 1, 1) := by decide +kernel
theorem d_R_turn_27 : decode b_R_turn 27 = .ok (.invokevirtual 26, 3) := by decide +kernel
theorem d_R_turn_30 : decode b_R_turn 30 = .ok (.isub, 1) := by decide +kernel
theorem d_R_turn_31 : decode b_R_turn 31 = .ok (.iload_n 3, 1) := by decide +kernel
theorem d_R_turn_32 : decode b_R_turn 32 = .ok (.aload_n 0, 1) := by decide +kernel
theorem d_R_turn_33 : decode b_R_turn 33 = .ok (.iload_n 1, 1) := by decide +kernel
theorem d_R_turn_34 : decode b_R_turn 34 = .ok (.invokevirtual 22, 3) := by decide +kernel
theorem d_R_turn_37 : decode b_R_turn 37 = .ok (.isub, 1) := by decide +kernel
theorem d_R_turn_38 : decode b_R_turn 38 = .ok (.imul, 1) := by decide +kernel
theorem d_R_turn_39 : decode b_R_turn 39 = .ok (.isub, 1) := by decide +kernel
theorem d_R_turn_40 : decode b_R_turn 40 = .ok (.ireturn, 1) := by decide +kernel
theorem d_R_sides_0 : decode b_R_sides 0 = .ok (.aload_n 0, 1) := by decide +kernel
theorem d_R_sides_1 : decode b_R_sides 1 = .ok (.getfield 18, 3) := by decide +kernel
theorem d_R_sides_4 : decode b_R_sides 4 = .ok (.iconst 2, 1) := by decide +kernel
theorem d_R_sides_5 : decode b_R_sides 5 = .ok (.if_icmp .ge (7), 3) := by decide +kernel
theorem d_R_sides_8 : decode b_R_sides 8 = .ok (.iconst 0, 1) := by decide +kernel
theorem d_R_sides_9 : decode b_R_sides 9 = .ok (.goto (7), 3) := by decide +kernel
theorem d_R_sides_12 : decode b_R_sides 12 = .ok (.aload_n 0, 1) := by decide +kernel
theorem d_R_sides_13 : decode b_R_sides 13 = .ok (.getfield 18, 3) := by decide +kernel
theorem d_R_sides_16 : decode b_R_sides 16 = .ok (.ireturn, 1) := by decide +kernel
theorem d_R_next_0 : decode b_R_next 0 = .ok (.iload_n 1, 1) := by decide +kernel
theorem d_R_next_1 : decode b_R_next 1 = .ok (.iconst 1, 1) := by decide +kernel
theorem d_R_next_2 : decode b_R_next 2 = .ok (.iadd, 1) := by decide +kernel
theorem d_R_next_3 : decode b_R_next 3 = .ok (.aload_n 0, 1) := by decide +kernel
theorem d_R_next_4 : decode b_R_next 4 = .ok (.getfield 18, 3) := by decide +kernel
theorem d_R_next_7 : decode b_R_next 7 = .ok (.if_icmp .ge (9), 3) := by decide +kernel
theorem d_R_next_10 : decode b_R_next 10 = .ok (.iload_n 1, 1) := by decide +kernel
theorem d_R_next_11 : decode b_R_next 11 = .ok (.iconst 1, 1) := by decide +kernel
theorem d_R_next_12 : decode b_R_next 12 = .ok (.iadd, 1) := by decide +kernel
theorem d_R_next_13 : decode b_R_next 13 = .ok (.goto (4), 3) := by decide +kernel
theorem d_R_next_16 : decode b_R_next 16 = .ok (.iconst 0, 1) := by decide +kernel
theorem d_R_next_17 : decode b_R_next 17 = .ok (.ireturn, 1) := by decide +kernel
theorem d_R_sideX_0 : decode b_R_sideX 0 = .ok (.aload_n 0, 1) := by decide +kernel
theorem d_R_sideX_1 : decode b_R_sideX 1 = .ok (.aload_n 0, 1) := by decide +kernel
theorem d_R_sideX_2 : decode b_R_sideX 2 = .ok (.iload_n 1, 1) := by decide +kernel
theorem d_R_sideX_3 : decode b_R_sideX 3 = .ok (.invokevirtual 57, 3) := by decide +kernel
theorem d_R_sideX_6 : decode b_R_sideX 6 = .ok (.invokevirtual 22, 3) := by decide +kernel
theorem d_R_sideX_9 : decode b_R_sideX 9 = .ok (.aload_n 0, 1) := by decide +kernel
theorem d_R_sideX_10 : decode b_R_sideX 10 = .ok (.iload_n 1, 1) := by decide +kernel
theorem d_R_sideX_11 : decode b_R_sideX 11 = .ok (.invokevirtual 22, 3) := by decide +kernel
theorem d_R_sideX_14 : decode b_R_sideX 14 = .ok (.isub, 1) := by decide +kernel
theorem d_R_sideX_15 : decode b_R_sideX 15 = .ok (.ireturn, 1) := by decide +kernel
theorem d_R_sideY_0 : decode b_R_sideY 0 = .ok (.aload_n 0, 1) := by decide +kernel
theorem d_R_sideY_1 : decode b_R_sideY 1 = .ok (.aload_n 0, 1) := by decide +kernel
theorem d_R_sideY_2 : decode b_R_sideY 2 = .ok (.iload_n 1, 1) := by decide +kernel
theorem d_R_sideY_3 : decode b_R_sideY 3 = .ok (.invokevirtual 57, 3) := by decide +kernel
theorem d_R_sideY_6 : decode b_R_sideY 6 = .ok (.invokevirtual 26, 3) := by decide +kernel
theorem d_R_sideY_9 : decode b_R_sideY 9 = .ok (.aload_n 0, 1) := by decide +kernel
theorem d_R_sideY_10 : decode b_R_sideY 10 = .ok (.iload_n 1, 1) := by decide +kernel
theorem d_R_sideY_11 : decode b_R_sideY 11 = .ok (.invokevirtual 26, 3) := by decide +kernel
theorem d_R_sideY_14 : decode b_R_sideY 14 = .ok (.isub, 1) := by decide +kernel
theorem d_R_sideY_15 : decode b_R_sideY 15 = .ok (.ireturn, 1) := by decide +kernel
theorem d_R_squareOfSide_0 : decode b_R_squareOfSide 0 = .ok (.aload_n 0, 1) := by decide +kernel
theorem d_R_squareOfSide_1 : decode b_R_squareOfSide 1 = .ok (.iload_n 1, 1) := by decide +kernel
theorem d_R_squareOfSide_2 : decode b_R_squareOfSide 2 = .ok (.aload_n 0, 1) := by decide +kernel
theorem d_R_squareOfSide_3 : decode b_R_squareOfSide 3 = .ok (.iload_n 1, 1) := by decide +kernel
theorem d_R_squareOfSide_4 : decode b_R_squareOfSide 4 = .ok (.invokevirtual 57, 3) := by decide +kernel
theorem d_R_squareOfSide_7 : decode b_R_squareOfSide 7 = .ok (.invokevirtual 60, 3) := by decide +kernel
theorem d_R_squareOfSide_10 : decode b_R_squareOfSide 10 = .ok (.ireturn, 1) := by decide +kernel
theorem d_R_offSide_0 : decode b_R_offSide 0 = .ok (.aload_n 0, 1) := by decide +kernel
theorem d_R_offSide_1 : decode b_R_offSide 1 = .ok (.iload_n 1, 1) := by decide +kernel
theorem d_R_offSide_2 : decode b_R_offSide 2 = .ok (.aload_n 0, 1) := by decide +kernel
theorem d_R_offSide_3 : decode b_R_offSide 3 = .ok (.iload_n 1, 1) := by decide +kernel
theorem d_R_offSide_4 : decode b_R_offSide 4 = .ok (.invokevirtual 57, 3) := by decide +kernel
theorem d_R_offSide_7 : decode b_R_offSide 7 = .ok (.iload_n 2, 1) := by decide +kernel
theorem d_R_offSide_8 : decode b_R_offSide 8 = .ok (.iload_n 3, 1) := by decide +kernel
theorem d_R_offSide_9 : decode b_R_offSide 9 = .ok (.invokevirtual 50, 3) := by decide +kernel
theorem d_R_offSide_12 : decode b_R_offSide 12 = .ok (.ireturn, 1) := by decide +kernel
theorem d_R_reachFromSide_0 : decode b_R_reachFromSide 0 = .ok (.iconst 0, 1) := by decide +kernel
theorem d_R_reachFromSide_1 : decode b_R_reachFromSide 1 = .ok (.istore_n 2, 1) := by decide +kernel
theorem d_R_reachFromSide_2 : decode b_R_reachFromSide 2 = .ok (.iconst 0, 1) := by decide +kernel
theorem d_R_reachFromSide_3 : decode b_R_reachFromSide 3 = .ok (.istore_n 3, 1) := by decide +kernel
theorem d_R_reachFromSide_4 : decode b_R_reachFromSide 4 = .ok (.iload_n 3, 1) := by decide +kernel
theorem d_R_reachFromSide_5 : decode b_R_reachFromSide 5 = .ok (.aload_n 0, 1) := by decide +kernel
theorem d_R_reachFromSide_6 : decode b_R_reachFromSide 6 = .ok (.getfield 18, 3) := by decide +kernel
theorem d_R_reachFromSide_9 : decode b_R_reachFromSide 9 = .ok (.if_icmp .ge (29), 3) := by decide +kernel
theorem d_R_reachFromSide_12 : decode b_R_reachFromSide 12 = .ok (.iload_n 2, 1) := by decide +kernel
theorem d_R_reachFromSide_13 : decode b_R_reachFromSide 13 = .ok (.aload_n 0, 1) := by decide +kernel
theorem d_R_reachFromSide_14 : decode b_R_reachFromSide 14 = .ok (.iload_n 1, 1) := by decide +kernel
theorem d_R_reachFromSide_15 : decode b_R_reachFromSide 15 = .ok (.aload_n 0, 1) := by decide +kernel
theorem d_R_reachFromSide_16 : decode b_R_reachFromSide 16 = .ok (.iload_n 3, 1) := by decide +kernel
theorem d_R_reachFromSide_17 : decode b_R_reachFromSide 17 = .ok (.invokevirtual 22, 3) := by decide +kernel
theorem d_R_reachFromSide_20 : decode b_R_reachFromSide 20 = .ok (.aload_n 0, 1) := by decide +kernel
theorem d_R_reachFromSide_21 : decode b_R_reachFromSide 21 = .ok (.iload_n 3, 1) := by decide +kernel
theorem d_R_reachFromSide_22 : decode b_R_reachFromSide 22 = .ok (.invokevirtual 26, 3) := by decide +kernel
theorem d_R_reachFromSide_25 : decode b_R_reachFromSide 25 = .ok (.invokevirtual 64, 3) := by decide +kernel
theorem d_R_reachFromSide_28 : decode b_R_reachFromSide 28 = .ok (.invokestatic 68, 3) := by decide +kernel
theorem d_R_reachFromSide_31 : decode b_R_reachFromSide 31 = .ok (.istore_n 2, 1) := by decide +kernel
theorem d_R_reachFromSide_32 : decode b_R_reachFromSide 32 = .ok (.iinc 3 (1), 3) := by decide +kernel
theorem d_R_reachFromSide_35 : decode b_R_reachFromSide 35 = .ok (.goto (-31), 3) := by decide +kernel
theorem d_R_reachFromSide_38 : decode b_R_reachFromSide 38 = .ok (.iload_n 2, 1) := by decide +kernel
theorem d_R_reachFromSide_39 : decode b_R_reachFromSide 39 = .ok (.ireturn, 1) := by decide +kernel
theorem d_R_sideFacesZero_0 : decode b_R_sideFacesZero 0 = .ok (.aload_n 0, 1) := by decide +kernel
theorem d_R_sideFacesZero_1 : decode b_R_sideFacesZero 1 = .ok (.iload_n 1, 1) := by decide +kernel
theorem d_R_sideFacesZero_2 : decode b_R_sideFacesZero 2 = .ok (.invokevirtual 22, 3) := by decide +kernel
theorem d_R_sideFacesZero_5 : decode b_R_sideFacesZero 5 = .ok (.ineg, 1) := by decide +kernel
theorem d_R_sideFacesZero_6 : decode b_R_sideFacesZero 6 = .ok (.aload_n 0, 1) := by decide +kernel
theorem d_R_sideFacesZero_7 : decode b_R_sideFacesZero 7 = .ok (.iload_n 1, 1) := by decide +kernel
theorem d_R_sideFacesZero_8 : decode b_R_sideFacesZero 8 = .ok (.invokevirtual 73, 3) := by decide +kernel
theorem d_R_sideFacesZero_11 : decode b_R_sideFacesZero 11 = .ok (.imul, 1) := by decide +kernel
theorem d_R_sideFacesZero_12 : decode b_R_sideFacesZero 12 = .ok (.aload_n 0, 1) := by decide +kernel
theorem d_R_sideFacesZero_13 : decode b_R_sideFacesZero 13 = .ok (.iload_n 1, 1) := by decide +kernel
theorem d_R_sideFacesZero_14 : decode b_R_sideFacesZero 14 = .ok (.invokevirtual 26, 3) := by decide +kernel
theorem d_R_sideFacesZero_17 : decode b_R_sideFacesZero 17 = .ok (.aload_n 0, 1) := by decide +kernel
theorem d_R_sideFacesZero_18 : decode b_R_sideFacesZero 18 = .ok (.iload_n 1, 1) := by decide +kernel
theorem d_R_sideFacesZero_19 : decode b_R_sideFacesZero 19 = .ok (.invokevirtual 76, 3) := by decide +kernel
theorem d_R_sideFacesZero_22 : decode b_R_sideFacesZero 22 = .ok (.imul, 1) := by decide +kernel
theorem d_R_sideFacesZero_23 : decode b_R_sideFacesZero 23 = .ok (.isub, 1) := by decide +kernel
theorem d_R_sideFacesZero_24 : decode b_R_sideFacesZero 24 = .ok (.istore_n 2, 1) := by decide +kernel
theorem d_R_sideFacesZero_25 : decode b_R_sideFacesZero 25 = .ok (.iload_n 2, 1) := by decide +kernel
theorem d_R_sideFacesZero_26 : decode b_R_sideFacesZero 26 = .ok (.ifCond .lt (16), 3) := by decide +kernel
theorem d_R_sideFacesZero_29 : decode b_R_sideFacesZero 29 = .ok (.iload_n 2, 1) := by decide +kernel
theorem d_R_sideFacesZero_30 : decode b_R_sideFacesZero 30 = .ok (.aload_n 0, 1) := by decide +kernel
theorem d_R_sideFacesZero_31 : decode b_R_sideFacesZero 31 = .ok (.iload_n 1, 1) := by decide +kernel
theorem d_R_sideFacesZero_32 : decode b_R_sideFacesZero 32 = .ok (.invokevirtual 79, 3) := by decide +kernel
theorem d_R_sideFacesZero_35 : decode b_R_sideFacesZero 35 = .ok (.if_icmp .gt (7), 3) := by decide +kernel
theorem d_R_sideFacesZero_38 : decode b_R_sideFacesZero 38 = .ok (.iconst 1, 1) := by decide +kernel
theorem d_R_sideFacesZero_39 : decode b_R_sideFacesZero 39 = .ok (.goto (4), 3) := by decide +kernel
theorem d_R_sideFacesZero_42 : decode b_R_sideFacesZero 42 = .ok (.iconst 0, 1) := by decide +kernel
theorem d_R_sideFacesZero_43 : decode b_R_sideFacesZero 43 = .ok (.ireturn, 1) := by decide +kernel
theorem d_R_place_0 : decode b_R_place 0 = .ok (.aload_n 0, 1) := by decide +kernel
theorem d_R_place_1 : decode b_R_place 1 = .ok (.getfield 18, 3) := by decide +kernel
theorem d_R_place_4 : decode b_R_place 4 = .ok (.iconst 3, 1) := by decide +kernel
theorem d_R_place_5 : decode b_R_place 5 = .ok (.if_icmp .ge (18), 3) := by decide +kernel
theorem d_R_place_8 : decode b_R_place 8 = .ok (.aload_n 0, 1) := by decide +kernel
theorem d_R_place_9 : decode b_R_place 9 = .ok (.iload_n 1, 1) := by decide +kernel
theorem d_R_place_10 : decode b_R_place 10 = .ok (.iload_n 2, 1) := by decide +kernel
theorem d_R_place_11 : decode b_R_place 11 = .ok (.invokevirtual 82, 3) := by decide +kernel
theorem d_R_place_14 : decode b_R_place 14 = .ok (.ifCond .eq (7), 3) := by decide +kernel
theorem d_R_place_17 : decode b_R_place 17 = .ok (.iconst 1, 1) := by decide +kernel
theorem d_R_place_18 : decode b_R_place 18 = .ok (.goto (4), 3) := by decide +kernel
theorem d_R_place_21 : decode b_R_place 21 = .ok (.iconst 0, 1) := by decide +kernel
theorem d_R_place_22 : decode b_R_place 22 = .ok (.ireturn, 1) := by decide +kernel
theorem d_R_place_23 : decode b_R_place 23 = .ok (.iconst 2, 1) := by decide +kernel
theorem d_R_place_24 : decode b_R_place 24 = .ok (.istore_n 3, 1) := by decide +kernel
theorem d_R_place_25 : decode b_R_place 25 = .ok (.iconst 0, 1) := by decide +kernel
theorem d_R_place_26 : decode b_R_place 26 = .ok (.istore 4, 2) := by decide +kernel
theorem d_R_place_28 : decode b_R_place 28 = .ok (.iload 4, 2) := by decide +kernel
theorem d_R_place_30 : decode b_R_place 30 = .ok (.aload_n 0, 1) := by decide +kernel
theorem d_R_place_31 : decode b_R_place 31 = .ok (.getfield 18, 3) := by decide +kernel
theorem d_R_place_34 : decode b_R_place 34 = .ok (.if_icmp .ge (33), 3) := by decide +kernel
theorem d_R_place_37 : decode b_R_place 37 = .ok (.aload_n 0, 1) := by decide +kernel
theorem d_R_place_38 : decode b_R_place 38 = .ok (.iload 4, 2) := by decide +kernel
theorem d_R_place_40 : decode b_R_place 40 = .ok (.iload_n 1, 1) := by decide +kernel
theorem d_R_place_41 : decode b_R_place 41 = .ok (.iload_n 2, 1) := by decide +kernel
theorem d_R_place_42 : decode b_R_place 42 = .ok (.invokevirtual 64, 3) := by decide +kernel
theorem d_R_place_45 : decode b_R_place 45 = .ok (.istore 5, 2) := by decide +kernel
theorem d_R_place_47 : decode b_R_place 47 = .ok (.iload 5, 2) := by decide +kernel
theorem d_R_place_49 : decode b_R_place 49 = .ok (.ifCond .ge (5), 3) := by decide +kernel
theorem d_R_place_52 : decode b_R_place 52 = .ok (.iconst 0, 1) := by decide +kernel
theorem d_R_place_53 : decode b_R_place 53 = .ok (.ireturn, 1) := by decide +kernel
theorem d_R_place_54 : decode b_R_place 54 = .ok (.iload 5, 2) := by decide +kernel
theorem d_R_place_56 : decode b_R_place 56 = .ok (.ifCond .ne (5), 3) := by decide +kernel
theorem d_R_place_59 : decode b_R_place 59 = .ok (.iconst 1, 1) := by decide +kernel
theorem d_R_place_60 : decode b_R_place 60 = .ok (.istore_n 3, 1) := by decide +kernel
theorem d_R_place_61 : decode b_R_place 61 = .ok (.iinc 4 (1), 3) := by decide +kernel
theorem d_R_place_64 : decode b_R_place 64 = .ok (.goto (-36), 3) := by decide +kernel
theorem d_R_place_67 : decode b_R_place 67 = .ok (.iload_n 3, 1) := by decide +kernel
theorem d_R_place_68 : decode b_R_place 68 = .ok (.ireturn, 1) := by decide +kernel
theorem d_R_isOnThin_0 : decode b_R_isOnThin 0 = .ok (.aload_n 0, 1) := by decide +kernel
theorem d_R_isOnThin_1 : decode b_R_isOnThin 1 = .ok (.getfield 18, 3) := by decide +kernel
theorem d_R_isOnThin_4 : decode b_R_isOnThin 4 = .ok (.ifCond .ne (5), 3) := by decide +kernel
theorem d_R_isOnThin_7 : decode b_R_isOnThin 7 = .ok (.iconst 0, 1) := by decide +kernel
theorem d_R_isOnThin_8 : decode b_R_isOnThin 8 = .ok (.ireturn, 1) := by decide +kernel
theorem d_R_isOnThin_9 : decode b_R_isOnThin 9 = .ok (.aload_n 0, 1) := by decide +kernel
theorem d_R_isOnThin_10 : decode b_R_isOnThin 10 = .ok (.getfield 18, 3) := by decide +kernel
theorem d_R_isOnThin_13 : decode b_R_isOnThin 13 = .ok (.iconst 1, 1) := by decide +kernel
theorem d_R_isOnThin_14 : decode b_R_isOnThin 14 = .ok (.isub, 1) := by decide +kernel
theorem d_R_isOnThin_15 : decode b_R_isOnThin 15 = .ok (.istore_n 3, 1) := by decide +kernel
theorem d_R_isOnThin_16 : decode b_R_isOnThin 16 = .ok (.aload_n 0, 1) := by decide +kernel
theorem d_R_isOnThin_17 : decode b_R_isOnThin 17 = .ok (.iconst 0, 1) := by decide +kernel
theorem d_R_isOnThin_18 : decode b_R_isOnThin 18 = .ok (.iload_n 3, 1) := by decide +kernel
theorem d_R_isOnThin_19 : decode b_R_isOnThin 19 = .ok (.iload_n 1, 1) := by decide +kernel
theorem d_R_isOnThin_20 : decode b_R_isOnThin 20 = .ok (.iload_n 2, 1) := by decide +kernel
theorem d_R_isOnThin_21 : decode b_R_isOnThin 21 = .ok (.invokevirtual 50, 3) := by decide +kernel
theorem d_R_isOnThin_24 : decode b_R_isOnThin 24 = .ok (.ifCond .ne (75), 3) := by decide +kernel
theorem d_R_isOnThin_27 : decode b_R_isOnThin 27 = .ok (.iload_n 1, 1) := by decide +kernel
theorem d_R_isOnThin_28 : decode b_R_isOnThin 28 = .ok (.aload_n 0, 1) := by decide +kernel
theorem d_R_isOnThin_29 : decode b_R_isOnThin 29 = .ok (.iconst 0, 1) := by decide +kernel
theorem d_R_isOnThin_30 : decode b_R_isOnThin 30 = .ok (.invokevirtual 22, 3) := by decide +kernel
theorem d_R_isOnThin_33 : decode b_R_isOnThin 33 = .ok (.aload_n 0, 1) := by decide +kernel
theorem d_R_isOnThin_34 : decode b_R_isOnThin 34 = .ok (.iload_n 3, 1) := by decide +kernel
theorem d_R_isOnThin_35 : decode b_R_isOnThin 35 = .ok (.invokevirtual 22, 3) := by decide +kernel
theorem d_R_isOnThin_38 : decode b_R_isOnThin 38 = .ok (.invokestatic 85, 3) := by decide +kernel
theorem d_R_isOnThin_41 : decode b_R_isOnThin 41 = .ok (.if_icmp .lt (58), 3) := by decide +kernel
theorem d_R_isOnThin_44 : decode b_R_isOnThin 44 = .ok (.iload_n 1, 1) := by decide +kernel
theorem d_R_isOnThin_45 : decode b_R_isOnThin 45 = .ok (.aload_n 0, 1) := by decide +kernel
theorem d_R_isOnThin_46 : decode b_R_isOnThin 46 = .ok (.iconst 0, 1) := by decide +kernel
theorem d_R_isOnThin_47 : decode b_R_isOnThin 47 = .ok (.invokevirtual 22, 3) := by decide +kernel
theorem d_R_isOnThin_50 : decode b_R_isOnThin 50 = .ok (.aload_n 0, 1) := by decide +kernel
theorem d_R_isOnThin_51 : decode b_R_isOnThin 51 = .ok (.iload_n 3, 1) := by decide +kernel
theorem d_R_isOnThin_52 : decode b_R_isOnThin 52 = .ok (.invokevirtual 22, 3) := by decide +kernel
theorem d_R_isOnThin_55 : decode b_R_isOnThin 55 = .ok (.invokestatic 68, 3) := by decide +kernel
theorem d_R_isOnThin_58 : decode b_R_isOnThin 58 = .ok (.if_icmp .gt (41), 3) := by decide +kernel
theorem d_R_isOnThin_61 : decode b_R_isOnThin 61 = .ok (.iload_n 2, 1) := by decide +kernel
theorem d_R_isOnThin_62 : decode b_R_isOnThin 62 = .ok (.aload_n 0, 1) := by decide +kernel
theorem d_R_isOnThin_63 : decode b_R_isOnThin 63 = .ok (.iconst 0, 1) := by decide +kernel
theorem d_R_isOnThin_64 : decode b_R_isOnThin 64 = .ok (.invokevirtual 26, 3) := by decide +kernel
theorem d_R_isOnThin_67 : decode b_R_isOnThin 67 = .ok (.aload_n 0, 1) := by decide +kernel
theorem d_R_isOnThin_68 : decode b_R_isOnThin 68 = .ok (.iload_n 3, 1) := by decide +kernel
theorem d_R_isOnThin_69 : decode b_R_isOnThin 69 = .ok (.invokevirtual 26, 3) := by decide +kernel
theorem d_R_isOnThin_72 : decode b_R_isOnThin 72 = .ok (.invokestatic 85, 3) := by decide +kernel
theorem d_R_isOnThin_75 : decode b_R_isOnThin 75 = .ok (.if_icmp .lt (24), 3) := by decide +kernel
theorem d_R_isOnThin_78 : decode b_R_isOnThin 78 = .ok (.iload_n 2, 1) := by decide +kernel
theorem d_R_isOnThin_79 : decode b_R_isOnThin 79 = .ok (.aload_n 0, 1) := by decide +kernel
theorem d_R_isOnThin_80 : decode b_R_isOnThin 80 = .ok (.iconst 0, 1) := by decide +kernel
theorem d_R_isOnThin_81 : decode b_R_isOnThin 81 = .ok (.invokevirtual 26, 3) := by decide +kernel
theorem d_R_isOnThin_84 : decode b_R_isOnThin 84 = .ok (.aload_n 0, 1) := by decide +kernel
theorem d_R_isOnThin_85 : decode b_R_isOnThin 85 = .ok (.iload_n 3, 1) := by decide +kernel
theorem d_R_isOnThin_86 : decode b_R_isOnThin 86 = .ok (.invokevirtual 26, 3) := by decide +kernel
theorem d_R_isOnThin_89 : decode b_R_isOnThin 89 = .ok (.invokestatic 68, 3) := by decide +kernel
theorem d_R_isOnThin_92 : decode b_R_isOnThin 92 = .ok (.if_icmp .gt (7), 3) := by decide +kernel
theorem d_R_isOnThin_95 : decode b_R_isOnThin 95 = .ok (.iconst 1, 1) := by decide +kernel
theorem d_R_isOnThin_96 : decode b_R_isOnThin 96 = .ok (.goto (4), 3) := by decide +kernel
theorem d_R_isOnThin_99 : decode b_R_isOnThin 99 = .ok (.iconst 0, 1) := by decide +kernel
theorem d_R_isOnThin_100 : decode b_R_isOnThin 100 = .ok (.ireturn, 1) := by decide +kernel
theorem d_R_doubleArea_0 : decode b_R_doubleArea 0 = .ok (.iconst 0, 1) := by decide +kernel
theorem d_R_doubleArea_1 : decode b_R_doubleArea 1 = .ok (.istore_n 1, 1) := by decide +kernel
theorem d_R_doubleArea_2 : decode b_R_doubleArea 2 = .ok (.iconst 0, 1) := by decide +kernel
theorem d_R_doubleArea_3 : decode b_R_doubleArea 3 = .ok (.istore_n 2, 1) := by decide +kernel
theorem d_R_doubleArea_4 : decode b_R_doubleArea 4 = .ok (.iload_n 2, 1) := by decide +kernel
theorem d_R_doubleArea_5 : decode b_R_doubleArea 5 = .ok (.aload_n 0, 1) := by decide +kernel
theorem d_R_doubleArea_6 : decode b_R_doubleArea 6 = .ok (.getfield 18, 3) := by decide +kernel
theorem d_R_doubleArea_9 : decode b_R_doubleArea 9 = .ok (.if_icmp .ge (43), 3) := by decide +kernel
theorem d_R_doubleArea_12 : decode b_R_doubleArea 12 = .ok (.iload_n 1, 1) := by decide +kernel
theorem d_R_doubleArea_13 : decode b_R_doubleArea 13 = .ok (.aload_n 0, 1) := by decide +kernel
theorem d_R_doubleArea_14 : decode b_R_doubleArea 14 = .ok (.iload_n 2, 1) := by decide +kernel
theorem d_R_doubleArea_15 : decode b_R_doubleArea 15 = .ok (.invokevirtual 22, 3) := by decide +kernel
theorem d_R_doubleArea_18 : decode b_R_doubleArea 18 = .ok (.aload_n 0, 1) := by decide +kernel
theorem d_R_doubleArea_19 : decode b_R_doubleArea 19 = .ok (.aload_n 0, 1) := by decide +kernel
theorem d_R_doubleArea_20 : decode b_R_doubleArea 20 = .ok (.iload_n 2, 1) := by decide +kernel
theorem d_R_doubleArea_21 : decode b_R_doubleArea 21 = .ok (.invokevirtual 57, 3) := by decide +kernel
theorem d_R_doubleArea_24 : decode b_R_doubleArea 24 = .ok (.invokevirtual 26, 3) := by decide +kernel
theorem d_R_doubleArea_27 : decode b_R_doubleArea 27 = .ok (.imul, 1) := by decide +kernel
theorem d_R_doubleArea_28 : decode b_R_doubleArea 28 = .ok (.aload_n 0, 1) := by decide +kernel
theorem d_R_doubleArea_29 : decode b_R_doubleArea 29 = .ok (.iload_n 2, 1) := by decide +kernel
theorem d_R_doubleArea_30 : decode b_R_doubleArea 30 = .ok (.invokevirtual 26, 3) := by decide +kernel
theorem d_R_doubleArea_33 : decode b_R_doubleArea 33 = .ok (.aload_n 0, 1) := by decide +kernel
theorem d_R_doubleArea_34 : decode b_R_doubleArea 34 = .ok (.aload_n 0, 1) := by decide +kernel
theorem d_R_doubleArea_35 : decode b_R_doubleArea 35 = .ok (.iload_n 2, 1) := by decide +kernel
theorem d_R_doubleArea_36 : decode b_R_doubleArea 36 = .ok (.invokevirtual 57, 3) := by decide +kernel
theorem d_R_doubleArea_39 : decode b_R_doubleArea 39 = .ok (.invokevirtual 22, 3) := by decide +kernel
theorem d_R_doubleArea_42 : decode b_R_doubleArea 42 = .ok (.imul, 1) := by decide +kernel
theorem d_R_doubleArea_43 : decode b_R_doubleArea 43 = .ok (.isub, 1) := by decide +kernel
theorem d_R_doubleArea_44 : decode b_R_doubleArea 44 = .ok (.iadd, 1) := by decide +kernel
theorem d_R_doubleArea_45 : decode b_R_doubleArea 45 = .ok (.istore_n 1, 1) := by decide +kernel
theorem d_R_doubleArea_46 : decode b_R_doubleArea 46 = .ok (.iinc 2 (1), 3) := by decide +kernel
theorem d_R_doubleArea_49 : decode b_R_doubleArea 49 = .ok (.goto (-45), 3) := by decide +kernel
theorem d_R_doubleArea_52 : decode b_R_doubleArea 52 = .ok (.iload_n 1, 1) := by decide +kernel
theorem d_R_doubleArea_53 : decode b_R_doubleArea 53 = .ok (.ireturn, 1) := by decide +kernel
theorem d_R_gridSteps_0 : decode b_R_gridSteps 0 = .ok (.iconst 0, 1) := by decide +kernel
theorem d_R_gridSteps_1 : decode b_R_gridSteps 1 = .ok (.istore_n 1, 1) := by decide +kernel
theorem d_R_gridSteps_2 : decode b_R_gridSteps 2 = .ok (.iconst 0, 1) := by decide +kernel
theorem d_R_gridSteps_3 : decode b_R_gridSteps 3 = .ok (.istore_n 2, 1) := by decide +kernel
theorem d_R_gridSteps_4 : decode b_R_gridSteps 4 = .ok (.iload_n 2, 1) := by decide +kernel
theorem d_R_gridSteps_5 : decode b_R_gridSteps 5 = .ok (.aload_n 0, 1) := by decide +kernel
theorem d_R_gridSteps_6 : decode b_R_gridSteps 6 = .ok (.invokevirtual 88, 3) := by decide +kernel
theorem d_R_gridSteps_9 : decode b_R_gridSteps 9 = .ok (.if_icmp .ge (28), 3) := by decide +kernel
theorem d_R_gridSteps_12 : decode b_R_gridSteps 12 = .ok (.iload_n 1, 1) := by decide +kernel
theorem d_R_gridSteps_13 : decode b_R_gridSteps 13 = .ok (.aload_n 0, 1) := by decide +kernel
theorem d_R_gridSteps_14 : decode b_R_gridSteps 14 = .ok (.iload_n 2, 1) := by decide +kernel
theorem d_R_gridSteps_15 : decode b_R_gridSteps 15 = .ok (.invokevirtual 73, 3) := by decide +kernel
theorem d_R_gridSteps_18 : decode b_R_gridSteps 18 = .ok (.i2l, 1) := by decide +kernel
theorem d_R_gridSteps_19 : decode b_R_gridSteps 19 = .ok (.aload_n 0, 1) := by decide +kernel
theorem d_R_gridSteps_20 : decode b_R_gridSteps 20 = .ok (.iload_n 2, 1) := by decide +kernel
theorem d_R_gridSteps_21 : decode b_R_gridSteps 21 = .ok (.invokevirtual 76, 3) := by decide +kernel
theorem d_R_gridSteps_24 : decode b_R_gridSteps 24 = .ok (.i2l, 1) := by decide +kernel
theorem d_R_gridSteps_25 : decode b_R_gridSteps 25 = .ok (.invokestatic 91, 3) := by decide +kernel
theorem d_R_gridSteps_28 : decode b_R_gridSteps 28 = .ok (.l2i, 1) := by decide +kernel
theorem d_R_gridSteps_29 : decode b_R_gridSteps 29 = .ok (.iadd, 1) := by decide +kernel
theorem d_R_gridSteps_30 : decode b_R_gridSteps 30 = .ok (.istore_n 1, 1) := by decide +kernel
theorem d_R_gridSteps_31 : decode b_R_gridSteps 31 = .ok (.iinc 2 (1), 3) := by decide +kernel
theorem d_R_gridSteps_34 : decode b_R_gridSteps 34 = .ok (.goto (-30), 3) := by decide +kernel
theorem d_R_gridSteps_37 : decode b_R_gridSteps 37 = .ok (.iload_n 1, 1) := by decide +kernel
theorem d_R_gridSteps_38 : decode b_R_gridSteps 38 = .ok (.ireturn, 1) := by decide +kernel
theorem d_R_gridOnBorder_0 : decode b_R_gridOnBorder 0 = .ok (.aload_n 0, 1) := by decide +kernel
theorem d_R_gridOnBorder_1 : decode b_R_gridOnBorder 1 = .ok (.getfield 18, 3) := by decide +kernel
theorem d_R_gridOnBorder_4 : decode b_R_gridOnBorder 4 = .ok (.ifCond .ne (5), 3) := by decide +kernel
theorem d_R_gridOnBorder_7 : decode b_R_gridOnBorder 7 = .ok (.iconst 0, 1) := by decide +kernel
theorem d_R_gridOnBorder_8 : decode b_R_gridOnBorder 8 = .ok (.ireturn, 1) := by decide +kernel
theorem d_R_gridOnBorder_9 : decode b_R_gridOnBorder 9 = .ok (.aload_n 0, 1) := by decide +kernel
theorem d_R_gridOnBorder_10 : decode b_R_gridOnBorder 10 = .ok (.getfield 18, 3) := by decide +kernel
theorem d_R_gridOnBorder_13 : decode b_R_gridOnBorder 13 = .ok (.iconst 3, 1) := by decide +kernel
theorem d_R_gridOnBorder_14 : decode b_R_gridOnBorder 14 = .ok (.if_icmp .ge (14), 3) := by decide +kernel
theorem d_R_gridOnBorder_17 : decode b_R_gridOnBorder 17 = .ok (.aload_n 0, 1) := by decide +kernel
theorem d_R_gridOnBorder_18 : decode b_R_gridOnBorder 18 = .ok (.invokevirtual 95, 3) := by decide +kernel
theorem d_R_gridOnBorder_21 : decode b_R_gridOnBorder 21 = .ok (.iconst 2, 1) := by decide +kernel
theorem d_R_gridOnBorder_22 : decode b_R_gridOnBorder 22 = .ok (.idiv, 1) := by decide +kernel
theorem d_R_gridOnBorder_23 : decode b_R_gridOnBorder 23 = .ok (.iconst 1, 1) := by decide +kernel
theorem d_R_gridOnBorder_24 : decode b_R_gridOnBorder 24 = .ok (.iadd, 1) := by decide +kernel
theorem d_R_gridOnBorder_25 : decode b_R_gridOnBorder 25 = .ok (.goto (7), 3) := by decide +kernel
theorem d_R_gridOnBorder_28 : decode b_R_gridOnBorder 28 = .ok (.aload_n 0, 1) := by decide +kernel
theorem d_R_gridOnBorder_29 : decode b_R_gridOnBorder 29 = .ok (.invokevirtual 95, 3) := by decide +kernel
theorem d_R_gridOnBorder_32 : decode b_R_gridOnBorder 32 = .ok (.ireturn, 1) := by decide +kernel
theorem d_R_gridWhenGrown_0 : decode b_R_gridWhenGrown 0 = .ok (.aload_n 0, 1) := by decide +kernel
theorem d_R_gridWhenGrown_1 : decode b_R_gridWhenGrown 1 = .ok (.getfield 18, 3) := by decide +kernel
theorem d_R_gridWhenGrown_4 : decode b_R_gridWhenGrown 4 = .ok (.ifCond .ne (7), 3) := by decide +kernel
theorem d_R_gridWhenGrown_7 : decode b_R_gridWhenGrown 7 = .ok (.iconst 0, 1) := by decide +kernel
theorem d_R_gridWhenGrown_8 : decode b_R_gridWhenGrown 8 = .ok (.goto (22), 3) := by decide +kernel
theorem d_R_gridWhenGrown_11 : decode b_R_gridWhenGrown 11 = .ok (.aload_n 0, 1) := by decide +kernel
theorem d_R_gridWhenGrown_12 : decode b_R_gridWhenGrown 12 = .ok (.invokevirtual 98, 3) := by decide +kernel
theorem d_R_gridWhenGrown_15 : decode b_R_gridWhenGrown 15 = .ok (.iload_n 1, 1) := by decide +kernel
theorem d_R_gridWhenGrown_16 : decode b_R_gridWhenGrown 16 = .ok (.imul, 1) := by decide +kernel
theorem d_R_gridWhenGrown_17 : decode b_R_gridWhenGrown 17 = .ok (.iload_n 1, 1) := by decide +kernel
theorem d_R_gridWhenGrown_18 : decode b_R_gridWhenGrown 18 = .ok (.imul, 1) := by decide +kernel
theorem d_R_gridWhenGrown_19 : decode b_R_gridWhenGrown 19 = .ok (.aload_n 0, 1) := by decide +kernel
theorem d_R_gridWhenGrown_20 : decode b_R_gridWhenGrown 20 = .ok (.invokevirtual 95, 3) := by decide +kernel
theorem d_R_gridWhenGrown_23 : decode b_R_gridWhenGrown 23 = .ok (.iload_n 1, 1) := by decide +kernel
theorem d_R_gridWhenGrown_24 : decode b_R_gridWhenGrown 24 = .ok (.imul, 1) := by decide +kernel
theorem d_R_gridWhenGrown_25 : decode b_R_gridWhenGrown 25 = .ok (.iadd, 1) := by decide +kernel
theorem d_R_gridWhenGrown_26 : decode b_R_gridWhenGrown 26 = .ok (.iconst 2, 1) := by decide +kernel
theorem d_R_gridWhenGrown_27 : decode b_R_gridWhenGrown 27 = .ok (.iadd, 1) := by decide +kernel
theorem d_R_gridWhenGrown_28 : decode b_R_gridWhenGrown 28 = .ok (.iconst 2, 1) := by decide +kernel
theorem d_R_gridWhenGrown_29 : decode b_R_gridWhenGrown 29 = .ok (.idiv, 1) := by decide +kernel
theorem d_R_gridWhenGrown_30 : decode b_R_gridWhenGrown 30 = .ok (.ireturn, 1) := by decide +kernel
theorem d_R_becomeSums_0 : decode b_R_becomeSums 0 = .ok (.aload_n 0, 1) := by decide +kernel
theorem d_R_becomeSums_1 : decode b_R_becomeSums 1 = .ok (.invokevirtual 33, 3) := by decide +kernel
theorem d_R_becomeSums_4 : decode b_R_becomeSums 4 = .ok (.aload_n 1, 1) := by decide +kernel
theorem d_R_becomeSums_5 : decode b_R_becomeSums 5 = .ok (.iconst 0, 1) := by decide +kernel
theorem d_R_becomeSums_6 : decode b_R_becomeSums 6 = .ok (.invokevirtual 22, 3) := by decide +kernel
theorem d_R_becomeSums_9 : decode b_R_becomeSums 9 = .ok (.aload_n 2, 1) := by decide +kernel
theorem d_R_becomeSums_10 : decode b_R_becomeSums 10 = .ok (.iconst 0, 1) := by decide +kernel
theorem d_R_becomeSums_11 : decode b_R_becomeSums 11 = .ok (.invokevirtual 22, 3) := by decide +kernel
theorem d_R_becomeSums_14 : decode b_R_becomeSums 14 = .ok (.iadd, 1) := by decide +kernel
theorem d_R_becomeSums_15 : decode b_R_becomeSums 15 = .ok (.istore_n 3, 1) := by decide +kernel
theorem d_R_becomeSums_16 : decode b_R_becomeSums 16 = .ok (.aload_n 1, 1) := by decide +kernel
theorem d_R_becomeSums_17 : decode b_R_becomeSums 17 = .ok (.iconst 0, 1) := by decide +kernel
theorem d_R_becomeSums_18 : decode b_R_becomeSums 18 = .ok (.invokevirtual 26, 3) := by decide +kernel
theorem d_R_becomeSums_21 : decode b_R_becomeSums 21 = .ok (.aload_n 2, 1) := by decide +kernel
theorem d_R_becomeSums_22 : decode b_R_becomeSums 22 = .ok (.iconst 0, 1) := by decide +kernel
theorem d_R_becomeSums_23 : decode b_R_becomeSums 23 = .ok (.invokevirtual 26, 3) := by decide +kernel
theorem d_R_becomeSums_26 : decode b_R_becomeSums 26 = .ok (.iadd, 1) := by decide +kernel
theorem d_R_becomeSums_27 : decode b_R_becomeSums 27 = .ok (.istore 4, 2) := by decide +kernel
theorem d_R_becomeSums_29 : decode b_R_becomeSums 29 = .ok (.iconst 0, 1) := by decide +kernel
theorem d_R_becomeSums_30 : decode b_R_becomeSums 30 = .ok (.istore 5, 2) := by decide +kernel
theorem d_R_becomeSums_32 : decode b_R_becomeSums 32 = .ok (.iconst 0, 1) := by decide +kernel
theorem d_R_becomeSums_33 : decode b_R_becomeSums 33 = .ok (.istore 6, 2) := by decide +kernel
theorem d_R_becomeSums_35 : decode b_R_becomeSums 35 = .ok (.aload_n 1, 1) := by decide +kernel
theorem d_R_becomeSums_36 : decode b_R_becomeSums 36 = .ok (.invokevirtual 88, 3) := by decide +kernel
theorem d_R_becomeSums_39 : decode b_R_becomeSums 39 = .ok (.aload_n 2, 1) := by decide +kernel
theorem d_R_becomeSums_40 : decode b_R_becomeSums 40 = .ok (.invokevirtual 88, 3) := by decide +kernel
theorem d_R_becomeSums_43 : decode b_R_becomeSums 43 = .ok (.iadd, 1) := by decide +kernel
theorem d_R_becomeSums_44 : decode b_R_becomeSums 44 = .ok (.istore 7, 2) := by decide +kernel
theorem d_R_becomeSums_46 : decode b_R_becomeSums 46 = .ok (.aload_n 0, 1) := by decide +kernel
theorem d_R_becomeSums_47 : decode b_R_becomeSums 47 = .ok (.iload_n 3, 1) := by decide +kernel
theorem d_R_becomeSums_48 : decode b_R_becomeSums 48 = .ok (.iload 4, 2) := by decide +kernel
theorem d_R_becomeSums_50 : decode b_R_becomeSums 50 = .ok (.invokevirtual 54, 3) := by decide +kernel
theorem d_R_becomeSums_53 : decode b_R_becomeSums 53 = .ok (.iconst 0, 1) := by decide +kernel
theorem d_R_becomeSums_54 : decode b_R_becomeSums 54 = .ok (.istore 8, 2) := by decide +kernel
theorem d_R_becomeSums_56 : decode b_R_becomeSums 56 = .ok (.iload 8, 2) := by decide +kernel
theorem d_R_becomeSums_58 : decode b_R_becomeSums 58 = .ok (.iload 7, 2) := by decide +kernel
theorem d_R_becomeSums_60 : decode b_R_becomeSums 60 = .ok (.if_icmp .ge (103), 3) := by decide +kernel
theorem d_R_becomeSums_63 : decode b_R_becomeSums 63 = .ok (.iload 5, 2) := by decide +kernel
theorem d_R_becomeSums_65 : decode b_R_becomeSums 65 = .ok (.iload 6, 2) := by decide +kernel
theorem d_R_becomeSums_67 : decode b_R_becomeSums 67 = .ok (.iadd, 1) := by decide +kernel
theorem d_R_becomeSums_68 : decode b_R_becomeSums 68 = .ok (.iload 7, 2) := by decide +kernel
theorem d_R_becomeSums_70 : decode b_R_becomeSums 70 = .ok (.if_icmp .ge (93), 3) := by decide +kernel
theorem d_R_becomeSums_73 : decode b_R_becomeSums 73 = .ok (.aload_n 1, 1) := by decide +kernel
theorem d_R_becomeSums_74 : decode b_R_becomeSums 74 = .ok (.iload 5, 2) := by decide +kernel
theorem d_R_becomeSums_76 : decode b_R_becomeSums 76 = .ok (.aload_n 2, 1) := by decide +kernel
theorem d_R_becomeSums_77 : decode b_R_becomeSums 77 = .ok (.iload 6, 2) := by decide +kernel
theorem d_R_becomeSums_79 : decode b_R_becomeSums 79 = .ok (.invokestatic 101, 3) := by decide +kernel
theorem d_R_becomeSums_82 : decode b_R_becomeSums 82 = .ok (.istore 9, 2) := by decide +kernel
theorem d_R_becomeSums_84 : decode b_R_becomeSums 84 = .ok (.iload 9, 2) := by decide +kernel
theorem d_R_becomeSums_86 : decode b_R_becomeSums 86 = .ok (.ifCond .gt (26), 3) := by decide +kernel
theorem d_R_becomeSums_89 : decode b_R_becomeSums 89 = .ok (.iload_n 3, 1) := by decide +kernel
theorem d_R_becomeSums_90 : decode b_R_becomeSums 90 = .ok (.aload_n 1, 1) := by decide +kernel
theorem d_R_becomeSums_91 : decode b_R_becomeSums 91 = .ok (.iload 5, 2) := by decide +kernel
theorem d_R_becomeSums_93 : decode b_R_becomeSums 93 = .ok (.invokevirtual 73, 3) := by decide +kernel
theorem d_R_becomeSums_96 : decode b_R_becomeSums 96 = .ok (.iadd, 1) := by decide +kernel
theorem d_R_becomeSums_97 : decode b_R_becomeSums 97 = .ok (.istore_n 3, 1) := by decide +kernel
theorem d_R_becomeSums_98 : decode b_R_becomeSums 98 = .ok (.iload 4, 2) := by decide +kernel
theorem d_R_becomeSums_100 : decode b_R_becomeSums 100 = .ok (.aload_n 1, 1) := by decide +kernel
theorem d_R_becomeSums_101 : decode b_R_becomeSums 101 = .ok (.iload 5, 2) := by decide +kernel
theorem d_R_becomeSums_103 : decode b_R_becomeSums 103 = .ok (.invokevirtual 76, 3) := by decide +kernel
theorem d_R_becomeSums_106 : decode b_R_becomeSums 106 = .ok (.iadd, 1) := by decide +kernel
theorem d_R_becomeSums_107 : decode b_R_becomeSums 107 = .ok (.istore 4, 2) := by decide +kernel
theorem d_R_becomeSums_109 : decode b_R_becomeSums 109 = .ok (.iinc 5 (1), 3) := by decide +kernel
theorem d_R_becomeSums_112 : decode b_R_becomeSums 112 = .ok (.iload 9, 2) := by decide +kernel
theorem d_R_becomeSums_114 : decode b_R_becomeSums 114 = .ok (.ifCond .lt (26), 3) := by decide +kernel
theorem d_R_becomeSums_117 : decode b_R_becomeSums 117 = .ok (.iload_n 3, 1) := by decide +kernel
theorem d_R_becomeSums_118 : decode b_R_becomeSums 118 = .ok (.aload_n 2, 1) := by decide +kernel
theorem d_R_becomeSums_119 : decode b_R_becomeSums 119 = .ok (.iload 6, 2) := by decide +kernel
theorem d_R_becomeSums_121 : decode b_R_becomeSums 121 = .ok (.invokevirtual 73, 3) := by decide +kernel
theorem d_R_becomeSums_124 : decode b_R_becomeSums 124 = .ok (.iadd, 1) := by decide +kernel
theorem d_R_becomeSums_125 : decode b_R_becomeSums 125 = .ok (.istore_n 3, 1) := by decide +kernel
theorem d_R_becomeSums_126 : decode b_R_becomeSums 126 = .ok (.iload 4, 2) := by decide +kernel
theorem d_R_becomeSums_128 : decode b_R_becomeSums 128 = .ok (.aload_n 2, 1) := by decide +kernel
theorem d_R_becomeSums_129 : decode b_R_becomeSums 129 = .ok (.iload 6, 2) := by decide +kernel
theorem d_R_becomeSums_131 : decode b_R_becomeSums 131 = .ok (.invokevirtual 76, 3) := by decide +kernel
theorem d_R_becomeSums_134 : decode b_R_becomeSums 134 = .ok (.iadd, 1) := by decide +kernel
theorem d_R_becomeSums_135 : decode b_R_becomeSums 135 = .ok (.istore 4, 2) := by decide +kernel
theorem d_R_becomeSums_137 : decode b_R_becomeSums 137 = .ok (.iinc 6 (1), 3) := by decide +kernel
theorem d_R_becomeSums_140 : decode b_R_becomeSums 140 = .ok (.iload 5, 2) := by decide +kernel
theorem d_R_becomeSums_142 : decode b_R_becomeSums 142 = .ok (.iload 6, 2) := by decide +kernel
theorem d_R_becomeSums_144 : decode b_R_becomeSums 144 = .ok (.iadd, 1) := by decide +kernel
theorem d_R_becomeSums_145 : decode b_R_becomeSums 145 = .ok (.iload 7, 2) := by decide +kernel
theorem d_R_becomeSums_147 : decode b_R_becomeSums 147 = .ok (.if_icmp .ge (10), 3) := by decide +kernel
theorem d_R_becomeSums_150 : decode b_R_becomeSums 150 = .ok (.aload_n 0, 1) := by decide +kernel
theorem d_R_becomeSums_151 : decode b_R_becomeSums 151 = .ok (.iload_n 3, 1) := by decide +kernel
theorem d_R_becomeSums_152 : decode b_R_becomeSums 152 = .ok (.iload 4, 2) := by decide +kernel
theorem d_R_becomeSums_154 : decode b_R_becomeSums 154 = .ok (.invokevirtual 54, 3) := by decide +kernel
theorem d_R_becomeSums_157 : decode b_R_becomeSums 157 = .ok (.iinc 8 (1), 3) := by decide +kernel
theorem d_R_becomeSums_160 : decode b_R_becomeSums 160 = .ok (.goto (-104), 3) := by decide +kernel
theorem d_R_becomeSums_163 : decode b_R_becomeSums 163 = .ok (.return_, 1) := by decide +kernel
theorem d_R_orderOfSides_0 : decode b_R_orderOfSides 0 = .ok (.iload_n 1, 1) := by decide +kernel
theorem d_R_orderOfSides_1 : decode b_R_orderOfSides 1 = .ok (.aload_n 0, 1) := by decide +kernel
theorem d_R_orderOfSides_2 : decode b_R_orderOfSides 2 = .ok (.invokevirtual 88, 3) := by decide +kernel
theorem d_R_orderOfSides_5 : decode b_R_orderOfSides 5 = .ok (.if_icmp .lt (5), 3) := by decide +kernel
theorem d_R_orderOfSides_8 : decode b_R_orderOfSides 8 = .ok (.iconst 1, 1) := by decide +kernel
theorem d_R_orderOfSides_9 : decode b_R_orderOfSides 9 = .ok (.ireturn, 1) := by decide +kernel
theorem d_R_orderOfSides_10 : decode b_R_orderOfSides 10 = .ok (.iload_n 3, 1) := by decide +kernel
theorem d_R_orderOfSides_11 : decode b_R_orderOfSides 11 = .ok (.aload_n 2, 1) := by decide +kernel
theorem d_R_orderOfSides_12 : decode b_R_orderOfSides 12 = .ok (.invokevirtual 88, 3) := by decide +kernel
theorem d_R_orderOfSides_15 : decode b_R_orderOfSides 15 = .ok (.if_icmp .lt (5), 3) := by decide +kernel
theorem d_R_orderOfSides_18 : decode b_R_orderOfSides 18 = .ok (.iconst (-1), 1) := by decide +kernel
theorem d_R_orderOfSides_19 : decode b_R_orderOfSides 19 = .ok (.ireturn, 1) := by decide +kernel
theorem d_R_orderOfSides_20 : decode b_R_orderOfSides 20 = .ok (.aload_n 0, 1) := by decide +kernel
theorem d_R_orderOfSides_21 : decode b_R_orderOfSides 21 = .ok (.iload_n 1, 1) := by decide +kernel
theorem d_R_orderOfSides_22 : decode b_R_orderOfSides 22 = .ok (.invokevirtual 73, 3) := by decide +kernel
theorem d_R_orderOfSides_25 : decode b_R_orderOfSides 25 = .ok (.aload_n 0, 1) := by decide +kernel
theorem d_R_orderOfSides_26 : decode b_R_orderOfSides 26 = .ok (.iload_n 1, 1) := by decide +kernel
theorem d_R_orderOfSides_27 : decode b_R_orderOfSides 27 = .ok (.invokevirtual 76, 3) := by decide +kernel
theorem d_R_orderOfSides_30 : decode b_R_orderOfSides 30 = .ok (.invokestatic 105, 3) := by decide +kernel
theorem d_R_orderOfSides_33 : decode b_R_orderOfSides 33 = .ok (.istore 4, 2) := by decide +kernel
theorem d_R_orderOfSides_35 : decode b_R_orderOfSides 35 = .ok (.iload 4, 2) := by decide +kernel
theorem d_R_orderOfSides_37 : decode b_R_orderOfSides 37 = .ok (.aload_n 2, 1) := by decide +kernel
theorem d_R_orderOfSides_38 : decode b_R_orderOfSides 38 = .ok (.iload_n 3, 1) := by decide +kernel
theorem d_R_orderOfSides_39 : decode b_R_orderOfSides 39 = .ok (.invokevirtual 73, 3) := by decide +kernel
theorem d_R_orderOfSides_42 : decode b_R_orderOfSides 42 = .ok (.aload_n 2, 1) := by decide +kernel
theorem d_R_orderOfSides_43 : decode b_R_orderOfSides 43 = .ok (.iload_n 3, 1) := by decide +kernel
theorem d_R_orderOfSides_44 : decode b_R_orderOfSides 44 = .ok (.invokevirtual 76, 3) := by decide +kernel
theorem d_R_orderOfSides_47 : decode b_R_orderOfSides 47 = .ok (.invokestatic 105, 3) := by decide +kernel
theorem d_R_orderOfSides_50 : decode b_R_orderOfSides 50 = .ok (.if_icmp .eq (14), 3) := by decide +kernel
theorem d_R_orderOfSides_53 : decode b_R_orderOfSides 53 = .ok (.iload 4, 2) := by decide +kernel
theorem d_R_orderOfSides_55 : decode b_R_orderOfSides 55 = .ok (.ifCond .eq (7), 3) := by decide +kernel
theorem d_R_orderOfSides_58 : decode b_R_orderOfSides 58 = .ok (.iconst 1, 1) := by decide +kernel
theorem d_R_orderOfSides_59 : decode b_R_orderOfSides 59 = .ok (.goto (4), 3) := by decide +kernel
theorem d_R_orderOfSides_62 : decode b_R_orderOfSides 62 = .ok (.iconst (-1), 1) := by decide +kernel
theorem d_R_orderOfSides_63 : decode b_R_orderOfSides 63 = .ok (.ireturn, 1) := by decide +kernel
theorem d_R_orderOfSides_64 : decode b_R_orderOfSides 64 = .ok (.aload_n 2, 1) := by decide +kernel
theorem d_R_orderOfSides_65 : decode b_R_orderOfSides 65 = .ok (.iload_n 3, 1) := by decide +kernel
theorem d_R_orderOfSides_66 : decode b_R_orderOfSides 66 = .ok (.invokevirtual 73, 3) := by decide +kernel
theorem d_R_orderOfSides_69 : decode b_R_orderOfSides 69 = .ok (.aload_n 0, 1) := by decide +kernel
theorem d_R_orderOfSides_70 : decode b_R_orderOfSides 70 = .ok (.iload_n 1, 1) := by decide +kernel
theorem d_R_orderOfSides_71 : decode b_R_orderOfSides 71 = .ok (.invokevirtual 76, 3) := by decide +kernel
theorem d_R_orderOfSides_74 : decode b_R_orderOfSides 74 = .ok (.imul, 1) := by decide +kernel
theorem d_R_orderOfSides_75 : decode b_R_orderOfSides 75 = .ok (.aload_n 2, 1) := by decide +kernel
theorem d_R_orderOfSides_76 : decode b_R_orderOfSides 76 = .ok (.iload_n 3, 1) := by decide +kernel
theorem d_R_orderOfSides_77 : decode b_R_orderOfSides 77 = .ok (.invokevirtual 76, 3) := by decide +kernel
theorem d_R_orderOfSides_80 : decode b_R_orderOfSides 80 = .ok (.aload_n 0, 1) := by decide +kernel
theorem d_R_orderOfSides_81 : decode b_R_orderOfSides 81 = .ok (.iload_n 1, 1) := by decide +kernel
theorem d_R_orderOfSides_82 : decode b_R_orderOfSides 82 = .ok (.invokevirtual 73, 3) := by decide +kernel
theorem d_R_orderOfSides_85 : decode b_R_orderOfSides 85 = .ok (.imul, 1) := by decide +kernel
theorem d_R_orderOfSides_86 : decode b_R_orderOfSides 86 = .ok (.isub, 1) := by decide +kernel
theorem d_R_orderOfSides_87 : decode b_R_orderOfSides 87 = .ok (.ireturn, 1) := by decide +kernel
theorem d_R_goesBack_0 : decode b_R_goesBack 0 = .ok (.iload_n 0, 1) := by decide +kernel
theorem d_R_goesBack_1 : decode b_R_goesBack 1 = .ok (.ifCond .lt (11), 3) := by decide +kernel
theorem d_R_goesBack_4 : decode b_R_goesBack 4 = .ok (.iload_n 0, 1) := by decide +kernel
theorem d_R_goesBack_5 : decode b_R_goesBack 5 = .ok (.ifCond .ne (11), 3) := by decide +kernel
theorem d_R_goesBack_8 : decode b_R_goesBack 8 = .ok (.iload_n 1, 1) := by decide +kernel
theorem d_R_goesBack_9 : decode b_R_goesBack 9 = .ok (.ifCond .ge (7), 3) := by decide +kernel
theorem d_R_goesBack_12 : decode b_R_goesBack 12 = .ok (.iconst 1, 1) := by decide +kernel
theorem d_R_goesBack_13 : decode b_R_goesBack 13 = .ok (.goto (4), 3) := by decide +kernel
theorem d_R_goesBack_16 : decode b_R_goesBack 16 = .ok (.iconst 0, 1) := by decide +kernel
theorem d_R_goesBack_17 : decode b_R_goesBack 17 = .ok (.ireturn, 1) := by decide +kernel
