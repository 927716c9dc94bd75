theorem dX6_init_0 : decode cX6_init 0 = .ok (.aload_n 0, 1) := by decide +kernel
theorem dX6_init_1 : decode cX6_init 1 = .ok (.invokespecial 1, 3) := by decide +kernel
theorem dX6_init_4 : decode cX6_init 4 = .ok (.aload_n 0, 1) := by decide +kernel
theorem dX6_init_5 : decode cX6_init 5 = .ok (.bipush 16, 2) := by decide +kernel
theorem dX6_init_7 : decode cX6_init 7 = .ok (.newarray .int, 2) := by decide +kernel
theorem dX6_init_9 : decode cX6_init 9 = .ok (.putfield 7, 3) := by decide +kernel
theorem dX6_init_12 : decode cX6_init 12 = .ok (.aload_n 0, 1) := by decide +kernel
theorem dX6_init_13 : decode cX6_init 13 = .ok (.bipush 32, 2) := by decide +kernel
theorem dX6_init_15 : decode cX6_init 15 = .ok (.newarray .int, 2) := by decide +kernel
theorem dX6_init_17 : decode cX6_init 17 = .ok (.putfield 13, 3) := by decide +kernel
theorem dX6_init_20 : decode cX6_init 20 = .ok (.aload_n 0, 1) := by decide +kernel
theorem dX6_init_21 : decode cX6_init 21 = .ok (.bipush 32, 2) := by decide +kernel
theorem dX6_init_23 : decode cX6_init 23 = .ok (.newarray .int, 2) := by decide +kernel
theorem dX6_init_25 : decode cX6_init 25 = .ok (.putfield 16, 3) := by decide +kernel
theorem dX6_init_28 : decode cX6_init 28 = .ok (.aload_n 0, 1) := by decide +kernel
theorem dX6_init_29 : decode cX6_init 29 = .ok (.bipush 32, 2) := by decide +kernel
theorem dX6_init_31 : decode cX6_init 31 = .ok (.newarray .int, 2) := by decide +kernel
theorem dX6_init_33 : decode cX6_init 33 = .ok (.putfield 19, 3) := by decide +kernel
theorem dX6_init_36 : decode cX6_init 36 = .ok (.aload_n 0, 1) := by decide +kernel
theorem dX6_init_37 : decode cX6_init 37 = .ok (.bipush 32, 2) := by decide +kernel
theorem dX6_init_39 : decode cX6_init 39 = .ok (.newarray .int, 2) := by decide +kernel
theorem dX6_init_41 : decode cX6_init 41 = .ok (.putfield 22, 3) := by decide +kernel
theorem dX6_init_44 : decode cX6_init 44 = .ok (.aload_n 0, 1) := by decide +kernel
theorem dX6_init_45 : decode cX6_init 45 = .ok (.bipush 80, 2) := by decide +kernel
theorem dX6_init_47 : decode cX6_init 47 = .ok (.newarray .int, 2) := by decide +kernel
theorem dX6_init_49 : decode cX6_init 49 = .ok (.putfield 25, 3) := by decide +kernel
theorem dX6_init_52 : decode cX6_init 52 = .ok (.aload_n 0, 1) := by decide +kernel
theorem dX6_init_53 : decode cX6_init 53 = .ok (.bipush 80, 2) := by decide +kernel
theorem dX6_init_55 : decode cX6_init 55 = .ok (.newarray .int, 2) := by decide +kernel
theorem dX6_init_57 : decode cX6_init 57 = .ok (.putfield 28, 3) := by decide +kernel
theorem dX6_init_60 : decode cX6_init 60 = .ok (.aload_n 0, 1) := by decide +kernel
theorem dX6_init_61 : decode cX6_init 61 = .ok (.bipush 80, 2) := by decide +kernel
theorem dX6_init_63 : decode cX6_init 63 = .ok (.newarray .int, 2) := by decide +kernel
theorem dX6_init_65 : decode cX6_init 65 = .ok (.putfield 31, 3) := by decide +kernel
theorem dX6_init_68 : decode cX6_init 68 = .ok (.aload_n 0, 1) := by decide +kernel
theorem dX6_init_69 : decode cX6_init 69 = .ok (.bipush 80, 2) := by decide +kernel
theorem dX6_init_71 : decode cX6_init 71 = .ok (.newarray .int, 2) := by decide +kernel
theorem dX6_init_73 : decode cX6_init 73 = .ok (.putfield 34, 3) := by decide +kernel
theorem dX6_init_76 : decode cX6_init 76 = .ok (.aload_n 0, 1) := by decide +kernel
theorem dX6_init_77 : decode cX6_init 77 = .ok (.bipush 80, 2) := by decide +kernel
theorem dX6_init_79 : decode cX6_init 79 = .ok (.newarray .boolean, 2) := by decide +kernel
theorem dX6_init_81 : decode cX6_init 81 = .ok (.putfield 37, 3) := by decide +kernel
theorem dX6_init_84 : decode cX6_init 84 = .ok (.aload_n 0, 1) := by decide +kernel
theorem dX6_init_85 : decode cX6_init 85 = .ok (.bipush 120, 2) := by decide +kernel
theorem dX6_init_87 : decode cX6_init 87 = .ok (.newarray .int, 2) := by decide +kernel
theorem dX6_init_89 : decode cX6_init 89 = .ok (.putfield 41, 3) := by decide +kernel
theorem dX6_init_92 : decode cX6_init 92 = .ok (.aload_n 0, 1) := by decide +kernel
theorem dX6_init_93 : decode cX6_init 93 = .ok (.bipush 120, 2) := by decide +kernel
theorem dX6_init_95 : decode cX6_init 95 = .ok (.newarray .int, 2) := by decide +kernel
theorem dX6_init_97 : decode cX6_init 97 = .ok (.putfield 44, 3) := by decide +kernel
theorem dX6_init_100 : decode cX6_init 100 = .ok (.aload_n 0, 1) := by decide +kernel
theorem dX6_init_101 : decode cX6_init 101 = .ok (.bipush 120, 2) := by decide +kernel
theorem dX6_init_103 : decode cX6_init 103 = .ok (.newarray .boolean, 2) := by decide +kernel
theorem dX6_init_105 : decode cX6_init 105 = .ok (.putfield 47, 3) := by decide +kernel
theorem dX6_init_108 : decode cX6_init 108 = .ok (.aload_n 0, 1) := by decide +kernel
theorem dX6_init_109 : decode cX6_init 109 = .ok (.sipush 5000, 3) := by decide +kernel
theorem dX6_init_112 : decode cX6_init 112 = .ok (.newarray .int, 2) := by decide +kernel
theorem dX6_init_114 : decode cX6_init 114 = .ok (.putfield 50, 3) := by decide +kernel
theorem dX6_init_117 : decode cX6_init 117 = .ok (.aload_n 0, 1) := by decide +kernel
theorem dX6_init_118 : decode cX6_init 118 = .ok (.sipush 5000, 3) := by decide +kernel
theorem dX6_init_121 : decode cX6_init 121 = .ok (.newarray .int, 2) := by decide +kernel
theorem dX6_init_123 : decode cX6_init 123 = .ok (.putfield 53, 3) := by decide +kernel
theorem dX6_init_126 : decode cX6_init 126 = .ok (.aload_n 0, 1) := by decide +kernel
theorem dX6_init_127 : decode cX6_init 127 = .ok (.sipush 5000, 3) := by decide +kernel
theorem dX6_init_130 : decode cX6_init 130 = .ok (.newarray .int, 2) := by decide +kernel
theorem dX6_init_132 : decode cX6_init 132 = .ok (.putfield 56, 3) := by decide +kernel
theorem dX6_init_135 : decode cX6_init 135 = .ok (.aload_n 0, 1) := by decide +kernel
theorem dX6_init_136 : decode cX6_init 136 = .ok (.sipush 5000, 3) := by decide +kernel
theorem dX6_init_139 : decode cX6_init 139 = .ok (.newarray .int, 2) := by decide +kernel
theorem dX6_init_141 : decode cX6_init 141 = .ok (.putfield 59, 3) := by decide +kernel
theorem dX6_init_144 : decode cX6_init 144 = .ok (.aload_n 0, 1) := by decide +kernel
theorem dX6_init_145 : decode cX6_init 145 = .ok (.sipush 5000, 3) := by decide +kernel
theorem dX6_init_148 : decode cX6_init 148 = .ok (.newarray .int, 2) := by decide +kernel
theorem dX6_init_150 : decode cX6_init 150 = .ok (.putfield 62, 3) := by decide +kernel
theorem dX6_init_153 : decode cX6_init 153 = .ok (.aload_n 0, 1) := by decide +kernel
theorem dX6_init_154 : decode cX6_init 154 = .ok (.sipush 5000, 3) := by decide +kernel
theorem dX6_init_157 : decode cX6_init 157 = .ok (.newarray .boolean, 2) := by decide +kernel
theorem dX6_init_159 : decode cX6_init 159 = .ok (.putfield 65, 3) := by decide +kernel
theorem dX6_init_162 : decode cX6_init 162 = .ok (.return_, 1) := by decide +kernel
theorem dX6_in_0 : decode cX6_in 0 = .ok (.iload_n 0, 1) := by decide +kernel
theorem dX6_in_1 : decode cX6_in 1 = .ok (.iload_n 1, 1) := by decide +kernel
theorem dX6_in_2 : decode cX6_in 2 = .ok (.if_icmp .lt 12, 3) := by decide +kernel
theorem dX6_in_5 : decode cX6_in 5 = .ok (.iload_n 0, 1) := by decide +kernel
theorem dX6_in_6 : decode cX6_in 6 = .ok (.iload_n 2, 1) := by decide +kernel
theorem dX6_in_7 : decode cX6_in 7 = .ok (.if_icmp .gt 7, 3) := by decide +kernel
theorem dX6_in_10 : decode cX6_in 10 = .ok (.iconst 1, 1) := by decide +kernel
theorem dX6_in_11 : decode cX6_in 11 = .ok (.goto 4, 3) := by decide +kernel
theorem dX6_in_14 : decode cX6_in 14 = .ok (.iconst 0, 1) := by decide +kernel
theorem dX6_in_15 : decode cX6_in 15 = .ok (.ireturn, 1) := by decide +kernel
theorem dX6_isDay_0 : decode cX6_isDay 0 = .ok (.iload_n 1, 1) := by decide +kernel
theorem dX6_isDay_1 : decode cX6_isDay 1 = .ok (.aload_n 0, 1) := by decide +kernel
theorem dX6_isDay_2 : decode cX6_isDay 2 = .ok (.getfield 68, 3) := by decide +kernel
theorem dX6_isDay_5 : decode cX6_isDay 5 = .ok (.ldc 72, 2) := by decide +kernel
theorem dX6_isDay_7 : decode cX6_isDay 7 = .ok (.invokestatic 73, 3) := by decide +kernel
theorem dX6_isDay_10 : decode cX6_isDay 10 = .ok (.ireturn, 1) := by decide +kernel
theorem dX6_placeWith_0 : decode cX6_placeWith 0 = .ok (.iconst 0, 1) := by decide +kernel
theorem dX6_placeWith_1 : decode cX6_placeWith 1 = .ok (.istore_n 2, 1) := by decide +kernel
theorem dX6_placeWith_2 : decode cX6_placeWith 2 = .ok (.iload_n 2, 1) := by decide +kernel
theorem dX6_placeWith_3 : decode cX6_placeWith 3 = .ok (.aload_n 0, 1) := by decide +kernel
theorem dX6_placeWith_4 : decode cX6_placeWith 4 = .ok (.getfield 82, 3) := by decide +kernel
theorem dX6_placeWith_7 : decode cX6_placeWith 7 = .ok (.if_icmp .ge 21, 3) := by decide +kernel
theorem dX6_placeWith_10 : decode cX6_placeWith 10 = .ok (.aload_n 0, 1) := by decide +kernel
theorem dX6_placeWith_11 : decode cX6_placeWith 11 = .ok (.getfield 7, 3) := by decide +kernel
theorem dX6_placeWith_14 : decode cX6_placeWith 14 = .ok (.iload_n 2, 1) := by decide +kernel
theorem dX6_placeWith_15 : decode cX6_placeWith 15 = .ok (.iaload, 1) := by decide +kernel
theorem dX6_placeWith_16 : decode cX6_placeWith 16 = .ok (.iload_n 1, 1) := by decide +kernel
theorem dX6_placeWith_17 : decode cX6_placeWith 17 = .ok (.if_icmp .ne 5, 3) := by decide +kernel
theorem dX6_placeWith_20 : decode cX6_placeWith 20 = .ok (.iload_n 2, 1) := by decide +kernel
theorem dX6_placeWith_21 : decode cX6_placeWith 21 = .ok (.ireturn, 1) := by decide +kernel
theorem dX6_placeWith_22 : decode cX6_placeWith 22 = .ok (.iinc 2 1, 3) := by decide +kernel
theorem dX6_placeWith_25 : decode cX6_placeWith 25 = .ok (.goto (-23), 3) := by decide +kernel
theorem dX6_placeWith_28 : decode cX6_placeWith 28 = .ok (.iconst (-1), 1) := by decide +kernel
theorem dX6_placeWith_29 : decode cX6_placeWith 29 = .ok (.ireturn, 1) := by decide +kernel
theorem dX6_place_0 : decode cX6_place 0 = .ok (.iload_n 1, 1) := by decide +kernel
theorem dX6_place_1 : decode cX6_place 1 = .ok (.iconst 1, 1) := by decide +kernel
theorem dX6_place_2 : decode cX6_place 2 = .ok (.ldc 77, 2) := by decide +kernel
theorem dX6_place_4 : decode cX6_place 4 = .ok (.invokestatic 73, 3) := by decide +kernel
theorem dX6_place_7 : decode cX6_place 7 = .ok (.ifCond .eq 14, 3) := by decide +kernel
theorem dX6_place_10 : decode cX6_place 10 = .ok (.iload_n 2, 1) := by decide +kernel
theorem dX6_place_11 : decode cX6_place 11 = .ok (.iconst 0, 1) := by decide +kernel
theorem dX6_place_12 : decode cX6_place 12 = .ok (.sipush 9999, 3) := by decide +kernel
theorem dX6_place_15 : decode cX6_place 15 = .ok (.invokestatic 73, 3) := by decide +kernel
theorem dX6_place_18 : decode cX6_place 18 = .ok (.ifCond .ne 6, 3) := by decide +kernel
theorem dX6_place_21 : decode cX6_place 21 = .ok (.bipush (-12), 2) := by decide +kernel
theorem dX6_place_23 : decode cX6_place 23 = .ok (.ireturn, 1) := by decide +kernel
theorem dX6_place_24 : decode cX6_place 24 = .ok (.aload_n 0, 1) := by decide +kernel
theorem dX6_place_25 : decode cX6_place 25 = .ok (.iload_n 1, 1) := by decide +kernel
theorem dX6_place_26 : decode cX6_place 26 = .ok (.invokevirtual 78, 3) := by decide +kernel
theorem dX6_place_29 : decode cX6_place 29 = .ok (.ifCond .lt 6, 3) := by decide +kernel
theorem dX6_place_32 : decode cX6_place 32 = .ok (.bipush (-13), 2) := by decide +kernel
theorem dX6_place_34 : decode cX6_place 34 = .ok (.ireturn, 1) := by decide +kernel
theorem dX6_place_35 : decode cX6_place 35 = .ok (.aload_n 0, 1) := by decide +kernel
theorem dX6_place_36 : decode cX6_place 36 = .ok (.getfield 82, 3) := by decide +kernel
theorem dX6_place_39 : decode cX6_place 39 = .ok (.bipush 16, 2) := by decide +kernel
theorem dX6_place_41 : decode cX6_place 41 = .ok (.if_icmp .ne 6, 3) := by decide +kernel
theorem dX6_place_44 : decode cX6_place 44 = .ok (.bipush (-14), 2) := by decide +kernel
theorem dX6_place_46 : decode cX6_place 46 = .ok (.ireturn, 1) := by decide +kernel
theorem dX6_place_47 : decode cX6_place 47 = .ok (.aload_n 0, 1) := by decide +kernel
theorem dX6_place_48 : decode cX6_place 48 = .ok (.getfield 7, 3) := by decide +kernel
theorem dX6_place_51 : decode cX6_place 51 = .ok (.aload_n 0, 1) := by decide +kernel
theorem dX6_place_52 : decode cX6_place 52 = .ok (.getfield 82, 3) := by decide +kernel
theorem dX6_place_55 : decode cX6_place 55 = .ok (.iload_n 1, 1) := by decide +kernel
theorem dX6_place_56 : decode cX6_place 56 = .ok (.iastore, 1) := by decide +kernel
theorem dX6_place_57 : decode cX6_place 57 = .ok (.aload_n 0, 1) := by decide +kernel
theorem dX6_place_58 : decode cX6_place 58 = .ok (.dup, 1) := by decide +kernel
theorem dX6_place_59 : decode cX6_place 59 = .ok (.getfield 82, 3) := by decide +kernel
theorem dX6_place_62 : decode cX6_place 62 = .ok (.iconst 1, 1) := by decide +kernel
theorem dX6_place_63 : decode cX6_place 63 = .ok (.iadd, 1) := by decide +kernel
theorem dX6_place_64 : decode cX6_place 64 = .ok (.putfield 82, 3) := by decide +kernel
theorem dX6_place_67 : decode cX6_place 67 = .ok (.aload_n 0, 1) := by decide +kernel
theorem dX6_place_68 : decode cX6_place 68 = .ok (.getfield 82, 3) := by decide +kernel
theorem dX6_place_71 : decode cX6_place 71 = .ok (.iconst 1, 1) := by decide +kernel
theorem dX6_place_72 : decode cX6_place 72 = .ok (.isub, 1) := by decide +kernel
theorem dX6_place_73 : decode cX6_place 73 = .ok (.ireturn, 1) := by decide +kernel
theorem dX6_streetWith_0 : decode cX6_streetWith 0 = .ok (.iconst 0, 1) := by decide +kernel
theorem dX6_streetWith_1 : decode cX6_streetWith 1 = .ok (.istore_n 3, 1) := by decide +kernel
theorem dX6_streetWith_2 : decode cX6_streetWith 2 = .ok (.iload_n 3, 1) := by decide +kernel
theorem dX6_streetWith_3 : decode cX6_streetWith 3 = .ok (.aload_n 0, 1) := by decide +kernel
theorem dX6_streetWith_4 : decode cX6_streetWith 4 = .ok (.getfield 85, 3) := by decide +kernel
theorem dX6_streetWith_7 : decode cX6_streetWith 7 = .ok (.if_icmp .ge 31, 3) := by decide +kernel
theorem dX6_streetWith_10 : decode cX6_streetWith 10 = .ok (.aload_n 0, 1) := by decide +kernel
theorem dX6_streetWith_11 : decode cX6_streetWith 11 = .ok (.getfield 13, 3) := by decide +kernel
theorem dX6_streetWith_14 : decode cX6_streetWith 14 = .ok (.iload_n 3, 1) := by decide +kernel
theorem dX6_streetWith_15 : decode cX6_streetWith 15 = .ok (.iaload, 1) := by decide +kernel
theorem dX6_streetWith_16 : decode cX6_streetWith 16 = .ok (.iload_n 1, 1) := by decide +kernel
theorem dX6_streetWith_17 : decode cX6_streetWith 17 = .ok (.if_icmp .ne 15, 3) := by decide +kernel
theorem dX6_streetWith_20 : decode cX6_streetWith 20 = .ok (.aload_n 0, 1) := by decide +kernel
theorem dX6_streetWith_21 : decode cX6_streetWith 21 = .ok (.getfield 16, 3) := by decide +kernel
theorem dX6_streetWith_24 : decode cX6_streetWith 24 = .ok (.iload_n 3, 1) := by decide +kernel
theorem dX6_streetWith_25 : decode cX6_streetWith 25 = .ok (.iaload, 1) := by decide +kernel
theorem dX6_streetWith_26 : decode cX6_streetWith 26 = .ok (.iload_n 2, 1) := by decide +kernel
theorem dX6_streetWith_27 : decode cX6_streetWith 27 = .ok (.if_icmp .ne 5, 3) := by decide +kernel
theorem dX6_streetWith_30 : decode cX6_streetWith 30 = .ok (.iload_n 3, 1) := by decide +kernel
theorem dX6_streetWith_31 : decode cX6_streetWith 31 = .ok (.ireturn, 1) := by decide +kernel
theorem dX6_streetWith_32 : decode cX6_streetWith 32 = .ok (.iinc 3 1, 3) := by decide +kernel
theorem dX6_streetWith_35 : decode cX6_streetWith 35 = .ok (.goto (-33), 3) := by decide +kernel
theorem dX6_streetWith_38 : decode cX6_streetWith 38 = .ok (.iconst (-1), 1) := by decide +kernel
theorem dX6_streetWith_39 : decode cX6_streetWith 39 = .ok (.ireturn, 1) := by decide +kernel
theorem dX6_street_0 : decode cX6_street 0 = .ok (.iload_n 1, 1) := by decide +kernel
theorem dX6_street_1 : decode cX6_street 1 = .ok (.iconst 0, 1) := by decide +kernel
theorem dX6_street_2 : decode cX6_street 2 = .ok (.aload_n 0, 1) := by decide +kernel
theorem dX6_street_3 : decode cX6_street 3 = .ok (.getfield 82, 3) := by decide +kernel
theorem dX6_street_6 : decode cX6_street 6 = .ok (.iconst 1, 1) := by decide +kernel
theorem dX6_street_7 : decode cX6_street 7 = .ok (.isub, 1) := by decide +kernel
theorem dX6_street_8 : decode cX6_street 8 = .ok (.invokestatic 73, 3) := by decide +kernel
theorem dX6_street_11 : decode cX6_street 11 = .ok (.ifCond .ne 6, 3) := by decide +kernel
theorem dX6_street_14 : decode cX6_street 14 = .ok (.bipush (-11), 2) := by decide +kernel
theorem dX6_street_16 : decode cX6_street 16 = .ok (.ireturn, 1) := by decide +kernel
theorem dX6_street_17 : decode cX6_street 17 = .ok (.iload_n 2, 1) := by decide +kernel
theorem dX6_street_18 : decode cX6_street 18 = .ok (.iconst 0, 1) := by decide +kernel
theorem dX6_street_19 : decode cX6_street 19 = .ok (.sipush 9999, 3) := by decide +kernel
theorem dX6_street_22 : decode cX6_street 22 = .ok (.invokestatic 73, 3) := by decide +kernel
theorem dX6_street_25 : decode cX6_street 25 = .ok (.ifCond .ne 6, 3) := by decide +kernel
theorem dX6_street_28 : decode cX6_street 28 = .ok (.bipush (-12), 2) := by decide +kernel
theorem dX6_street_30 : decode cX6_street 30 = .ok (.ireturn, 1) := by decide +kernel
theorem dX6_street_31 : decode cX6_street 31 = .ok (.aload_n 0, 1) := by decide +kernel
theorem dX6_street_32 : decode cX6_street 32 = .ok (.iload_n 1, 1) := by decide +kernel
theorem dX6_street_33 : decode cX6_street 33 = .ok (.iload_n 2, 1) := by decide +kernel
theorem dX6_street_34 : decode cX6_street 34 = .ok (.invokevirtual 88, 3) := by decide +kernel
theorem dX6_street_37 : decode cX6_street 37 = .ok (.ifCond .lt 6, 3) := by decide +kernel
theorem dX6_street_40 : decode cX6_street 40 = .ok (.bipush (-13), 2) := by decide +kernel
theorem dX6_street_42 : decode cX6_street 42 = .ok (.ireturn, 1) := by decide +kernel
theorem dX6_street_43 : decode cX6_street 43 = .ok (.aload_n 0, 1) := by decide +kernel
theorem dX6_street_44 : decode cX6_street 44 = .ok (.getfield 85, 3) := by decide +kernel
theorem dX6_street_47 : decode cX6_street 47 = .ok (.bipush 32, 2) := by decide +kernel
theorem dX6_street_49 : decode cX6_street 49 = .ok (.if_icmp .ne 6, 3) := by decide +kernel
theorem dX6_street_52 : decode cX6_street 52 = .ok (.bipush (-14), 2) := by decide +kernel
theorem dX6_street_54 : decode cX6_street 54 = .ok (.ireturn, 1) := by decide +kernel
theorem dX6_street_55 : decode cX6_street 55 = .ok (.aload_n 0, 1) := by decide +kernel
theorem dX6_street_56 : decode cX6_street 56 = .ok (.getfield 13, 3) := by decide +kernel
theorem dX6_street_59 : decode cX6_street 59 = .ok (.aload_n 0, 1) := by decide +kernel
theorem dX6_street_60 : decode cX6_street 60 = .ok (.getfield 85, 3) := by decide +kernel
theorem dX6_street_63 : decode cX6_street 63 = .ok (.iload_n 1, 1) := by decide +kernel
theorem dX6_street_64 : decode cX6_street 64 = .ok (.iastore, 1) := by decide +kernel
theorem dX6_street_65 : decode cX6_street 65 = .ok (.aload_n 0, 1) := by decide +kernel
theorem dX6_street_66 : decode cX6_street 66 = .ok (.getfield 16, 3) := by decide +kernel
theorem dX6_street_69 : decode cX6_street 69 = .ok (.aload_n 0, 1) := by decide +kernel
theorem dX6_street_70 : decode cX6_street 70 = .ok (.getfield 85, 3) := by decide +kernel
theorem dX6_street_73 : decode cX6_street 73 = .ok (.iload_n 2, 1) := by decide +kernel
theorem dX6_street_74 : decode cX6_street 74 = .ok (.iastore, 1) := by decide +kernel
theorem dX6_street_75 : decode cX6_street 75 = .ok (.aload_n 0, 1) := by decide +kernel
theorem dX6_street_76 : decode cX6_street 76 = .ok (.getfield 19, 3) := by decide +kernel
theorem dX6_street_79 : decode cX6_street 79 = .ok (.aload_n 0, 1) := by decide +kernel
theorem dX6_street_80 : decode cX6_street 80 = .ok (.getfield 85, 3) := by decide +kernel
theorem dX6_street_83 : decode cX6_street 83 = .ok (.iconst (-1), 1) := by decide +kernel
theorem dX6_street_84 : decode cX6_street 84 = .ok (.iastore, 1) := by decide +kernel
theorem dX6_street_85 : decode cX6_street 85 = .ok (.aload_n 0, 1) := by decide +kernel
theorem dX6_street_86 : decode cX6_street 86 = .ok (.dup, 1) := by decide +kernel
theorem dX6_street_87 : decode cX6_street 87 = .ok (.getfield 85, 3) := by decide +kernel
theorem dX6_street_90 : decode cX6_street 90 = .ok (.iconst 1, 1) := by decide +kernel
theorem dX6_street_91 : decode cX6_street 91 = .ok (.iadd, 1) := by decide +kernel
theorem dX6_street_92 : decode cX6_street 92 = .ok (.putfield 85, 3) := by decide +kernel
theorem dX6_street_95 : decode cX6_street 95 = .ok (.aload_n 0, 1) := by decide +kernel
theorem dX6_street_96 : decode cX6_street 96 = .ok (.getfield 85, 3) := by decide +kernel
theorem dX6_street_99 : decode cX6_street 99 = .ok (.iconst 1, 1) := by decide +kernel
theorem dX6_street_100 : decode cX6_street 100 = .ok (.isub, 1) := by decide +kernel
theorem dX6_street_101 : decode cX6_street 101 = .ok (.ireturn, 1) := by decide +kernel
theorem dX6_find_0 : decode cX6_find 0 = .ok (.aload_n 0, 1) := by decide +kernel
theorem dX6_find_1 : decode cX6_find 1 = .ok (.iload_n 1, 1) := by decide +kernel
theorem dX6_find_2 : decode cX6_find 2 = .ok (.invokevirtual 78, 3) := by decide +kernel
theorem dX6_find_5 : decode cX6_find 5 = .ok (.istore_n 3, 1) := by decide +kernel
theorem dX6_find_6 : decode cX6_find 6 = .ok (.iload_n 3, 1) := by decide +kernel
theorem dX6_find_7 : decode cX6_find 7 = .ok (.ifCond .ge 7, 3) := by decide +kernel
theorem dX6_find_10 : decode cX6_find 10 = .ok (.iconst (-1), 1) := by decide +kernel
theorem dX6_find_11 : decode cX6_find 11 = .ok (.goto 9, 3) := by decide +kernel
theorem dX6_find_14 : decode cX6_find 14 = .ok (.aload_n 0, 1) := by decide +kernel
theorem dX6_find_15 : decode cX6_find 15 = .ok (.iload_n 3, 1) := by decide +kernel
theorem dX6_find_16 : decode cX6_find 16 = .ok (.iload_n 2, 1) := by decide +kernel
theorem dX6_find_17 : decode cX6_find 17 = .ok (.invokevirtual 88, 3) := by decide +kernel
theorem dX6_find_20 : decode cX6_find 20 = .ok (.ireturn, 1) := by decide +kernel
theorem dX6_isStreet_0 : decode cX6_isStreet 0 = .ok (.iload_n 1, 1) := by decide +kernel
theorem dX6_isStreet_1 : decode cX6_isStreet 1 = .ok (.iconst 0, 1) := by decide +kernel
theorem dX6_isStreet_2 : decode cX6_isStreet 2 = .ok (.aload_n 0, 1) := by decide +kernel
theorem dX6_isStreet_3 : decode cX6_isStreet 3 = .ok (.getfield 85, 3) := by decide +kernel
theorem dX6_isStreet_6 : decode cX6_isStreet 6 = .ok (.iconst 1, 1) := by decide +kernel
theorem dX6_isStreet_7 : decode cX6_isStreet 7 = .ok (.isub, 1) := by decide +kernel
theorem dX6_isStreet_8 : decode cX6_isStreet 8 = .ok (.invokestatic 73, 3) := by decide +kernel
theorem dX6_isStreet_11 : decode cX6_isStreet 11 = .ok (.ireturn, 1) := by decide +kernel
theorem dX6_meant_0 : decode cX6_meant 0 = .ok (.iload_n 1, 1) := by decide +kernel
theorem dX6_meant_1 : decode cX6_meant 1 = .ok (.istore_n 3, 1) := by decide +kernel
theorem dX6_meant_2 : decode cX6_meant 2 = .ok (.aload_n 0, 1) := by decide +kernel
theorem dX6_meant_3 : decode cX6_meant 3 = .ok (.getfield 19, 3) := by decide +kernel
theorem dX6_meant_6 : decode cX6_meant 6 = .ok (.iload_n 3, 1) := by decide +kernel
theorem dX6_meant_7 : decode cX6_meant 7 = .ok (.iaload, 1) := by decide +kernel
theorem dX6_meant_8 : decode cX6_meant 8 = .ok (.ifCond .lt 23, 3) := by decide +kernel
theorem dX6_meant_11 : decode cX6_meant 11 = .ok (.aload_n 0, 1) := by decide +kernel
theorem dX6_meant_12 : decode cX6_meant 12 = .ok (.getfield 22, 3) := by decide +kernel
theorem dX6_meant_15 : decode cX6_meant 15 = .ok (.iload_n 3, 1) := by decide +kernel
theorem dX6_meant_16 : decode cX6_meant 16 = .ok (.iaload, 1) := by decide +kernel
theorem dX6_meant_17 : decode cX6_meant 17 = .ok (.iload_n 2, 1) := by decide +kernel
theorem dX6_meant_18 : decode cX6_meant 18 = .ok (.if_icmp .gt 13, 3) := by decide +kernel
theorem dX6_meant_21 : decode cX6_meant 21 = .ok (.aload_n 0, 1) := by decide +kernel
theorem dX6_meant_22 : decode cX6_meant 22 = .ok (.getfield 19, 3) := by decide +kernel
theorem dX6_meant_25 : decode cX6_meant 25 = .ok (.iload_n 3, 1) := by decide +kernel
theorem dX6_meant_26 : decode cX6_meant 26 = .ok (.iaload, 1) := by decide +kernel
theorem dX6_meant_27 : decode cX6_meant 27 = .ok (.istore_n 3, 1) := by decide +kernel
theorem dX6_meant_28 : decode cX6_meant 28 = .ok (.goto (-26), 3) := by decide +kernel
theorem dX6_meant_31 : decode cX6_meant 31 = .ok (.iload_n 3, 1) := by decide +kernel
theorem dX6_meant_32 : decode cX6_meant 32 = .ok (.ireturn, 1) := by decide +kernel
theorem dX6_isOfSide_0 : decode cX6_isOfSide 0 = .ok (.iload_n 0, 1) := by decide +kernel
theorem dX6_isOfSide_1 : decode cX6_isOfSide 1 = .ok (.ifCond .eq 12, 3) := by decide +kernel
theorem dX6_isOfSide_4 : decode cX6_isOfSide 4 = .ok (.iload_n 1, 1) := by decide +kernel
theorem dX6_isOfSide_5 : decode cX6_isOfSide 5 = .ok (.iconst 2, 1) := by decide +kernel
theorem dX6_isOfSide_6 : decode cX6_isOfSide 6 = .ok (.irem, 1) := by decide +kernel
theorem dX6_isOfSide_7 : decode cX6_isOfSide 7 = .ok (.iload_n 0, 1) := by decide +kernel
theorem dX6_isOfSide_8 : decode cX6_isOfSide 8 = .ok (.iconst 2, 1) := by decide +kernel
theorem dX6_isOfSide_9 : decode cX6_isOfSide 9 = .ok (.irem, 1) := by decide +kernel
theorem dX6_isOfSide_10 : decode cX6_isOfSide 10 = .ok (.if_icmp .ne 7, 3) := by decide +kernel
theorem dX6_isOfSide_13 : decode cX6_isOfSide 13 = .ok (.iconst 1, 1) := by decide +kernel
theorem dX6_isOfSide_14 : decode cX6_isOfSide 14 = .ok (.goto 4, 3) := by decide +kernel
theorem dX6_isOfSide_17 : decode cX6_isOfSide 17 = .ok (.iconst 0, 1) := by decide +kernel
theorem dX6_isOfSide_18 : decode cX6_isOfSide 18 = .ok (.ireturn, 1) := by decide +kernel
theorem dX6_has_0 : decode cX6_has 0 = .ok (.iload_n 2, 1) := by decide +kernel
theorem dX6_has_1 : decode cX6_has 1 = .ok (.aload_n 0, 1) := by decide +kernel
theorem dX6_has_2 : decode cX6_has 2 = .ok (.getfield 31, 3) := by decide +kernel
theorem dX6_has_5 : decode cX6_has 5 = .ok (.iload_n 1, 1) := by decide +kernel
theorem dX6_has_6 : decode cX6_has 6 = .ok (.iaload, 1) := by decide +kernel
theorem dX6_has_7 : decode cX6_has 7 = .ok (.if_icmp .lt 30, 3) := by decide +kernel
theorem dX6_has_10 : decode cX6_has 10 = .ok (.iload_n 2, 1) := by decide +kernel
theorem dX6_has_11 : decode cX6_has 11 = .ok (.aload_n 0, 1) := by decide +kernel
theorem dX6_has_12 : decode cX6_has 12 = .ok (.getfield 34, 3) := by decide +kernel
theorem dX6_has_15 : decode cX6_has 15 = .ok (.iload_n 1, 1) := by decide +kernel
theorem dX6_has_16 : decode cX6_has 16 = .ok (.iaload, 1) := by decide +kernel
theorem dX6_has_17 : decode cX6_has 17 = .ok (.if_icmp .gt 20, 3) := by decide +kernel
theorem dX6_has_20 : decode cX6_has 20 = .ok (.aload_n 0, 1) := by decide +kernel
theorem dX6_has_21 : decode cX6_has 21 = .ok (.getfield 28, 3) := by decide +kernel
theorem dX6_has_24 : decode cX6_has 24 = .ok (.iload_n 1, 1) := by decide +kernel
theorem dX6_has_25 : decode cX6_has 25 = .ok (.iaload, 1) := by decide +kernel
theorem dX6_has_26 : decode cX6_has 26 = .ok (.iload_n 2, 1) := by decide +kernel
theorem dX6_has_27 : decode cX6_has 27 = .ok (.invokestatic 92, 3) := by decide +kernel
theorem dX6_has_30 : decode cX6_has 30 = .ok (.ifCond .eq 7, 3) := by decide +kernel
theorem dX6_has_33 : decode cX6_has 33 = .ok (.iconst 1, 1) := by decide +kernel
theorem dX6_has_34 : decode cX6_has 34 = .ok (.goto 4, 3) := by decide +kernel
theorem dX6_has_37 : decode cX6_has 37 = .ok (.iconst 0, 1) := by decide +kernel
theorem dX6_has_38 : decode cX6_has 38 = .ok (.ireturn, 1) := by decide +kernel
theorem dX6_lowest_0 : decode cX6_lowest 0 = .ok (.aload_n 0, 1) := by decide +kernel
theorem dX6_lowest_1 : decode cX6_lowest 1 = .ok (.getfield 28, 3) := by decide +kernel
theorem dX6_lowest_4 : decode cX6_lowest 4 = .ok (.iload_n 1, 1) := by decide +kernel
theorem dX6_lowest_5 : decode cX6_lowest 5 = .ok (.iaload, 1) := by decide +kernel
theorem dX6_lowest_6 : decode cX6_lowest 6 = .ok (.aload_n 0, 1) := by decide +kernel
theorem dX6_lowest_7 : decode cX6_lowest 7 = .ok (.getfield 31, 3) := by decide +kernel
theorem dX6_lowest_10 : decode cX6_lowest 10 = .ok (.iload_n 1, 1) := by decide +kernel
theorem dX6_lowest_11 : decode cX6_lowest 11 = .ok (.iaload, 1) := by decide +kernel
theorem dX6_lowest_12 : decode cX6_lowest 12 = .ok (.invokestatic 92, 3) := by decide +kernel
theorem dX6_lowest_15 : decode cX6_lowest 15 = .ok (.ifCond .eq 12, 3) := by decide +kernel
theorem dX6_lowest_18 : decode cX6_lowest 18 = .ok (.aload_n 0, 1) := by decide +kernel
theorem dX6_lowest_19 : decode cX6_lowest 19 = .ok (.getfield 31, 3) := by decide +kernel
theorem dX6_lowest_22 : decode cX6_lowest 22 = .ok (.iload_n 1, 1) := by decide +kernel
theorem dX6_lowest_23 : decode cX6_lowest 23 = .ok (.iaload, 1) := by decide +kernel
theorem dX6_lowest_24 : decode cX6_lowest 24 = .ok (.goto 11, 3) := by decide +kernel
theorem dX6_lowest_27 : decode cX6_lowest 27 = .ok (.aload_n 0, 1) := by decide +kernel
theorem dX6_lowest_28 : decode cX6_lowest 28 = .ok (.getfield 31, 3) := by decide +kernel
theorem dX6_lowest_31 : decode cX6_lowest 31 = .ok (.iload_n 1, 1) := by decide +kernel
theorem dX6_lowest_32 : decode cX6_lowest 32 = .ok (.iaload, 1) := by decide +kernel
theorem dX6_lowest_33 : decode cX6_lowest 33 = .ok (.iconst 1, 1) := by decide +kernel
theorem dX6_lowest_34 : decode cX6_lowest 34 = .ok (.iadd, 1) := by decide +kernel
theorem dX6_lowest_35 : decode cX6_lowest 35 = .ok (.ireturn, 1) := by decide +kernel
theorem dX6_highest_0 : decode cX6_highest 0 = .ok (.aload_n 0, 1) := by decide +kernel
theorem dX6_highest_1 : decode cX6_highest 1 = .ok (.getfield 28, 3) := by decide +kernel
theorem dX6_highest_4 : decode cX6_highest 4 = .ok (.iload_n 1, 1) := by decide +kernel
theorem dX6_highest_5 : decode cX6_highest 5 = .ok (.iaload, 1) := by decide +kernel
theorem dX6_highest_6 : decode cX6_highest 6 = .ok (.aload_n 0, 1) := by decide +kernel
theorem dX6_highest_7 : decode cX6_highest 7 = .ok (.getfield 34, 3) := by decide +kernel
theorem dX6_highest_10 : decode cX6_highest 10 = .ok (.iload_n 1, 1) := by decide +kernel
theorem dX6_highest_11 : decode cX6_highest 11 = .ok (.iaload, 1) := by decide +kernel
theorem dX6_highest_12 : decode cX6_highest 12 = .ok (.invokestatic 92, 3) := by decide +kernel
theorem dX6_highest_15 : decode cX6_highest 15 = .ok (.ifCond .eq 12, 3) := by decide +kernel
theorem dX6_highest_18 : decode cX6_highest 18 = .ok (.aload_n 0, 1) := by decide +kernel
theorem dX6_highest_19 : decode cX6_highest 19 = .ok (.getfield 34, 3) := by decide +kernel
theorem dX6_highest_22 : decode cX6_highest 22 = .ok (.iload_n 1, 1) := by decide +kernel
theorem dX6_highest_23 : decode cX6_highest 23 = .ok (.iaload, 1) := by decide +kernel
theorem dX6_highest_24 : decode cX6_highest 24 = .ok (.goto 11, 3) := by decide +kernel
theorem dX6_highest_27 : decode cX6_highest 27 = .ok (.aload_n 0, 1) := by decide +kernel
theorem dX6_highest_28 : decode cX6_highest 28 = .ok (.getfield 34, 3) := by decide +kernel
theorem dX6_highest_31 : decode cX6_highest 31 = .ok (.iload_n 1, 1) := by decide +kernel
theorem dX6_highest_32 : decode cX6_highest 32 = .ok (.iaload, 1) := by decide +kernel
theorem dX6_highest_33 : decode cX6_highest 33 = .ok (.iconst 1, 1) := by decide +kernel
theorem dX6_highest_34 : decode cX6_highest 34 = .ok (.isub, 1) := by decide +kernel
theorem dX6_highest_35 : decode cX6_highest 35 = .ok (.ireturn, 1) := by decide +kernel
theorem dX6_isOver_0 : decode cX6_isOver 0 = .ok (.iload_n 3, 1) := by decide +kernel
theorem dX6_isOver_1 : decode cX6_isOver 1 = .ok (.istore 5, 2) := by decide +kernel
theorem dX6_isOver_3 : decode cX6_isOver 3 = .ok (.iload 5, 2) := by decide +kernel
theorem dX6_isOver_5 : decode cX6_isOver 5 = .ok (.iload 4, 2) := by decide +kernel
theorem dX6_isOver_7 : decode cX6_isOver 7 = .ok (.if_icmp .gt 30, 3) := by decide +kernel
theorem dX6_isOver_10 : decode cX6_isOver 10 = .ok (.iload_n 2, 1) := by decide +kernel
theorem dX6_isOver_11 : decode cX6_isOver 11 = .ok (.iload 5, 2) := by decide +kernel
theorem dX6_isOver_13 : decode cX6_isOver 13 = .ok (.invokestatic 92, 3) := by decide +kernel
theorem dX6_isOver_16 : decode cX6_isOver 16 = .ok (.ifCond .eq 15, 3) := by decide +kernel
theorem dX6_isOver_19 : decode cX6_isOver 19 = .ok (.aload_n 0, 1) := by decide +kernel
theorem dX6_isOver_20 : decode cX6_isOver 20 = .ok (.iload_n 1, 1) := by decide +kernel
theorem dX6_isOver_21 : decode cX6_isOver 21 = .ok (.iload 5, 2) := by decide +kernel
theorem dX6_isOver_23 : decode cX6_isOver 23 = .ok (.invokevirtual 96, 3) := by decide +kernel
theorem dX6_isOver_26 : decode cX6_isOver 26 = .ok (.ifCond .eq 5, 3) := by decide +kernel
theorem dX6_isOver_29 : decode cX6_isOver 29 = .ok (.iconst 1, 1) := by decide +kernel
theorem dX6_isOver_30 : decode cX6_isOver 30 = .ok (.ireturn, 1) := by decide +kernel
theorem dX6_isOver_31 : decode cX6_isOver 31 = .ok (.iinc 5 1, 3) := by decide +kernel
theorem dX6_isOver_34 : decode cX6_isOver 34 = .ok (.goto (-31), 3) := by decide +kernel
theorem dX6_isOver_37 : decode cX6_isOver 37 = .ok (.iconst 0, 1) := by decide +kernel
theorem dX6_isOver_38 : decode cX6_isOver 38 = .ok (.ireturn, 1) := by decide +kernel
theorem dX6_isRange_0 : decode cX6_isRange 0 = .ok (.iload_n 1, 1) := by decide +kernel
theorem dX6_isRange_1 : decode cX6_isRange 1 = .ok (.iconst 0, 1) := by decide +kernel
theorem dX6_isRange_2 : decode cX6_isRange 2 = .ok (.aload_n 0, 1) := by decide +kernel
theorem dX6_isRange_3 : decode cX6_isRange 3 = .ok (.getfield 99, 3) := by decide +kernel
theorem dX6_isRange_6 : decode cX6_isRange 6 = .ok (.iconst 1, 1) := by decide +kernel
theorem dX6_isRange_7 : decode cX6_isRange 7 = .ok (.isub, 1) := by decide +kernel
theorem dX6_isRange_8 : decode cX6_isRange 8 = .ok (.invokestatic 73, 3) := by decide +kernel
theorem dX6_isRange_11 : decode cX6_isRange 11 = .ok (.ireturn, 1) := by decide +kernel
theorem dX6_addRange_0 : decode cX6_addRange 0 = .ok (.aload_n 0, 1) := by decide +kernel
theorem dX6_addRange_1 : decode cX6_addRange 1 = .ok (.getfield 25, 3) := by decide +kernel
theorem dX6_addRange_4 : decode cX6_addRange 4 = .ok (.aload_n 0, 1) := by decide +kernel
theorem dX6_addRange_5 : decode cX6_addRange 5 = .ok (.getfield 99, 3) := by decide +kernel
theorem dX6_addRange_8 : decode cX6_addRange 8 = .ok (.iload_n 1, 1) := by decide +kernel
theorem dX6_addRange_9 : decode cX6_addRange 9 = .ok (.iastore, 1) := by decide +kernel
theorem dX6_addRange_10 : decode cX6_addRange 10 = .ok (.aload_n 0, 1) := by decide +kernel
theorem dX6_addRange_11 : decode cX6_addRange 11 = .ok (.getfield 28, 3) := by decide +kernel
theorem dX6_addRange_14 : decode cX6_addRange 14 = .ok (.aload_n 0, 1) := by decide +kernel
theorem dX6_addRange_15 : decode cX6_addRange 15 = .ok (.getfield 99, 3) := by decide +kernel
theorem dX6_addRange_18 : decode cX6_addRange 18 = .ok (.iload_n 2, 1) := by decide +kernel
theorem dX6_addRange_19 : decode cX6_addRange 19 = .ok (.iastore, 1) := by decide +kernel
theorem dX6_addRange_20 : decode cX6_addRange 20 = .ok (.aload_n 0, 1) := by decide +kernel
theorem dX6_addRange_21 : decode cX6_addRange 21 = .ok (.getfield 31, 3) := by decide +kernel
theorem dX6_addRange_24 : decode cX6_addRange 24 = .ok (.aload_n 0, 1) := by decide +kernel
theorem dX6_addRange_25 : decode cX6_addRange 25 = .ok (.getfield 99, 3) := by decide +kernel
theorem dX6_addRange_28 : decode cX6_addRange 28 = .ok (.iload_n 3, 1) := by decide +kernel
theorem dX6_addRange_29 : decode cX6_addRange 29 = .ok (.iastore, 1) := by decide +kernel
theorem dX6_addRange_30 : decode cX6_addRange 30 = .ok (.aload_n 0, 1) := by decide +kernel
theorem dX6_addRange_31 : decode cX6_addRange 31 = .ok (.getfield 34, 3) := by decide +kernel
theorem dX6_addRange_34 : decode cX6_addRange 34 = .ok (.aload_n 0, 1) := by decide +kernel
theorem dX6_addRange_35 : decode cX6_addRange 35 = .ok (.getfield 99, 3) := by decide +kernel
theorem dX6_addRange_38 : decode cX6_addRange 38 = .ok (.iload 4, 2) := by decide +kernel
theorem dX6_addRange_40 : decode cX6_addRange 40 = .ok (.iastore, 1) := by decide +kernel
theorem dX6_addRange_41 : decode cX6_addRange 41 = .ok (.aload_n 0, 1) := by decide +kernel
theorem dX6_addRange_42 : decode cX6_addRange 42 = .ok (.getfield 37, 3) := by decide +kernel
theorem dX6_addRange_45 : decode cX6_addRange 45 = .ok (.aload_n 0, 1) := by decide +kernel
theorem dX6_addRange_46 : decode cX6_addRange 46 = .ok (.getfield 99, 3) := by decide +kernel
theorem dX6_addRange_49 : decode cX6_addRange 49 = .ok (.iconst 1, 1) := by decide +kernel
theorem dX6_addRange_50 : decode cX6_addRange 50 = .ok (.bastore, 1) := by decide +kernel
theorem dX6_addRange_51 : decode cX6_addRange 51 = .ok (.aload_n 0, 1) := by decide +kernel
theorem dX6_addRange_52 : decode cX6_addRange 52 = .ok (.dup, 1) := by decide +kernel
theorem dX6_addRange_53 : decode cX6_addRange 53 = .ok (.getfield 99, 3) := by decide +kernel
theorem dX6_addRange_56 : decode cX6_addRange 56 = .ok (.iconst 1, 1) := by decide +kernel
theorem dX6_addRange_57 : decode cX6_addRange 57 = .ok (.iadd, 1) := by decide +kernel
theorem dX6_addRange_58 : decode cX6_addRange 58 = .ok (.putfield 99, 3) := by decide +kernel
theorem dX6_addRange_61 : decode cX6_addRange 61 = .ok (.return_, 1) := by decide +kernel
theorem dX6_range_0 : decode cX6_range 0 = .ok (.aload_n 0, 1) := by decide +kernel
theorem dX6_range_1 : decode cX6_range 1 = .ok (.iload_n 1, 1) := by decide +kernel
theorem dX6_range_2 : decode cX6_range 2 = .ok (.invokevirtual 102, 3) := by decide +kernel
theorem dX6_range_5 : decode cX6_range 5 = .ok (.ifCond .ne 6, 3) := by decide +kernel
theorem dX6_range_8 : decode cX6_range 8 = .ok (.bipush (-11), 2) := by decide +kernel
theorem dX6_range_10 : decode cX6_range 10 = .ok (.ireturn, 1) := by decide +kernel
theorem dX6_range_11 : decode cX6_range 11 = .ok (.iload_n 2, 1) := by decide +kernel
theorem dX6_range_12 : decode cX6_range 12 = .ok (.iconst 0, 1) := by decide +kernel
theorem dX6_range_13 : decode cX6_range 13 = .ok (.iconst 2, 1) := by decide +kernel
theorem dX6_range_14 : decode cX6_range 14 = .ok (.invokestatic 73, 3) := by decide +kernel
theorem dX6_range_17 : decode cX6_range 17 = .ok (.ifCond .eq 39, 3) := by decide +kernel
theorem dX6_range_20 : decode cX6_range 20 = .ok (.iload_n 3, 1) := by decide +kernel
theorem dX6_range_21 : decode cX6_range 21 = .ok (.iconst 1, 1) := by decide +kernel
theorem dX6_range_22 : decode cX6_range 22 = .ok (.sipush 999, 3) := by decide +kernel
theorem dX6_range_25 : decode cX6_range 25 = .ok (.invokestatic 73, 3) := by decide +kernel
theorem dX6_range_28 : decode cX6_range 28 = .ok (.ifCond .eq 28, 3) := by decide +kernel
theorem dX6_range_31 : decode cX6_range 31 = .ok (.iload 4, 2) := by decide +kernel
theorem dX6_range_33 : decode cX6_range 33 = .ok (.iconst 1, 1) := by decide +kernel
theorem dX6_range_34 : decode cX6_range 34 = .ok (.sipush 999, 3) := by decide +kernel
theorem dX6_range_37 : decode cX6_range 37 = .ok (.invokestatic 73, 3) := by decide +kernel
theorem dX6_range_40 : decode cX6_range 40 = .ok (.ifCond .eq 16, 3) := by decide +kernel
theorem dX6_range_43 : decode cX6_range 43 = .ok (.aload_n 0, 1) := by decide +kernel
theorem dX6_range_44 : decode cX6_range 44 = .ok (.iload 5, 2) := by decide +kernel
theorem dX6_range_46 : decode cX6_range 46 = .ok (.invokevirtual 106, 3) := by decide +kernel
theorem dX6_range_49 : decode cX6_range 49 = .ok (.ifCond .eq 7, 3) := by decide +kernel
theorem dX6_range_52 : decode cX6_range 52 = .ok (.iconst 1, 1) := by decide +kernel
theorem dX6_range_53 : decode cX6_range 53 = .ok (.goto 4, 3) := by decide +kernel
theorem dX6_range_56 : decode cX6_range 56 = .ok (.iconst 0, 1) := by decide +kernel
theorem dX6_range_57 : decode cX6_range 57 = .ok (.istore 6, 2) := by decide +kernel
theorem dX6_range_59 : decode cX6_range 59 = .ok (.iload 6, 2) := by decide +kernel
theorem dX6_range_61 : decode cX6_range 61 = .ok (.ifCond .eq 23, 3) := by decide +kernel
theorem dX6_range_64 : decode cX6_range 64 = .ok (.iload_n 3, 1) := by decide +kernel
theorem dX6_range_65 : decode cX6_range 65 = .ok (.iload 4, 2) := by decide +kernel
theorem dX6_range_67 : decode cX6_range 67 = .ok (.if_icmp .gt 17, 3) := by decide +kernel
theorem dX6_range_70 : decode cX6_range 70 = .ok (.iload_n 3, 1) := by decide +kernel
theorem dX6_range_71 : decode cX6_range 71 = .ok (.iload 4, 2) := by decide +kernel
theorem dX6_range_73 : decode cX6_range 73 = .ok (.if_icmp .ne 14, 3) := by decide +kernel
theorem dX6_range_76 : decode cX6_range 76 = .ok (.iload_n 2, 1) := by decide +kernel
theorem dX6_range_77 : decode cX6_range 77 = .ok (.iload_n 3, 1) := by decide +kernel
theorem dX6_range_78 : decode cX6_range 78 = .ok (.invokestatic 92, 3) := by decide +kernel
theorem dX6_range_81 : decode cX6_range 81 = .ok (.ifCond .ne 6, 3) := by decide +kernel
theorem dX6_range_84 : decode cX6_range 84 = .ok (.bipush (-12), 2) := by decide +kernel
theorem dX6_range_86 : decode cX6_range 86 = .ok (.ireturn, 1) := by decide +kernel
theorem dX6_range_87 : decode cX6_range 87 = .ok (.aload_n 0, 1) := by decide +kernel
theorem dX6_range_88 : decode cX6_range 88 = .ok (.getfield 19, 3) := by decide +kernel
theorem dX6_range_91 : decode cX6_range 91 = .ok (.iload_n 1, 1) := by decide +kernel
theorem dX6_range_92 : decode cX6_range 92 = .ok (.iaload, 1) := by decide +kernel
theorem dX6_range_93 : decode cX6_range 93 = .ok (.ifCond .lt 6, 3) := by decide +kernel
theorem dX6_range_96 : decode cX6_range 96 = .ok (.bipush (-13), 2) := by decide +kernel
theorem dX6_range_98 : decode cX6_range 98 = .ok (.ireturn, 1) := by decide +kernel
theorem dX6_range_99 : decode cX6_range 99 = .ok (.aload_n 0, 1) := by decide +kernel
theorem dX6_range_100 : decode cX6_range 100 = .ok (.getfield 99, 3) := by decide +kernel
theorem dX6_range_103 : decode cX6_range 103 = .ok (.bipush 80, 2) := by decide +kernel
theorem dX6_range_105 : decode cX6_range 105 = .ok (.if_icmp .ne 6, 3) := by decide +kernel
theorem dX6_range_108 : decode cX6_range 108 = .ok (.bipush (-14), 2) := by decide +kernel
theorem dX6_range_110 : decode cX6_range 110 = .ok (.ireturn, 1) := by decide +kernel
theorem dX6_range_111 : decode cX6_range 111 = .ok (.iconst 0, 1) := by decide +kernel
theorem dX6_range_112 : decode cX6_range 112 = .ok (.istore 7, 2) := by decide +kernel
theorem dX6_range_114 : decode cX6_range 114 = .ok (.iload 7, 2) := by decide +kernel
theorem dX6_range_116 : decode cX6_range 116 = .ok (.aload_n 0, 1) := by decide +kernel
theorem dX6_range_117 : decode cX6_range 117 = .ok (.getfield 99, 3) := by decide +kernel
theorem dX6_range_120 : decode cX6_range 120 = .ok (.if_icmp .ge 50, 3) := by decide +kernel
theorem dX6_range_123 : decode cX6_range 123 = .ok (.aload_n 0, 1) := by decide +kernel
theorem dX6_range_124 : decode cX6_range 124 = .ok (.getfield 37, 3) := by decide +kernel
theorem dX6_range_127 : decode cX6_range 127 = .ok (.iload 7, 2) := by decide +kernel
theorem dX6_range_129 : decode cX6_range 129 = .ok (.baload, 1) := by decide +kernel
theorem dX6_range_130 : decode cX6_range 130 = .ok (.ifCond .eq 34, 3) := by decide +kernel
theorem dX6_range_133 : decode cX6_range 133 = .ok (.aload_n 0, 1) := by decide +kernel
theorem dX6_range_134 : decode cX6_range 134 = .ok (.getfield 25, 3) := by decide +kernel
theorem dX6_range_137 : decode cX6_range 137 = .ok (.iload 7, 2) := by decide +kernel
theorem dX6_range_139 : decode cX6_range 139 = .ok (.iaload, 1) := by decide +kernel
theorem dX6_range_140 : decode cX6_range 140 = .ok (.iload_n 1, 1) := by decide +kernel
theorem dX6_range_141 : decode cX6_range 141 = .ok (.if_icmp .ne 23, 3) := by decide +kernel
theorem dX6_range_144 : decode cX6_range 144 = .ok (.aload_n 0, 1) := by decide +kernel
theorem dX6_range_145 : decode cX6_range 145 = .ok (.iload 7, 2) := by decide +kernel
theorem dX6_range_147 : decode cX6_range 147 = .ok (.iload_n 2, 1) := by decide +kernel
theorem dX6_range_148 : decode cX6_range 148 = .ok (.iload_n 3, 1) := by decide +kernel
theorem dX6_range_149 : decode cX6_range 149 = .ok (.iload 4, 2) := by decide +kernel
theorem dX6_range_151 : decode cX6_range 151 = .ok (.invokevirtual 109, 3) := by decide +kernel
theorem dX6_range_154 : decode cX6_range 154 = .ok (.ifCond .eq 10, 3) := by decide +kernel
theorem dX6_range_157 : decode cX6_range 157 = .ok (.sipush (-200), 3) := by decide +kernel
theorem dX6_range_160 : decode cX6_range 160 = .ok (.iload 7, 2) := by decide +kernel
theorem dX6_range_162 : decode cX6_range 162 = .ok (.isub, 1) := by decide +kernel
theorem dX6_range_163 : decode cX6_range 163 = .ok (.ireturn, 1) := by decide +kernel
theorem dX6_range_164 : decode cX6_range 164 = .ok (.iinc 7 1, 3) := by decide +kernel
theorem dX6_range_167 : decode cX6_range 167 = .ok (.goto (-53), 3) := by decide +kernel
theorem dX6_range_170 : decode cX6_range 170 = .ok (.aload_n 0, 1) := by decide +kernel
theorem dX6_range_171 : decode cX6_range 171 = .ok (.iload_n 1, 1) := by decide +kernel
theorem dX6_range_172 : decode cX6_range 172 = .ok (.iload_n 2, 1) := by decide +kernel
theorem dX6_range_173 : decode cX6_range 173 = .ok (.iload_n 3, 1) := by decide +kernel
theorem dX6_range_174 : decode cX6_range 174 = .ok (.iload 4, 2) := by decide +kernel
theorem dX6_range_176 : decode cX6_range 176 = .ok (.invokevirtual 113, 3) := by decide +kernel
theorem dX6_range_179 : decode cX6_range 179 = .ok (.aload_n 0, 1) := by decide +kernel
theorem dX6_range_180 : decode cX6_range 180 = .ok (.iload 5, 2) := by decide +kernel
theorem dX6_range_182 : decode cX6_range 182 = .ok (.putfield 68, 3) := by decide +kernel
theorem dX6_range_185 : decode cX6_range 185 = .ok (.aload_n 0, 1) := by decide +kernel
theorem dX6_range_186 : decode cX6_range 186 = .ok (.getfield 99, 3) := by decide +kernel
theorem dX6_range_189 : decode cX6_range 189 = .ok (.iconst 1, 1) := by decide +kernel
theorem dX6_range_190 : decode cX6_range 190 = .ok (.isub, 1) := by decide +kernel
theorem dX6_range_191 : decode cX6_range 191 = .ok (.ireturn, 1) := by decide +kernel
theorem dX6_isPoint_0 : decode cX6_isPoint 0 = .ok (.iload_n 1, 1) := by decide +kernel
theorem dX6_isPoint_1 : decode cX6_isPoint 1 = .ok (.iconst 0, 1) := by decide +kernel
theorem dX6_isPoint_2 : decode cX6_isPoint 2 = .ok (.aload_n 0, 1) := by decide +kernel
theorem dX6_isPoint_3 : decode cX6_isPoint 3 = .ok (.getfield 117, 3) := by decide +kernel
theorem dX6_isPoint_6 : decode cX6_isPoint 6 = .ok (.iconst 1, 1) := by decide +kernel
theorem dX6_isPoint_7 : decode cX6_isPoint 7 = .ok (.isub, 1) := by decide +kernel
theorem dX6_isPoint_8 : decode cX6_isPoint 8 = .ok (.invokestatic 73, 3) := by decide +kernel
theorem dX6_isPoint_11 : decode cX6_isPoint 11 = .ok (.ireturn, 1) := by decide +kernel
theorem dX6_stayOf_0 : decode cX6_stayOf 0 = .ok (.aload_n 0, 1) := by decide +kernel
theorem dX6_stayOf_1 : decode cX6_stayOf 1 = .ok (.getfield 120, 3) := by decide +kernel
theorem dX6_stayOf_4 : decode cX6_stayOf 4 = .ok (.iconst 1, 1) := by decide +kernel
theorem dX6_stayOf_5 : decode cX6_stayOf 5 = .ok (.isub, 1) := by decide +kernel
theorem dX6_stayOf_6 : decode cX6_stayOf 6 = .ok (.istore_n 2, 1) := by decide +kernel
theorem dX6_stayOf_7 : decode cX6_stayOf 7 = .ok (.aload_n 0, 1) := by decide +kernel
theorem dX6_stayOf_8 : decode cX6_stayOf 8 = .ok (.getfield 50, 3) := by decide +kernel
theorem dX6_stayOf_11 : decode cX6_stayOf 11 = .ok (.iload_n 2, 1) := by decide +kernel
theorem dX6_stayOf_12 : decode cX6_stayOf 12 = .ok (.iaload, 1) := by decide +kernel
theorem dX6_stayOf_13 : decode cX6_stayOf 13 = .ok (.iload_n 1, 1) := by decide +kernel
theorem dX6_stayOf_14 : decode cX6_stayOf 14 = .ok (.if_icmp .eq 9, 3) := by decide +kernel
theorem dX6_stayOf_17 : decode cX6_stayOf 17 = .ok (.iinc 2 (-1), 3) := by decide +kernel
theorem dX6_stayOf_20 : decode cX6_stayOf 20 = .ok (.goto (-13), 3) := by decide +kernel
theorem dX6_stayOf_23 : decode cX6_stayOf 23 = .ok (.iload_n 2, 1) := by decide +kernel
theorem dX6_stayOf_24 : decode cX6_stayOf 24 = .ok (.ireturn, 1) := by decide +kernel
theorem dX6_houseOf_0 : decode cX6_houseOf 0 = .ok (.aload_n 0, 1) := by decide +kernel
theorem dX6_houseOf_1 : decode cX6_houseOf 1 = .ok (.getfield 56, 3) := by decide +kernel
theorem dX6_houseOf_4 : decode cX6_houseOf 4 = .ok (.aload_n 0, 1) := by decide +kernel
theorem dX6_houseOf_5 : decode cX6_houseOf 5 = .ok (.iload_n 1, 1) := by decide +kernel
theorem dX6_houseOf_6 : decode cX6_houseOf 6 = .ok (.invokevirtual 123, 3) := by decide +kernel
theorem dX6_houseOf_9 : decode cX6_houseOf 9 = .ok (.iaload, 1) := by decide +kernel
theorem dX6_houseOf_10 : decode cX6_houseOf 10 = .ok (.ireturn, 1) := by decide +kernel
theorem dX6_stay_0 : decode cX6_stay 0 = .ok (.aload_n 0, 1) := by decide +kernel
theorem dX6_stay_1 : decode cX6_stay 1 = .ok (.getfield 50, 3) := by decide +kernel
theorem dX6_stay_4 : decode cX6_stay 4 = .ok (.aload_n 0, 1) := by decide +kernel
theorem dX6_stay_5 : decode cX6_stay 5 = .ok (.getfield 120, 3) := by decide +kernel
theorem dX6_stay_8 : decode cX6_stay 8 = .ok (.iload_n 1, 1) := by decide +kernel
theorem dX6_stay_9 : decode cX6_stay 9 = .ok (.iastore, 1) := by decide +kernel
theorem dX6_stay_10 : decode cX6_stay 10 = .ok (.aload_n 0, 1) := by decide +kernel
theorem dX6_stay_11 : decode cX6_stay 11 = .ok (.getfield 53, 3) := by decide +kernel
theorem dX6_stay_14 : decode cX6_stay 14 = .ok (.aload_n 0, 1) := by decide +kernel
theorem dX6_stay_15 : decode cX6_stay 15 = .ok (.getfield 120, 3) := by decide +kernel
theorem dX6_stay_18 : decode cX6_stay 18 = .ok (.iload_n 2, 1) := by decide +kernel
theorem dX6_stay_19 : decode cX6_stay 19 = .ok (.iastore, 1) := by decide +kernel
theorem dX6_stay_20 : decode cX6_stay 20 = .ok (.aload_n 0, 1) := by decide +kernel
theorem dX6_stay_21 : decode cX6_stay 21 = .ok (.getfield 56, 3) := by decide +kernel
theorem dX6_stay_24 : decode cX6_stay 24 = .ok (.aload_n 0, 1) := by decide +kernel
theorem dX6_stay_25 : decode cX6_stay 25 = .ok (.getfield 120, 3) := by decide +kernel
theorem dX6_stay_28 : decode cX6_stay 28 = .ok (.iload_n 3, 1) := by decide +kernel
theorem dX6_stay_29 : decode cX6_stay 29 = .ok (.iastore, 1) := by decide +kernel
theorem dX6_stay_30 : decode cX6_stay 30 = .ok (.aload_n 0, 1) := by decide +kernel
theorem dX6_stay_31 : decode cX6_stay 31 = .ok (.getfield 59, 3) := by decide +kernel
theorem dX6_stay_34 : decode cX6_stay 34 = .ok (.aload_n 0, 1) := by decide +kernel
theorem dX6_stay_35 : decode cX6_stay 35 = .ok (.getfield 120, 3) := by decide +kernel
theorem dX6_stay_38 : decode cX6_stay 38 = .ok (.aload_n 0, 1) := by decide +kernel
theorem dX6_stay_39 : decode cX6_stay 39 = .ok (.getfield 68, 3) := by decide +kernel
theorem dX6_stay_42 : decode cX6_stay 42 = .ok (.iastore, 1) := by decide +kernel
theorem dX6_stay_43 : decode cX6_stay 43 = .ok (.aload_n 0, 1) := by decide +kernel
theorem dX6_stay_44 : decode cX6_stay 44 = .ok (.getfield 62, 3) := by decide +kernel
theorem dX6_stay_47 : decode cX6_stay 47 = .ok (.aload_n 0, 1) := by decide +kernel
theorem dX6_stay_48 : decode cX6_stay 48 = .ok (.getfield 120, 3) := by decide +kernel
theorem dX6_stay_51 : decode cX6_stay 51 = .ok (.ldc 126, 2) := by decide +kernel
theorem dX6_stay_53 : decode cX6_stay 53 = .ok (.iastore, 1) := by decide +kernel
theorem dX6_stay_54 : decode cX6_stay 54 = .ok (.aload_n 0, 1) := by decide +kernel
theorem dX6_stay_55 : decode cX6_stay 55 = .ok (.getfield 65, 3) := by decide +kernel
theorem dX6_stay_58 : decode cX6_stay 58 = .ok (.aload_n 0, 1) := by decide +kernel
theorem dX6_stay_59 : decode cX6_stay 59 = .ok (.getfield 120, 3) := by decide +kernel
theorem dX6_stay_62 : decode cX6_stay 62 = .ok (.iconst 0, 1) := by decide +kernel
theorem dX6_stay_63 : decode cX6_stay 63 = .ok (.bastore, 1) := by decide +kernel
theorem dX6_stay_64 : decode cX6_stay 64 = .ok (.aload_n 0, 1) := by decide +kernel
theorem dX6_stay_65 : decode cX6_stay 65 = .ok (.dup, 1) := by decide +kernel
theorem dX6_stay_66 : decode cX6_stay 66 = .ok (.getfield 120, 3) := by decide +kernel
theorem dX6_stay_69 : decode cX6_stay 69 = .ok (.iconst 1, 1) := by decide +kernel
theorem dX6_stay_70 : decode cX6_stay 70 = .ok (.iadd, 1) := by decide +kernel
theorem dX6_stay_71 : decode cX6_stay 71 = .ok (.putfield 120, 3) := by decide +kernel
theorem dX6_stay_74 : decode cX6_stay 74 = .ok (.return_, 1) := by decide +kernel
theorem dX6_endStay_0 : decode cX6_endStay 0 = .ok (.aload_n 0, 1) := by decide +kernel
theorem dX6_endStay_1 : decode cX6_endStay 1 = .ok (.iload_n 1, 1) := by decide +kernel
theorem dX6_endStay_2 : decode cX6_endStay 2 = .ok (.invokevirtual 123, 3) := by decide +kernel
theorem dX6_endStay_5 : decode cX6_endStay 5 = .ok (.istore_n 3, 1) := by decide +kernel
theorem dX6_endStay_6 : decode cX6_endStay 6 = .ok (.aload_n 0, 1) := by decide +kernel
theorem dX6_endStay_7 : decode cX6_endStay 7 = .ok (.getfield 62, 3) := by decide +kernel
theorem dX6_endStay_10 : decode cX6_endStay 10 = .ok (.iload_n 3, 1) := by decide +kernel
theorem dX6_endStay_11 : decode cX6_endStay 11 = .ok (.aload_n 0, 1) := by decide +kernel
theorem dX6_endStay_12 : decode cX6_endStay 12 = .ok (.getfield 68, 3) := by decide +kernel
theorem dX6_endStay_15 : decode cX6_endStay 15 = .ok (.iastore, 1) := by decide +kernel
theorem dX6_endStay_16 : decode cX6_endStay 16 = .ok (.aload_n 0, 1) := by decide +kernel
theorem dX6_endStay_17 : decode cX6_endStay 17 = .ok (.getfield 65, 3) := by decide +kernel
theorem dX6_endStay_20 : decode cX6_endStay 20 = .ok (.iload_n 3, 1) := by decide +kernel
theorem dX6_endStay_21 : decode cX6_endStay 21 = .ok (.iload_n 2, 1) := by decide +kernel
theorem dX6_endStay_22 : decode cX6_endStay 22 = .ok (.bastore, 1) := by decide +kernel
theorem dX6_endStay_23 : decode cX6_endStay 23 = .ok (.return_, 1) := by decide +kernel
theorem dX6_pointWith_0 : decode cX6_pointWith 0 = .ok (.iconst 0, 1) := by decide +kernel
theorem dX6_pointWith_1 : decode cX6_pointWith 1 = .ok (.istore 4, 2) := by decide +kernel
theorem dX6_pointWith_3 : decode cX6_pointWith 3 = .ok (.iload 4, 2) := by decide +kernel
theorem dX6_pointWith_5 : decode cX6_pointWith 5 = .ok (.aload_n 0, 1) := by decide +kernel
theorem dX6_pointWith_6 : decode cX6_pointWith 6 = .ok (.getfield 117, 3) := by decide +kernel
theorem dX6_pointWith_9 : decode cX6_pointWith 9 = .ok (.if_icmp .ge 54, 3) := by decide +kernel
theorem dX6_pointWith_12 : decode cX6_pointWith 12 = .ok (.aload_n 0, 1) := by decide +kernel
theorem dX6_pointWith_13 : decode cX6_pointWith 13 = .ok (.getfield 47, 3) := by decide +kernel
theorem dX6_pointWith_16 : decode cX6_pointWith 16 = .ok (.iload 4, 2) := by decide +kernel
theorem dX6_pointWith_18 : decode cX6_pointWith 18 = .ok (.baload, 1) := by decide +kernel
theorem dX6_pointWith_19 : decode cX6_pointWith 19 = .ok (.ifCond .eq 38, 3) := by decide +kernel
theorem dX6_pointWith_22 : decode cX6_pointWith 22 = .ok (.aload_n 0, 1) := by decide +kernel
theorem dX6_pointWith_23 : decode cX6_pointWith 23 = .ok (.getfield 41, 3) := by decide +kernel
theorem dX6_pointWith_26 : decode cX6_pointWith 26 = .ok (.iload 4, 2) := by decide +kernel
theorem dX6_pointWith_28 : decode cX6_pointWith 28 = .ok (.iaload, 1) := by decide +kernel
theorem dX6_pointWith_29 : decode cX6_pointWith 29 = .ok (.iload_n 1, 1) := by decide +kernel
theorem dX6_pointWith_30 : decode cX6_pointWith 30 = .ok (.if_icmp .ne 27, 3) := by decide +kernel
theorem dX6_pointWith_33 : decode cX6_pointWith 33 = .ok (.aload_n 0, 1) := by decide +kernel
theorem dX6_pointWith_34 : decode cX6_pointWith 34 = .ok (.getfield 44, 3) := by decide +kernel
theorem dX6_pointWith_37 : decode cX6_pointWith 37 = .ok (.iload 4, 2) := by decide +kernel
theorem dX6_pointWith_39 : decode cX6_pointWith 39 = .ok (.iaload, 1) := by decide +kernel
theorem dX6_pointWith_40 : decode cX6_pointWith 40 = .ok (.iload_n 3, 1) := by decide +kernel
theorem dX6_pointWith_41 : decode cX6_pointWith 41 = .ok (.if_icmp .ne 16, 3) := by decide +kernel
theorem dX6_pointWith_44 : decode cX6_pointWith 44 = .ok (.aload_n 0, 1) := by decide +kernel
theorem dX6_pointWith_45 : decode cX6_pointWith 45 = .ok (.iload 4, 2) := by decide +kernel
theorem dX6_pointWith_47 : decode cX6_pointWith 47 = .ok (.invokevirtual 127, 3) := by decide +kernel
theorem dX6_pointWith_50 : decode cX6_pointWith 50 = .ok (.iload_n 2, 1) := by decide +kernel
theorem dX6_pointWith_51 : decode cX6_pointWith 51 = .ok (.if_icmp .ne 6, 3) := by decide +kernel
theorem dX6_pointWith_54 : decode cX6_pointWith 54 = .ok (.iload 4, 2) := by decide +kernel
theorem dX6_pointWith_56 : decode cX6_pointWith 56 = .ok (.ireturn, 1) := by decide +kernel
theorem dX6_pointWith_57 : decode cX6_pointWith 57 = .ok (.iinc 4 1, 3) := by decide +kernel
theorem dX6_pointWith_60 : decode cX6_pointWith 60 = .ok (.goto (-57), 3) := by decide +kernel
theorem dX6_pointWith_63 : decode cX6_pointWith 63 = .ok (.iconst (-1), 1) := by decide +kernel
theorem dX6_pointWith_64 : decode cX6_pointWith 64 = .ok (.ireturn, 1) := by decide +kernel
theorem dX6_point_0 : decode cX6_point 0 = .ok (.aload_n 0, 1) := by decide +kernel
theorem dX6_point_1 : decode cX6_point 1 = .ok (.iload_n 1, 1) := by decide +kernel
theorem dX6_point_2 : decode cX6_point 2 = .ok (.invokevirtual 130, 3) := by decide +kernel
theorem dX6_point_5 : decode cX6_point 5 = .ok (.ifCond .ne 6, 3) := by decide +kernel
theorem dX6_point_8 : decode cX6_point 8 = .ok (.bipush (-11), 2) := by decide +kernel
theorem dX6_point_10 : decode cX6_point 10 = .ok (.ireturn, 1) := by decide +kernel
theorem dX6_point_11 : decode cX6_point 11 = .ok (.aload_n 0, 1) := by decide +kernel
theorem dX6_point_12 : decode cX6_point 12 = .ok (.iload_n 1, 1) := by decide +kernel
theorem dX6_point_13 : decode cX6_point 13 = .ok (.iload_n 2, 1) := by decide +kernel
theorem dX6_point_14 : decode cX6_point 14 = .ok (.invokevirtual 96, 3) := by decide +kernel
theorem dX6_point_17 : decode cX6_point 17 = .ok (.ifCond .eq 13, 3) := by decide +kernel
theorem dX6_point_20 : decode cX6_point 20 = .ok (.iload_n 3, 1) := by decide +kernel
theorem dX6_point_21 : decode cX6_point 21 = .ok (.iconst 0, 1) := by decide +kernel
theorem dX6_point_22 : decode cX6_point 22 = .ok (.bipush 25, 2) := by decide +kernel
theorem dX6_point_24 : decode cX6_point 24 = .ok (.invokestatic 73, 3) := by decide +kernel
theorem dX6_point_27 : decode cX6_point 27 = .ok (.ifCond .ne 6, 3) := by decide +kernel
theorem dX6_point_30 : decode cX6_point 30 = .ok (.bipush (-12), 2) := by decide +kernel
theorem dX6_point_32 : decode cX6_point 32 = .ok (.ireturn, 1) := by decide +kernel
theorem dX6_point_33 : decode cX6_point 33 = .ok (.aload_n 0, 1) := by decide +kernel
theorem dX6_point_34 : decode cX6_point 34 = .ok (.getfield 37, 3) := by decide +kernel
theorem dX6_point_37 : decode cX6_point 37 = .ok (.iload_n 1, 1) := by decide +kernel
theorem dX6_point_38 : decode cX6_point 38 = .ok (.baload, 1) := by decide +kernel
theorem dX6_point_39 : decode cX6_point 39 = .ok (.ifCond .eq 13, 3) := by decide +kernel
theorem dX6_point_42 : decode cX6_point 42 = .ok (.aload_n 0, 1) := by decide +kernel
theorem dX6_point_43 : decode cX6_point 43 = .ok (.iload_n 1, 1) := by decide +kernel
theorem dX6_point_44 : decode cX6_point 44 = .ok (.iload_n 2, 1) := by decide +kernel
theorem dX6_point_45 : decode cX6_point 45 = .ok (.iload_n 3, 1) := by decide +kernel
theorem dX6_point_46 : decode cX6_point 46 = .ok (.invokevirtual 133, 3) := by decide +kernel
theorem dX6_point_49 : decode cX6_point 49 = .ok (.ifCond .lt 6, 3) := by decide +kernel
theorem dX6_point_52 : decode cX6_point 52 = .ok (.bipush (-13), 2) := by decide +kernel
theorem dX6_point_54 : decode cX6_point 54 = .ok (.ireturn, 1) := by decide +kernel
theorem dX6_point_55 : decode cX6_point 55 = .ok (.aload_n 0, 1) := by decide +kernel
theorem dX6_point_56 : decode cX6_point 56 = .ok (.getfield 117, 3) := by decide +kernel
theorem dX6_point_59 : decode cX6_point 59 = .ok (.bipush 120, 2) := by decide +kernel
theorem dX6_point_61 : decode cX6_point 61 = .ok (.if_icmp .ne 6, 3) := by decide +kernel
theorem dX6_point_64 : decode cX6_point 64 = .ok (.bipush (-14), 2) := by decide +kernel
theorem dX6_point_66 : decode cX6_point 66 = .ok (.ireturn, 1) := by decide +kernel
theorem dX6_point_67 : decode cX6_point 67 = .ok (.aload_n 0, 1) := by decide +kernel
theorem dX6_point_68 : decode cX6_point 68 = .ok (.getfield 41, 3) := by decide +kernel
theorem dX6_point_71 : decode cX6_point 71 = .ok (.aload_n 0, 1) := by decide +kernel
theorem dX6_point_72 : decode cX6_point 72 = .ok (.getfield 117, 3) := by decide +kernel
theorem dX6_point_75 : decode cX6_point 75 = .ok (.iload_n 1, 1) := by decide +kernel
theorem dX6_point_76 : decode cX6_point 76 = .ok (.iastore, 1) := by decide +kernel
theorem dX6_point_77 : decode cX6_point 77 = .ok (.aload_n 0, 1) := by decide +kernel
theorem dX6_point_78 : decode cX6_point 78 = .ok (.getfield 44, 3) := by decide +kernel
theorem dX6_point_81 : decode cX6_point 81 = .ok (.aload_n 0, 1) := by decide +kernel
theorem dX6_point_82 : decode cX6_point 82 = .ok (.getfield 117, 3) := by decide +kernel
theorem dX6_point_85 : decode cX6_point 85 = .ok (.iload_n 3, 1) := by decide +kernel
theorem dX6_point_86 : decode cX6_point 86 = .ok (.iastore, 1) := by decide +kernel
theorem dX6_point_87 : decode cX6_point 87 = .ok (.aload_n 0, 1) := by decide +kernel
theorem dX6_point_88 : decode cX6_point 88 = .ok (.getfield 47, 3) := by decide +kernel
theorem dX6_point_91 : decode cX6_point 91 = .ok (.aload_n 0, 1) := by decide +kernel
theorem dX6_point_92 : decode cX6_point 92 = .ok (.getfield 117, 3) := by decide +kernel
theorem dX6_point_95 : decode cX6_point 95 = .ok (.iconst 1, 1) := by decide +kernel
theorem dX6_point_96 : decode cX6_point 96 = .ok (.bastore, 1) := by decide +kernel
theorem dX6_point_97 : decode cX6_point 97 = .ok (.aload_n 0, 1) := by decide +kernel
theorem dX6_point_98 : decode cX6_point 98 = .ok (.dup, 1) := by decide +kernel
theorem dX6_point_99 : decode cX6_point 99 = .ok (.getfield 117, 3) := by decide +kernel
theorem dX6_point_102 : decode cX6_point 102 = .ok (.iconst 1, 1) := by decide +kernel
theorem dX6_point_103 : decode cX6_point 103 = .ok (.iadd, 1) := by decide +kernel
theorem dX6_point_104 : decode cX6_point 104 = .ok (.putfield 117, 3) := by decide +kernel
theorem dX6_point_107 : decode cX6_point 107 = .ok (.aload_n 0, 1) := by decide +kernel
theorem dX6_point_108 : decode cX6_point 108 = .ok (.aload_n 0, 1) := by decide +kernel
theorem dX6_point_109 : decode cX6_point 109 = .ok (.getfield 117, 3) := by decide +kernel
theorem dX6_point_112 : decode cX6_point 112 = .ok (.iconst 1, 1) := by decide +kernel
theorem dX6_point_113 : decode cX6_point 113 = .ok (.isub, 1) := by decide +kernel
theorem dX6_point_114 : decode cX6_point 114 = .ok (.aload_n 0, 1) := by decide +kernel
theorem dX6_point_115 : decode cX6_point 115 = .ok (.getfield 25, 3) := by decide +kernel
theorem dX6_point_118 : decode cX6_point 118 = .ok (.iload_n 1, 1) := by decide +kernel
theorem dX6_point_119 : decode cX6_point 119 = .ok (.iaload, 1) := by decide +kernel
theorem dX6_point_120 : decode cX6_point 120 = .ok (.iload_n 2, 1) := by decide +kernel
theorem dX6_point_121 : decode cX6_point 121 = .ok (.invokevirtual 137, 3) := by decide +kernel
theorem dX6_point_124 : decode cX6_point 124 = .ok (.aload_n 0, 1) := by decide +kernel
theorem dX6_point_125 : decode cX6_point 125 = .ok (.getfield 117, 3) := by decide +kernel
theorem dX6_point_128 : decode cX6_point 128 = .ok (.iconst 1, 1) := by decide +kernel
theorem dX6_point_129 : decode cX6_point 129 = .ok (.isub, 1) := by decide +kernel
theorem dX6_point_130 : decode cX6_point 130 = .ok (.ireturn, 1) := by decide +kernel
theorem dX6_close_0 : decode cX6_close 0 = .ok (.iconst 0, 1) := by decide +kernel
theorem dX6_close_1 : decode cX6_close 1 = .ok (.istore_n 2, 1) := by decide +kernel
theorem dX6_close_2 : decode cX6_close 2 = .ok (.aload_n 0, 1) := by decide +kernel
theorem dX6_close_3 : decode cX6_close 3 = .ok (.getfield 37, 3) := by decide +kernel
theorem dX6_close_6 : decode cX6_close 6 = .ok (.iload_n 1, 1) := by decide +kernel
theorem dX6_close_7 : decode cX6_close 7 = .ok (.iconst 0, 1) := by decide +kernel
theorem dX6_close_8 : decode cX6_close 8 = .ok (.bastore, 1) := by decide +kernel
theorem dX6_close_9 : decode cX6_close 9 = .ok (.iconst 0, 1) := by decide +kernel
theorem dX6_close_10 : decode cX6_close 10 = .ok (.istore_n 3, 1) := by decide +kernel
theorem dX6_close_11 : decode cX6_close 11 = .ok (.iload_n 3, 1) := by decide +kernel
theorem dX6_close_12 : decode cX6_close 12 = .ok (.aload_n 0, 1) := by decide +kernel
theorem dX6_close_13 : decode cX6_close 13 = .ok (.getfield 117, 3) := by decide +kernel
theorem dX6_close_16 : decode cX6_close 16 = .ok (.if_icmp .ge 44, 3) := by decide +kernel
theorem dX6_close_19 : decode cX6_close 19 = .ok (.aload_n 0, 1) := by decide +kernel
theorem dX6_close_20 : decode cX6_close 20 = .ok (.getfield 47, 3) := by decide +kernel
theorem dX6_close_23 : decode cX6_close 23 = .ok (.iload_n 3, 1) := by decide +kernel
theorem dX6_close_24 : decode cX6_close 24 = .ok (.baload, 1) := by decide +kernel
theorem dX6_close_25 : decode cX6_close 25 = .ok (.ifCond .eq 29, 3) := by decide +kernel
theorem dX6_close_28 : decode cX6_close 28 = .ok (.aload_n 0, 1) := by decide +kernel
theorem dX6_close_29 : decode cX6_close 29 = .ok (.getfield 41, 3) := by decide +kernel
theorem dX6_close_32 : decode cX6_close 32 = .ok (.iload_n 3, 1) := by decide +kernel
theorem dX6_close_33 : decode cX6_close 33 = .ok (.iaload, 1) := by decide +kernel
theorem dX6_close_34 : decode cX6_close 34 = .ok (.iload_n 1, 1) := by decide +kernel
theorem dX6_close_35 : decode cX6_close 35 = .ok (.if_icmp .ne 19, 3) := by decide +kernel
theorem dX6_close_38 : decode cX6_close 38 = .ok (.aload_n 0, 1) := by decide +kernel
theorem dX6_close_39 : decode cX6_close 39 = .ok (.getfield 47, 3) := by decide +kernel
theorem dX6_close_42 : decode cX6_close 42 = .ok (.iload_n 3, 1) := by decide +kernel
theorem dX6_close_43 : decode cX6_close 43 = .ok (.iconst 0, 1) := by decide +kernel
theorem dX6_close_44 : decode cX6_close 44 = .ok (.bastore, 1) := by decide +kernel
theorem dX6_close_45 : decode cX6_close 45 = .ok (.aload_n 0, 1) := by decide +kernel
theorem dX6_close_46 : decode cX6_close 46 = .ok (.iload_n 3, 1) := by decide +kernel
theorem dX6_close_47 : decode cX6_close 47 = .ok (.iconst 0, 1) := by decide +kernel
theorem dX6_close_48 : decode cX6_close 48 = .ok (.invokevirtual 141, 3) := by decide +kernel
theorem dX6_close_51 : decode cX6_close 51 = .ok (.iinc 2 1, 3) := by decide +kernel
theorem dX6_close_54 : decode cX6_close 54 = .ok (.iinc 3 1, 3) := by decide +kernel
theorem dX6_close_57 : decode cX6_close 57 = .ok (.goto (-46), 3) := by decide +kernel
theorem dX6_close_60 : decode cX6_close 60 = .ok (.iload_n 2, 1) := by decide +kernel
theorem dX6_close_61 : decode cX6_close 61 = .ok (.ireturn, 1) := by decide +kernel
theorem dX6_split_0 : decode cX6_split 0 = .ok (.iconst 0, 1) := by decide +kernel
theorem dX6_split_1 : decode cX6_split 1 = .ok (.istore_n 3, 1) := by decide +kernel
theorem dX6_split_2 : decode cX6_split 2 = .ok (.aload_n 0, 1) := by decide +kernel
theorem dX6_split_3 : decode cX6_split 3 = .ok (.iload_n 1, 1) := by decide +kernel
theorem dX6_split_4 : decode cX6_split 4 = .ok (.invokevirtual 145, 3) := by decide +kernel
theorem dX6_split_7 : decode cX6_split 7 = .ok (.istore 4, 2) := by decide +kernel
theorem dX6_split_9 : decode cX6_split 9 = .ok (.aload_n 0, 1) := by decide +kernel
theorem dX6_split_10 : decode cX6_split 10 = .ok (.getfield 37, 3) := by decide +kernel
theorem dX6_split_13 : decode cX6_split 13 = .ok (.iload_n 1, 1) := by decide +kernel
theorem dX6_split_14 : decode cX6_split 14 = .ok (.iconst 0, 1) := by decide +kernel
theorem dX6_split_15 : decode cX6_split 15 = .ok (.bastore, 1) := by decide +kernel
theorem dX6_split_16 : decode cX6_split 16 = .ok (.aload_n 0, 1) := by decide +kernel
theorem dX6_split_17 : decode cX6_split 17 = .ok (.aload_n 0, 1) := by decide +kernel
theorem dX6_split_18 : decode cX6_split 18 = .ok (.getfield 25, 3) := by decide +kernel
theorem dX6_split_21 : decode cX6_split 21 = .ok (.iload_n 1, 1) := by decide +kernel
theorem dX6_split_22 : decode cX6_split 22 = .ok (.iaload, 1) := by decide +kernel
theorem dX6_split_23 : decode cX6_split 23 = .ok (.aload_n 0, 1) := by decide +kernel
theorem dX6_split_24 : decode cX6_split 24 = .ok (.getfield 28, 3) := by decide +kernel
theorem dX6_split_27 : decode cX6_split 27 = .ok (.iload_n 1, 1) := by decide +kernel
theorem dX6_split_28 : decode cX6_split 28 = .ok (.iaload, 1) := by decide +kernel
theorem dX6_split_29 : decode cX6_split 29 = .ok (.aload_n 0, 1) := by decide +kernel
theorem dX6_split_30 : decode cX6_split 30 = .ok (.iload_n 1, 1) := by decide +kernel
theorem dX6_split_31 : decode cX6_split 31 = .ok (.invokevirtual 148, 3) := by decide +kernel
theorem dX6_split_34 : decode cX6_split 34 = .ok (.iload_n 2, 1) := by decide +kernel
theorem dX6_split_35 : decode cX6_split 35 = .ok (.iconst 1, 1) := by decide +kernel
theorem dX6_split_36 : decode cX6_split 36 = .ok (.isub, 1) := by decide +kernel
theorem dX6_split_37 : decode cX6_split 37 = .ok (.invokevirtual 113, 3) := by decide +kernel
theorem dX6_split_40 : decode cX6_split 40 = .ok (.aload_n 0, 1) := by decide +kernel
theorem dX6_split_41 : decode cX6_split 41 = .ok (.aload_n 0, 1) := by decide +kernel
theorem dX6_split_42 : decode cX6_split 42 = .ok (.getfield 25, 3) := by decide +kernel
theorem dX6_split_45 : decode cX6_split 45 = .ok (.iload_n 1, 1) := by decide +kernel
theorem dX6_split_46 : decode cX6_split 46 = .ok (.iaload, 1) := by decide +kernel
theorem dX6_split_47 : decode cX6_split 47 = .ok (.aload_n 0, 1) := by decide +kernel
theorem dX6_split_48 : decode cX6_split 48 = .ok (.getfield 28, 3) := by decide +kernel
theorem dX6_split_51 : decode cX6_split 51 = .ok (.iload_n 1, 1) := by decide +kernel
theorem dX6_split_52 : decode cX6_split 52 = .ok (.iaload, 1) := by decide +kernel
theorem dX6_split_53 : decode cX6_split 53 = .ok (.iload_n 2, 1) := by decide +kernel
theorem dX6_split_54 : decode cX6_split 54 = .ok (.iload 4, 2) := by decide +kernel
theorem dX6_split_56 : decode cX6_split 56 = .ok (.invokevirtual 113, 3) := by decide +kernel
theorem dX6_split_59 : decode cX6_split 59 = .ok (.iconst 0, 1) := by decide +kernel
theorem dX6_split_60 : decode cX6_split 60 = .ok (.istore 5, 2) := by decide +kernel
theorem dX6_split_62 : decode cX6_split 62 = .ok (.iload 5, 2) := by decide +kernel
theorem dX6_split_64 : decode cX6_split 64 = .ok (.aload_n 0, 1) := by decide +kernel
theorem dX6_split_65 : decode cX6_split 65 = .ok (.getfield 117, 3) := by decide +kernel
theorem dX6_split_68 : decode cX6_split 68 = .ok (.if_icmp .ge 65, 3) := by decide +kernel
theorem dX6_split_71 : decode cX6_split 71 = .ok (.aload_n 0, 1) := by decide +kernel
theorem dX6_split_72 : decode cX6_split 72 = .ok (.getfield 47, 3) := by decide +kernel
theorem dX6_split_75 : decode cX6_split 75 = .ok (.iload 5, 2) := by decide +kernel
theorem dX6_split_77 : decode cX6_split 77 = .ok (.baload, 1) := by decide +kernel
theorem dX6_split_78 : decode cX6_split 78 = .ok (.ifCond .eq 49, 3) := by decide +kernel
theorem dX6_split_81 : decode cX6_split 81 = .ok (.aload_n 0, 1) := by decide +kernel
theorem dX6_split_82 : decode cX6_split 82 = .ok (.getfield 41, 3) := by decide +kernel
theorem dX6_split_85 : decode cX6_split 85 = .ok (.iload 5, 2) := by decide +kernel
theorem dX6_split_87 : decode cX6_split 87 = .ok (.iaload, 1) := by decide +kernel
theorem dX6_split_88 : decode cX6_split 88 = .ok (.iload_n 1, 1) := by decide +kernel
theorem dX6_split_89 : decode cX6_split 89 = .ok (.if_icmp .ne 38, 3) := by decide +kernel
theorem dX6_split_92 : decode cX6_split 92 = .ok (.aload_n 0, 1) := by decide +kernel
theorem dX6_split_93 : decode cX6_split 93 = .ok (.getfield 41, 3) := by decide +kernel
theorem dX6_split_96 : decode cX6_split 96 = .ok (.iload 5, 2) := by decide +kernel
theorem dX6_split_98 : decode cX6_split 98 = .ok (.aload_n 0, 1) := by decide +kernel
theorem dX6_split_99 : decode cX6_split 99 = .ok (.iload 5, 2) := by decide +kernel
theorem dX6_split_101 : decode cX6_split 101 = .ok (.invokevirtual 127, 3) := by decide +kernel
theorem dX6_split_104 : decode cX6_split 104 = .ok (.iload_n 2, 1) := by decide +kernel
theorem dX6_split_105 : decode cX6_split 105 = .ok (.if_icmp .ge 12, 3) := by decide +kernel
theorem dX6_split_108 : decode cX6_split 108 = .ok (.aload_n 0, 1) := by decide +kernel
theorem dX6_split_109 : decode cX6_split 109 = .ok (.getfield 99, 3) := by decide +kernel
theorem dX6_split_112 : decode cX6_split 112 = .ok (.iconst 2, 1) := by decide +kernel
theorem dX6_split_113 : decode cX6_split 113 = .ok (.isub, 1) := by decide +kernel
theorem dX6_split_114 : decode cX6_split 114 = .ok (.goto 9, 3) := by decide +kernel
theorem dX6_split_117 : decode cX6_split 117 = .ok (.aload_n 0, 1) := by decide +kernel
theorem dX6_split_118 : decode cX6_split 118 = .ok (.getfield 99, 3) := by decide +kernel
theorem dX6_split_121 : decode cX6_split 121 = .ok (.iconst 1, 1) := by decide +kernel
theorem dX6_split_122 : decode cX6_split 122 = .ok (.isub, 1) := by decide +kernel
theorem dX6_split_123 : decode cX6_split 123 = .ok (.iastore, 1) := by decide +kernel
theorem dX6_split_124 : decode cX6_split 124 = .ok (.iinc 3 1, 3) := by decide +kernel
theorem dX6_split_127 : decode cX6_split 127 = .ok (.iinc 5 1, 3) := by decide +kernel
theorem dX6_split_130 : decode cX6_split 130 = .ok (.goto (-68), 3) := by decide +kernel
theorem dX6_split_133 : decode cX6_split 133 = .ok (.iload_n 3, 1) := by decide +kernel
theorem dX6_split_134 : decode cX6_split 134 = .ok (.ireturn, 1) := by decide +kernel
theorem dX6_join_0 : decode cX6_join 0 = .ok (.iconst 0, 1) := by decide +kernel
theorem dX6_join_1 : decode cX6_join 1 = .ok (.istore_n 3, 1) := by decide +kernel
theorem dX6_join_2 : decode cX6_join 2 = .ok (.aload_n 0, 1) := by decide +kernel
theorem dX6_join_3 : decode cX6_join 3 = .ok (.getfield 19, 3) := by decide +kernel
theorem dX6_join_6 : decode cX6_join 6 = .ok (.iload_n 1, 1) := by decide +kernel
theorem dX6_join_7 : decode cX6_join 7 = .ok (.iload_n 2, 1) := by decide +kernel
theorem dX6_join_8 : decode cX6_join 8 = .ok (.iastore, 1) := by decide +kernel
theorem dX6_join_9 : decode cX6_join 9 = .ok (.aload_n 0, 1) := by decide +kernel
theorem dX6_join_10 : decode cX6_join 10 = .ok (.getfield 22, 3) := by decide +kernel
theorem dX6_join_13 : decode cX6_join 13 = .ok (.iload_n 1, 1) := by decide +kernel
theorem dX6_join_14 : decode cX6_join 14 = .ok (.aload_n 0, 1) := by decide +kernel
theorem dX6_join_15 : decode cX6_join 15 = .ok (.getfield 68, 3) := by decide +kernel
theorem dX6_join_18 : decode cX6_join 18 = .ok (.iastore, 1) := by decide +kernel
theorem dX6_join_19 : decode cX6_join 19 = .ok (.iconst 0, 1) := by decide +kernel
theorem dX6_join_20 : decode cX6_join 20 = .ok (.istore 4, 2) := by decide +kernel
theorem dX6_join_22 : decode cX6_join 22 = .ok (.iload 4, 2) := by decide +kernel
theorem dX6_join_24 : decode cX6_join 24 = .ok (.aload_n 0, 1) := by decide +kernel
theorem dX6_join_25 : decode cX6_join 25 = .ok (.getfield 99, 3) := by decide +kernel
theorem dX6_join_28 : decode cX6_join 28 = .ok (.if_icmp .ge 105, 3) := by decide +kernel
theorem dX6_join_31 : decode cX6_join 31 = .ok (.aload_n 0, 1) := by decide +kernel
theorem dX6_join_32 : decode cX6_join 32 = .ok (.getfield 37, 3) := by decide +kernel
theorem dX6_join_35 : decode cX6_join 35 = .ok (.iload 4, 2) := by decide +kernel
theorem dX6_join_37 : decode cX6_join 37 = .ok (.baload, 1) := by decide +kernel
theorem dX6_join_38 : decode cX6_join 38 = .ok (.ifCond .eq 89, 3) := by decide +kernel
theorem dX6_join_41 : decode cX6_join 41 = .ok (.aload_n 0, 1) := by decide +kernel
theorem dX6_join_42 : decode cX6_join 42 = .ok (.getfield 25, 3) := by decide +kernel
theorem dX6_join_45 : decode cX6_join 45 = .ok (.iload 4, 2) := by decide +kernel
theorem dX6_join_47 : decode cX6_join 47 = .ok (.iaload, 1) := by decide +kernel
theorem dX6_join_48 : decode cX6_join 48 = .ok (.iload_n 1, 1) := by decide +kernel
theorem dX6_join_49 : decode cX6_join 49 = .ok (.if_icmp .ne 78, 3) := by decide +kernel
theorem dX6_join_52 : decode cX6_join 52 = .ok (.aload_n 0, 1) := by decide +kernel
theorem dX6_join_53 : decode cX6_join 53 = .ok (.getfield 25, 3) := by decide +kernel
theorem dX6_join_56 : decode cX6_join 56 = .ok (.iload 4, 2) := by decide +kernel
theorem dX6_join_58 : decode cX6_join 58 = .ok (.iload_n 2, 1) := by decide +kernel
theorem dX6_join_59 : decode cX6_join 59 = .ok (.iastore, 1) := by decide +kernel
theorem dX6_join_60 : decode cX6_join 60 = .ok (.iconst 0, 1) := by decide +kernel
theorem dX6_join_61 : decode cX6_join 61 = .ok (.istore 5, 2) := by decide +kernel
theorem dX6_join_63 : decode cX6_join 63 = .ok (.iload 5, 2) := by decide +kernel
theorem dX6_join_65 : decode cX6_join 65 = .ok (.aload_n 0, 1) := by decide +kernel
theorem dX6_join_66 : decode cX6_join 66 = .ok (.getfield 117, 3) := by decide +kernel
theorem dX6_join_69 : decode cX6_join 69 = .ok (.if_icmp .ge 58, 3) := by decide +kernel
theorem dX6_join_72 : decode cX6_join 72 = .ok (.aload_n 0, 1) := by decide +kernel
theorem dX6_join_73 : decode cX6_join 73 = .ok (.getfield 47, 3) := by decide +kernel
theorem dX6_join_76 : decode cX6_join 76 = .ok (.iload 5, 2) := by decide +kernel
theorem dX6_join_78 : decode cX6_join 78 = .ok (.baload, 1) := by decide +kernel
theorem dX6_join_79 : decode cX6_join 79 = .ok (.ifCond .eq 42, 3) := by decide +kernel
theorem dX6_join_82 : decode cX6_join 82 = .ok (.aload_n 0, 1) := by decide +kernel
theorem dX6_join_83 : decode cX6_join 83 = .ok (.getfield 41, 3) := by decide +kernel
theorem dX6_join_86 : decode cX6_join 86 = .ok (.iload 5, 2) := by decide +kernel
theorem dX6_join_88 : decode cX6_join 88 = .ok (.iaload, 1) := by decide +kernel
theorem dX6_join_89 : decode cX6_join 89 = .ok (.iload 4, 2) := by decide +kernel
theorem dX6_join_91 : decode cX6_join 91 = .ok (.if_icmp .ne 30, 3) := by decide +kernel
theorem dX6_join_94 : decode cX6_join 94 = .ok (.aload_n 0, 1) := by decide +kernel
theorem dX6_join_95 : decode cX6_join 95 = .ok (.iload 5, 2) := by decide +kernel
theorem dX6_join_97 : decode cX6_join 97 = .ok (.invokevirtual 127, 3) := by decide +kernel
theorem dX6_join_100 : decode cX6_join 100 = .ok (.istore 6, 2) := by decide +kernel
theorem dX6_join_102 : decode cX6_join 102 = .ok (.aload_n 0, 1) := by decide +kernel
theorem dX6_join_103 : decode cX6_join 103 = .ok (.iload 5, 2) := by decide +kernel
theorem dX6_join_105 : decode cX6_join 105 = .ok (.iconst 0, 1) := by decide +kernel
theorem dX6_join_106 : decode cX6_join 106 = .ok (.invokevirtual 141, 3) := by decide +kernel
theorem dX6_join_109 : decode cX6_join 109 = .ok (.aload_n 0, 1) := by decide +kernel
theorem dX6_join_110 : decode cX6_join 110 = .ok (.iload 5, 2) := by decide +kernel
theorem dX6_join_112 : decode cX6_join 112 = .ok (.iload_n 2, 1) := by decide +kernel
theorem dX6_join_113 : decode cX6_join 113 = .ok (.iload 6, 2) := by decide +kernel
theorem dX6_join_115 : decode cX6_join 115 = .ok (.invokevirtual 137, 3) := by decide +kernel
theorem dX6_join_118 : decode cX6_join 118 = .ok (.iinc 3 1, 3) := by decide +kernel
theorem dX6_join_121 : decode cX6_join 121 = .ok (.iinc 5 1, 3) := by decide +kernel
theorem dX6_join_124 : decode cX6_join 124 = .ok (.goto (-61), 3) := by decide +kernel
theorem dX6_join_127 : decode cX6_join 127 = .ok (.iinc 4 1, 3) := by decide +kernel
theorem dX6_join_130 : decode cX6_join 130 = .ok (.goto (-108), 3) := by decide +kernel
theorem dX6_join_133 : decode cX6_join 133 = .ok (.iload_n 3, 1) := by decide +kernel
theorem dX6_join_134 : decode cX6_join 134 = .ok (.ireturn, 1) := by decide +kernel
theorem dX6_clash_0 : decode cX6_clash 0 = .ok (.iconst 0, 1) := by decide +kernel
theorem dX6_clash_1 : decode cX6_clash 1 = .ok (.istore_n 3, 1) := by decide +kernel
theorem dX6_clash_2 : decode cX6_clash 2 = .ok (.iload_n 3, 1) := by decide +kernel
theorem dX6_clash_3 : decode cX6_clash 3 = .ok (.aload_n 0, 1) := by decide +kernel
theorem dX6_clash_4 : decode cX6_clash 4 = .ok (.getfield 99, 3) := by decide +kernel
theorem dX6_clash_7 : decode cX6_clash 7 = .ok (.if_icmp .ge 110, 3) := by decide +kernel
theorem dX6_clash_10 : decode cX6_clash 10 = .ok (.iconst 0, 1) := by decide +kernel
theorem dX6_clash_11 : decode cX6_clash 11 = .ok (.istore 4, 2) := by decide +kernel
theorem dX6_clash_13 : decode cX6_clash 13 = .ok (.iload 4, 2) := by decide +kernel
theorem dX6_clash_15 : decode cX6_clash 15 = .ok (.aload_n 0, 1) := by decide +kernel
theorem dX6_clash_16 : decode cX6_clash 16 = .ok (.getfield 99, 3) := by decide +kernel
theorem dX6_clash_19 : decode cX6_clash 19 = .ok (.if_icmp .ge 92, 3) := by decide +kernel
theorem dX6_clash_22 : decode cX6_clash 22 = .ok (.aload_n 0, 1) := by decide +kernel
theorem dX6_clash_23 : decode cX6_clash 23 = .ok (.getfield 37, 3) := by decide +kernel
theorem dX6_clash_26 : decode cX6_clash 26 = .ok (.iload_n 3, 1) := by decide +kernel
theorem dX6_clash_27 : decode cX6_clash 27 = .ok (.baload, 1) := by decide +kernel
theorem dX6_clash_28 : decode cX6_clash 28 = .ok (.ifCond .eq 38, 3) := by decide +kernel
theorem dX6_clash_31 : decode cX6_clash 31 = .ok (.aload_n 0, 1) := by decide +kernel
theorem dX6_clash_32 : decode cX6_clash 32 = .ok (.getfield 37, 3) := by decide +kernel
theorem dX6_clash_35 : decode cX6_clash 35 = .ok (.iload 4, 2) := by decide +kernel
theorem dX6_clash_37 : decode cX6_clash 37 = .ok (.baload, 1) := by decide +kernel
theorem dX6_clash_38 : decode cX6_clash 38 = .ok (.ifCond .eq 28, 3) := by decide +kernel
theorem dX6_clash_41 : decode cX6_clash 41 = .ok (.aload_n 0, 1) := by decide +kernel
theorem dX6_clash_42 : decode cX6_clash 42 = .ok (.getfield 25, 3) := by decide +kernel
theorem dX6_clash_45 : decode cX6_clash 45 = .ok (.iload_n 3, 1) := by decide +kernel
theorem dX6_clash_46 : decode cX6_clash 46 = .ok (.iaload, 1) := by decide +kernel
theorem dX6_clash_47 : decode cX6_clash 47 = .ok (.iload_n 2, 1) := by decide +kernel
theorem dX6_clash_48 : decode cX6_clash 48 = .ok (.if_icmp .ne 18, 3) := by decide +kernel
theorem dX6_clash_51 : decode cX6_clash 51 = .ok (.aload_n 0, 1) := by decide +kernel
theorem dX6_clash_52 : decode cX6_clash 52 = .ok (.getfield 25, 3) := by decide +kernel
theorem dX6_clash_55 : decode cX6_clash 55 = .ok (.iload 4, 2) := by decide +kernel
theorem dX6_clash_57 : decode cX6_clash 57 = .ok (.iaload, 1) := by decide +kernel
theorem dX6_clash_58 : decode cX6_clash 58 = .ok (.iload_n 1, 1) := by decide +kernel
theorem dX6_clash_59 : decode cX6_clash 59 = .ok (.if_icmp .ne 7, 3) := by decide +kernel
theorem dX6_clash_62 : decode cX6_clash 62 = .ok (.iconst 1, 1) := by decide +kernel
theorem dX6_clash_63 : decode cX6_clash 63 = .ok (.goto 4, 3) := by decide +kernel
theorem dX6_clash_66 : decode cX6_clash 66 = .ok (.iconst 0, 1) := by decide +kernel
theorem dX6_clash_67 : decode cX6_clash 67 = .ok (.istore 5, 2) := by decide +kernel
theorem dX6_clash_69 : decode cX6_clash 69 = .ok (.iload 5, 2) := by decide +kernel
theorem dX6_clash_71 : decode cX6_clash 71 = .ok (.ifCond .eq 34, 3) := by decide +kernel
theorem dX6_clash_74 : decode cX6_clash 74 = .ok (.aload_n 0, 1) := by decide +kernel
theorem dX6_clash_75 : decode cX6_clash 75 = .ok (.iload_n 3, 1) := by decide +kernel
theorem dX6_clash_76 : decode cX6_clash 76 = .ok (.aload_n 0, 1) := by decide +kernel
theorem dX6_clash_77 : decode cX6_clash 77 = .ok (.getfield 28, 3) := by decide +kernel
theorem dX6_clash_80 : decode cX6_clash 80 = .ok (.iload 4, 2) := by decide +kernel
theorem dX6_clash_82 : decode cX6_clash 82 = .ok (.iaload, 1) := by decide +kernel
theorem dX6_clash_83 : decode cX6_clash 83 = .ok (.aload_n 0, 1) := by decide +kernel
theorem dX6_clash_84 : decode cX6_clash 84 = .ok (.getfield 31, 3) := by decide +kernel
theorem dX6_clash_87 : decode cX6_clash 87 = .ok (.iload 4, 2) := by decide +kernel
theorem dX6_clash_89 : decode cX6_clash 89 = .ok (.iaload, 1) := by decide +kernel
theorem dX6_clash_90 : decode cX6_clash 90 = .ok (.aload_n 0, 1) := by decide +kernel
theorem dX6_clash_91 : decode cX6_clash 91 = .ok (.getfield 34, 3) := by decide +kernel
theorem dX6_clash_94 : decode cX6_clash 94 = .ok (.iload 4, 2) := by decide +kernel
theorem dX6_clash_96 : decode cX6_clash 96 = .ok (.iaload, 1) := by decide +kernel
theorem dX6_clash_97 : decode cX6_clash 97 = .ok (.invokevirtual 109, 3) := by decide +kernel
theorem dX6_clash_100 : decode cX6_clash 100 = .ok (.ifCond .eq 5, 3) := by decide +kernel
theorem dX6_clash_103 : decode cX6_clash 103 = .ok (.iload_n 3, 1) := by decide +kernel
theorem dX6_clash_104 : decode cX6_clash 104 = .ok (.ireturn, 1) := by decide +kernel
theorem dX6_clash_105 : decode cX6_clash 105 = .ok (.iinc 4 1, 3) := by decide +kernel
theorem dX6_clash_108 : decode cX6_clash 108 = .ok (.goto (-95), 3) := by decide +kernel
theorem dX6_clash_111 : decode cX6_clash 111 = .ok (.iinc 3 1, 3) := by decide +kernel
theorem dX6_clash_114 : decode cX6_clash 114 = .ok (.goto (-112), 3) := by decide +kernel
theorem dX6_clash_117 : decode cX6_clash 117 = .ok (.iconst (-1), 1) := by decide +kernel
theorem dX6_clash_118 : decode cX6_clash 118 = .ok (.ireturn, 1) := by decide +kernel
theorem dX6_changeRange_0 : decode cX6_changeRange 0 = .ok (.aload_n 0, 1) := by decide +kernel
theorem dX6_changeRange_1 : decode cX6_changeRange 1 = .ok (.iload_n 2, 1) := by decide +kernel
theorem dX6_changeRange_2 : decode cX6_changeRange 2 = .ok (.invokevirtual 130, 3) := by decide +kernel
theorem dX6_changeRange_5 : decode cX6_changeRange 5 = .ok (.ifCond .ne 6, 3) := by decide +kernel
theorem dX6_changeRange_8 : decode cX6_changeRange 8 = .ok (.bipush (-11), 2) := by decide +kernel
theorem dX6_changeRange_10 : decode cX6_changeRange 10 = .ok (.ireturn, 1) := by decide +kernel
theorem dX6_changeRange_11 : decode cX6_changeRange 11 = .ok (.aload_n 0, 1) := by decide +kernel
theorem dX6_changeRange_12 : decode cX6_changeRange 12 = .ok (.iload 4, 2) := by decide +kernel
theorem dX6_changeRange_14 : decode cX6_changeRange 14 = .ok (.invokevirtual 106, 3) := by decide +kernel
theorem dX6_changeRange_17 : decode cX6_changeRange 17 = .ok (.ifCond .eq 26, 3) := by decide +kernel
theorem dX6_changeRange_20 : decode cX6_changeRange 20 = .ok (.iload_n 1, 1) := by decide +kernel
theorem dX6_changeRange_21 : decode cX6_changeRange 21 = .ok (.iconst 1, 1) := by decide +kernel
theorem dX6_changeRange_22 : decode cX6_changeRange 22 = .ok (.if_icmp .ne 24, 3) := by decide +kernel
theorem dX6_changeRange_25 : decode cX6_changeRange 25 = .ok (.iload_n 3, 1) := by decide +kernel
theorem dX6_changeRange_26 : decode cX6_changeRange 26 = .ok (.aload_n 0, 1) := by decide +kernel
theorem dX6_changeRange_27 : decode cX6_changeRange 27 = .ok (.iload_n 2, 1) := by decide +kernel
theorem dX6_changeRange_28 : decode cX6_changeRange 28 = .ok (.invokevirtual 148, 3) := by decide +kernel
theorem dX6_changeRange_31 : decode cX6_changeRange 31 = .ok (.if_icmp .le 12, 3) := by decide +kernel
theorem dX6_changeRange_34 : decode cX6_changeRange 34 = .ok (.iload_n 3, 1) := by decide +kernel
theorem dX6_changeRange_35 : decode cX6_changeRange 35 = .ok (.aload_n 0, 1) := by decide +kernel
theorem dX6_changeRange_36 : decode cX6_changeRange 36 = .ok (.iload_n 2, 1) := by decide +kernel
theorem dX6_changeRange_37 : decode cX6_changeRange 37 = .ok (.invokevirtual 145, 3) := by decide +kernel
theorem dX6_changeRange_40 : decode cX6_changeRange 40 = .ok (.if_icmp .le 6, 3) := by decide +kernel
theorem dX6_changeRange_43 : decode cX6_changeRange 43 = .ok (.bipush (-12), 2) := by decide +kernel
theorem dX6_changeRange_45 : decode cX6_changeRange 45 = .ok (.ireturn, 1) := by decide +kernel
theorem dX6_changeRange_46 : decode cX6_changeRange 46 = .ok (.aload_n 0, 1) := by decide +kernel
theorem dX6_changeRange_47 : decode cX6_changeRange 47 = .ok (.getfield 37, 3) := by decide +kernel
theorem dX6_changeRange_50 : decode cX6_changeRange 50 = .ok (.iload_n 2, 1) := by decide +kernel
theorem dX6_changeRange_51 : decode cX6_changeRange 51 = .ok (.baload, 1) := by decide +kernel
theorem dX6_changeRange_52 : decode cX6_changeRange 52 = .ok (.ifCond .ne 6, 3) := by decide +kernel
theorem dX6_changeRange_55 : decode cX6_changeRange 55 = .ok (.bipush (-13), 2) := by decide +kernel
theorem dX6_changeRange_57 : decode cX6_changeRange 57 = .ok (.ireturn, 1) := by decide +kernel
theorem dX6_changeRange_58 : decode cX6_changeRange 58 = .ok (.iload_n 1, 1) := by decide +kernel
theorem dX6_changeRange_59 : decode cX6_changeRange 59 = .ok (.iconst 1, 1) := by decide +kernel
theorem dX6_changeRange_60 : decode cX6_changeRange 60 = .ok (.if_icmp .ne 17, 3) := by decide +kernel
theorem dX6_changeRange_63 : decode cX6_changeRange 63 = .ok (.aload_n 0, 1) := by decide +kernel
theorem dX6_changeRange_64 : decode cX6_changeRange 64 = .ok (.getfield 99, 3) := by decide +kernel
theorem dX6_changeRange_67 : decode cX6_changeRange 67 = .ok (.iconst 2, 1) := by decide +kernel
theorem dX6_changeRange_68 : decode cX6_changeRange 68 = .ok (.iadd, 1) := by decide +kernel
theorem dX6_changeRange_69 : decode cX6_changeRange 69 = .ok (.bipush 80, 2) := by decide +kernel
theorem dX6_changeRange_71 : decode cX6_changeRange 71 = .ok (.if_icmp .le 6, 3) := by decide +kernel
theorem dX6_changeRange_74 : decode cX6_changeRange 74 = .ok (.bipush (-14), 2) := by decide +kernel
theorem dX6_changeRange_76 : decode cX6_changeRange 76 = .ok (.ireturn, 1) := by decide +kernel
theorem dX6_changeRange_77 : decode cX6_changeRange 77 = .ok (.aload_n 0, 1) := by decide +kernel
theorem dX6_changeRange_78 : decode cX6_changeRange 78 = .ok (.iload 4, 2) := by decide +kernel
theorem dX6_changeRange_80 : decode cX6_changeRange 80 = .ok (.putfield 68, 3) := by decide +kernel
theorem dX6_changeRange_83 : decode cX6_changeRange 83 = .ok (.iload_n 1, 1) := by decide +kernel
theorem dX6_changeRange_84 : decode cX6_changeRange 84 = .ok (.ifCond .ne 11, 3) := by decide +kernel
theorem dX6_changeRange_87 : decode cX6_changeRange 87 = .ok (.aload_n 0, 1) := by decide +kernel
theorem dX6_changeRange_88 : decode cX6_changeRange 88 = .ok (.iload_n 2, 1) := by decide +kernel
theorem dX6_changeRange_89 : decode cX6_changeRange 89 = .ok (.invokevirtual 151, 3) := by decide +kernel
theorem dX6_changeRange_92 : decode cX6_changeRange 92 = .ok (.goto 9, 3) := by decide +kernel
theorem dX6_changeRange_95 : decode cX6_changeRange 95 = .ok (.aload_n 0, 1) := by decide +kernel
theorem dX6_changeRange_96 : decode cX6_changeRange 96 = .ok (.iload_n 2, 1) := by decide +kernel
theorem dX6_changeRange_97 : decode cX6_changeRange 97 = .ok (.iload_n 3, 1) := by decide +kernel
theorem dX6_changeRange_98 : decode cX6_changeRange 98 = .ok (.invokevirtual 154, 3) := by decide +kernel
theorem dX6_changeRange_101 : decode cX6_changeRange 101 = .ok (.ireturn, 1) := by decide +kernel
theorem dX6_changeStreets_0 : decode cX6_changeStreets 0 = .ok (.aload_n 0, 1) := by decide +kernel
theorem dX6_changeStreets_1 : decode cX6_changeStreets 1 = .ok (.iload_n 1, 1) := by decide +kernel
theorem dX6_changeStreets_2 : decode cX6_changeStreets 2 = .ok (.invokevirtual 102, 3) := by decide +kernel
theorem dX6_changeStreets_5 : decode cX6_changeStreets 5 = .ok (.ifCond .eq 11, 3) := by decide +kernel
theorem dX6_changeStreets_8 : decode cX6_changeStreets 8 = .ok (.aload_n 0, 1) := by decide +kernel
theorem dX6_changeStreets_9 : decode cX6_changeStreets 9 = .ok (.iload_n 2, 1) := by decide +kernel
theorem dX6_changeStreets_10 : decode cX6_changeStreets 10 = .ok (.invokevirtual 102, 3) := by decide +kernel
theorem dX6_changeStreets_13 : decode cX6_changeStreets 13 = .ok (.ifCond .ne 6, 3) := by decide +kernel
theorem dX6_changeStreets_16 : decode cX6_changeStreets 16 = .ok (.bipush (-11), 2) := by decide +kernel
theorem dX6_changeStreets_18 : decode cX6_changeStreets 18 = .ok (.ireturn, 1) := by decide +kernel
theorem dX6_changeStreets_19 : decode cX6_changeStreets 19 = .ok (.aload_n 0, 1) := by decide +kernel
theorem dX6_changeStreets_20 : decode cX6_changeStreets 20 = .ok (.iload_n 3, 1) := by decide +kernel
theorem dX6_changeStreets_21 : decode cX6_changeStreets 21 = .ok (.invokevirtual 106, 3) := by decide +kernel
theorem dX6_changeStreets_24 : decode cX6_changeStreets 24 = .ok (.ifCond .ne 6, 3) := by decide +kernel
theorem dX6_changeStreets_27 : decode cX6_changeStreets 27 = .ok (.bipush (-12), 2) := by decide +kernel
theorem dX6_changeStreets_29 : decode cX6_changeStreets 29 = .ok (.ireturn, 1) := by decide +kernel
theorem dX6_changeStreets_30 : decode cX6_changeStreets 30 = .ok (.iload_n 1, 1) := by decide +kernel
theorem dX6_changeStreets_31 : decode cX6_changeStreets 31 = .ok (.iload_n 2, 1) := by decide +kernel
theorem dX6_changeStreets_32 : decode cX6_changeStreets 32 = .ok (.if_icmp .eq 21, 3) := by decide +kernel
theorem dX6_changeStreets_35 : decode cX6_changeStreets 35 = .ok (.aload_n 0, 1) := by decide +kernel
theorem dX6_changeStreets_36 : decode cX6_changeStreets 36 = .ok (.getfield 19, 3) := by decide +kernel
theorem dX6_changeStreets_39 : decode cX6_changeStreets 39 = .ok (.iload_n 1, 1) := by decide +kernel
theorem dX6_changeStreets_40 : decode cX6_changeStreets 40 = .ok (.iaload, 1) := by decide +kernel
theorem dX6_changeStreets_41 : decode cX6_changeStreets 41 = .ok (.ifCond .ge 12, 3) := by decide +kernel
theorem dX6_changeStreets_44 : decode cX6_changeStreets 44 = .ok (.aload_n 0, 1) := by decide +kernel
theorem dX6_changeStreets_45 : decode cX6_changeStreets 45 = .ok (.getfield 19, 3) := by decide +kernel
theorem dX6_changeStreets_48 : decode cX6_changeStreets 48 = .ok (.iload_n 2, 1) := by decide +kernel
theorem dX6_changeStreets_49 : decode cX6_changeStreets 49 = .ok (.iaload, 1) := by decide +kernel
theorem dX6_changeStreets_50 : decode cX6_changeStreets 50 = .ok (.ifCond .lt 6, 3) := by decide +kernel
theorem dX6_changeStreets_53 : decode cX6_changeStreets 53 = .ok (.bipush (-13), 2) := by decide +kernel
theorem dX6_changeStreets_55 : decode cX6_changeStreets 55 = .ok (.ireturn, 1) := by decide +kernel
theorem dX6_changeStreets_56 : decode cX6_changeStreets 56 = .ok (.aload_n 0, 1) := by decide +kernel
theorem dX6_changeStreets_57 : decode cX6_changeStreets 57 = .ok (.iload_n 1, 1) := by decide +kernel
theorem dX6_changeStreets_58 : decode cX6_changeStreets 58 = .ok (.iload_n 2, 1) := by decide +kernel
theorem dX6_changeStreets_59 : decode cX6_changeStreets 59 = .ok (.invokevirtual 157, 3) := by decide +kernel
theorem dX6_changeStreets_62 : decode cX6_changeStreets 62 = .ok (.istore 4, 2) := by decide +kernel
theorem dX6_changeStreets_64 : decode cX6_changeStreets 64 = .ok (.iload 4, 2) := by decide +kernel
theorem dX6_changeStreets_66 : decode cX6_changeStreets 66 = .ok (.ifCond .lt 10, 3) := by decide +kernel
theorem dX6_changeStreets_69 : decode cX6_changeStreets 69 = .ok (.sipush (-200), 3) := by decide +kernel
theorem dX6_changeStreets_72 : decode cX6_changeStreets 72 = .ok (.iload 4, 2) := by decide +kernel
theorem dX6_changeStreets_74 : decode cX6_changeStreets 74 = .ok (.isub, 1) := by decide +kernel
theorem dX6_changeStreets_75 : decode cX6_changeStreets 75 = .ok (.ireturn, 1) := by decide +kernel
theorem dX6_changeStreets_76 : decode cX6_changeStreets 76 = .ok (.aload_n 0, 1) := by decide +kernel
theorem dX6_changeStreets_77 : decode cX6_changeStreets 77 = .ok (.iload_n 3, 1) := by decide +kernel
theorem dX6_changeStreets_78 : decode cX6_changeStreets 78 = .ok (.putfield 68, 3) := by decide +kernel
theorem dX6_changeStreets_81 : decode cX6_changeStreets 81 = .ok (.aload_n 0, 1) := by decide +kernel
theorem dX6_changeStreets_82 : decode cX6_changeStreets 82 = .ok (.iload_n 1, 1) := by decide +kernel
theorem dX6_changeStreets_83 : decode cX6_changeStreets 83 = .ok (.iload_n 2, 1) := by decide +kernel
theorem dX6_changeStreets_84 : decode cX6_changeStreets 84 = .ok (.invokevirtual 160, 3) := by decide +kernel
theorem dX6_changeStreets_87 : decode cX6_changeStreets 87 = .ok (.ireturn, 1) := by decide +kernel
theorem dX6_changePoint_0 : decode cX6_changePoint 0 = .ok (.aload_n 0, 1) := by decide +kernel
theorem dX6_changePoint_1 : decode cX6_changePoint 1 = .ok (.iload_n 2, 1) := by decide +kernel
theorem dX6_changePoint_2 : decode cX6_changePoint 2 = .ok (.invokevirtual 163, 3) := by decide +kernel
theorem dX6_changePoint_5 : decode cX6_changePoint 5 = .ok (.ifCond .ne 6, 3) := by decide +kernel
theorem dX6_changePoint_8 : decode cX6_changePoint 8 = .ok (.bipush (-11), 2) := by decide +kernel
theorem dX6_changePoint_10 : decode cX6_changePoint 10 = .ok (.ireturn, 1) := by decide +kernel
theorem dX6_changePoint_11 : decode cX6_changePoint 11 = .ok (.aload_n 0, 1) := by decide +kernel
theorem dX6_changePoint_12 : decode cX6_changePoint 12 = .ok (.iload 4, 2) := by decide +kernel
theorem dX6_changePoint_14 : decode cX6_changePoint 14 = .ok (.invokevirtual 106, 3) := by decide +kernel
theorem dX6_changePoint_17 : decode cX6_changePoint 17 = .ok (.ifCond .eq 22, 3) := by decide +kernel
theorem dX6_changePoint_20 : decode cX6_changePoint 20 = .ok (.iload_n 1, 1) := by decide +kernel
theorem dX6_changePoint_21 : decode cX6_changePoint 21 = .ok (.iconst 3, 1) := by decide +kernel
theorem dX6_changePoint_22 : decode cX6_changePoint 22 = .ok (.if_icmp .ne 20, 3) := by decide +kernel
theorem dX6_changePoint_25 : decode cX6_changePoint 25 = .ok (.aload_n 0, 1) := by decide +kernel
theorem dX6_changePoint_26 : decode cX6_changePoint 26 = .ok (.aload_n 0, 1) := by decide +kernel
theorem dX6_changePoint_27 : decode cX6_changePoint 27 = .ok (.getfield 41, 3) := by decide +kernel
theorem dX6_changePoint_30 : decode cX6_changePoint 30 = .ok (.iload_n 2, 1) := by decide +kernel
theorem dX6_changePoint_31 : decode cX6_changePoint 31 = .ok (.iaload, 1) := by decide +kernel
theorem dX6_changePoint_32 : decode cX6_changePoint 32 = .ok (.iload_n 3, 1) := by decide +kernel
theorem dX6_changePoint_33 : decode cX6_changePoint 33 = .ok (.invokevirtual 96, 3) := by decide +kernel
theorem dX6_changePoint_36 : decode cX6_changePoint 36 = .ok (.ifCond .ne 6, 3) := by decide +kernel
theorem dX6_changePoint_39 : decode cX6_changePoint 39 = .ok (.bipush (-12), 2) := by decide +kernel
theorem dX6_changePoint_41 : decode cX6_changePoint 41 = .ok (.ireturn, 1) := by decide +kernel
theorem dX6_changePoint_42 : decode cX6_changePoint 42 = .ok (.aload_n 0, 1) := by decide +kernel
theorem dX6_changePoint_43 : decode cX6_changePoint 43 = .ok (.getfield 47, 3) := by decide +kernel
theorem dX6_changePoint_46 : decode cX6_changePoint 46 = .ok (.iload_n 2, 1) := by decide +kernel
theorem dX6_changePoint_47 : decode cX6_changePoint 47 = .ok (.baload, 1) := by decide +kernel
theorem dX6_changePoint_48 : decode cX6_changePoint 48 = .ok (.ifCond .eq 28, 3) := by decide +kernel
theorem dX6_changePoint_51 : decode cX6_changePoint 51 = .ok (.iload_n 1, 1) := by decide +kernel
theorem dX6_changePoint_52 : decode cX6_changePoint 52 = .ok (.iconst 3, 1) := by decide +kernel
theorem dX6_changePoint_53 : decode cX6_changePoint 53 = .ok (.if_icmp .ne 26, 3) := by decide +kernel
theorem dX6_changePoint_56 : decode cX6_changePoint 56 = .ok (.aload_n 0, 1) := by decide +kernel
theorem dX6_changePoint_57 : decode cX6_changePoint 57 = .ok (.aload_n 0, 1) := by decide +kernel
theorem dX6_changePoint_58 : decode cX6_changePoint 58 = .ok (.getfield 41, 3) := by decide +kernel
theorem dX6_changePoint_61 : decode cX6_changePoint 61 = .ok (.iload_n 2, 1) := by decide +kernel
theorem dX6_changePoint_62 : decode cX6_changePoint 62 = .ok (.iaload, 1) := by decide +kernel
theorem dX6_changePoint_63 : decode cX6_changePoint 63 = .ok (.iload_n 3, 1) := by decide +kernel
theorem dX6_changePoint_64 : decode cX6_changePoint 64 = .ok (.aload_n 0, 1) := by decide +kernel
theorem dX6_changePoint_65 : decode cX6_changePoint 65 = .ok (.getfield 44, 3) := by decide +kernel
theorem dX6_changePoint_68 : decode cX6_changePoint 68 = .ok (.iload_n 2, 1) := by decide +kernel
theorem dX6_changePoint_69 : decode cX6_changePoint 69 = .ok (.iaload, 1) := by decide +kernel
theorem dX6_changePoint_70 : decode cX6_changePoint 70 = .ok (.invokevirtual 133, 3) := by decide +kernel
theorem dX6_changePoint_73 : decode cX6_changePoint 73 = .ok (.ifCond .lt 6, 3) := by decide +kernel
theorem dX6_changePoint_76 : decode cX6_changePoint 76 = .ok (.bipush (-13), 2) := by decide +kernel
theorem dX6_changePoint_78 : decode cX6_changePoint 78 = .ok (.ireturn, 1) := by decide +kernel
theorem dX6_changePoint_79 : decode cX6_changePoint 79 = .ok (.aload_n 0, 1) := by decide +kernel
theorem dX6_changePoint_80 : decode cX6_changePoint 80 = .ok (.iload 4, 2) := by decide +kernel
theorem dX6_changePoint_82 : decode cX6_changePoint 82 = .ok (.putfield 68, 3) := by decide +kernel
theorem dX6_changePoint_85 : decode cX6_changePoint 85 = .ok (.aload_n 0, 1) := by decide +kernel
theorem dX6_changePoint_86 : decode cX6_changePoint 86 = .ok (.getfield 25, 3) := by decide +kernel
theorem dX6_changePoint_89 : decode cX6_changePoint 89 = .ok (.aload_n 0, 1) := by decide +kernel
theorem dX6_changePoint_90 : decode cX6_changePoint 90 = .ok (.getfield 41, 3) := by decide +kernel
theorem dX6_changePoint_93 : decode cX6_changePoint 93 = .ok (.iload_n 2, 1) := by decide +kernel
theorem dX6_changePoint_94 : decode cX6_changePoint 94 = .ok (.iaload, 1) := by decide +kernel
theorem dX6_changePoint_95 : decode cX6_changePoint 95 = .ok (.iaload, 1) := by decide +kernel
theorem dX6_changePoint_96 : decode cX6_changePoint 96 = .ok (.istore 5, 2) := by decide +kernel
theorem dX6_changePoint_98 : decode cX6_changePoint 98 = .ok (.aload_n 0, 1) := by decide +kernel
theorem dX6_changePoint_99 : decode cX6_changePoint 99 = .ok (.iload_n 2, 1) := by decide +kernel
theorem dX6_changePoint_100 : decode cX6_changePoint 100 = .ok (.iload_n 1, 1) := by decide +kernel
theorem dX6_changePoint_101 : decode cX6_changePoint 101 = .ok (.iconst 3, 1) := by decide +kernel
theorem dX6_changePoint_102 : decode cX6_changePoint 102 = .ok (.if_icmp .ne 7, 3) := by decide +kernel
theorem dX6_changePoint_105 : decode cX6_changePoint 105 = .ok (.iconst 1, 1) := by decide +kernel
theorem dX6_changePoint_106 : decode cX6_changePoint 106 = .ok (.goto 4, 3) := by decide +kernel
theorem dX6_changePoint_109 : decode cX6_changePoint 109 = .ok (.iconst 0, 1) := by decide +kernel
theorem dX6_changePoint_110 : decode cX6_changePoint 110 = .ok (.invokevirtual 141, 3) := by decide +kernel
theorem dX6_changePoint_113 : decode cX6_changePoint 113 = .ok (.iload_n 1, 1) := by decide +kernel
theorem dX6_changePoint_114 : decode cX6_changePoint 114 = .ok (.iconst 3, 1) := by decide +kernel
theorem dX6_changePoint_115 : decode cX6_changePoint 115 = .ok (.if_icmp .ne 14, 3) := by decide +kernel
theorem dX6_changePoint_118 : decode cX6_changePoint 118 = .ok (.aload_n 0, 1) := by decide +kernel
theorem dX6_changePoint_119 : decode cX6_changePoint 119 = .ok (.iload_n 2, 1) := by decide +kernel
theorem dX6_changePoint_120 : decode cX6_changePoint 120 = .ok (.iload 5, 2) := by decide +kernel
theorem dX6_changePoint_122 : decode cX6_changePoint 122 = .ok (.iload_n 3, 1) := by decide +kernel
theorem dX6_changePoint_123 : decode cX6_changePoint 123 = .ok (.invokevirtual 137, 3) := by decide +kernel
theorem dX6_changePoint_126 : decode cX6_changePoint 126 = .ok (.goto 10, 3) := by decide +kernel
theorem dX6_changePoint_129 : decode cX6_changePoint 129 = .ok (.aload_n 0, 1) := by decide +kernel
theorem dX6_changePoint_130 : decode cX6_changePoint 130 = .ok (.getfield 47, 3) := by decide +kernel
theorem dX6_changePoint_133 : decode cX6_changePoint 133 = .ok (.iload_n 2, 1) := by decide +kernel
theorem dX6_changePoint_134 : decode cX6_changePoint 134 = .ok (.iconst 0, 1) := by decide +kernel
theorem dX6_changePoint_135 : decode cX6_changePoint 135 = .ok (.bastore, 1) := by decide +kernel
theorem dX6_changePoint_136 : decode cX6_changePoint 136 = .ok (.iconst 1, 1) := by decide +kernel
theorem dX6_changePoint_137 : decode cX6_changePoint 137 = .ok (.ireturn, 1) := by decide +kernel
theorem dX6_change_0 : decode cX6_change 0 = .ok (.iload_n 1, 1) := by decide +kernel
theorem dX6_change_1 : decode cX6_change 1 = .ok (.tableswitch 64 0 4 #[35, 35, 45, 54, 54], 35) := by decide +kernel
theorem dX6_change_36 : decode cX6_change 36 = .ok (.aload_n 0, 1) := by decide +kernel
theorem dX6_change_37 : decode cX6_change 37 = .ok (.iload_n 1, 1) := by decide +kernel
theorem dX6_change_38 : decode cX6_change 38 = .ok (.iload_n 2, 1) := by decide +kernel
theorem dX6_change_39 : decode cX6_change 39 = .ok (.iload_n 3, 1) := by decide +kernel
theorem dX6_change_40 : decode cX6_change 40 = .ok (.iload 4, 2) := by decide +kernel
theorem dX6_change_42 : decode cX6_change 42 = .ok (.invokevirtual 166, 3) := by decide +kernel
theorem dX6_change_45 : decode cX6_change 45 = .ok (.ireturn, 1) := by decide +kernel
theorem dX6_change_46 : decode cX6_change 46 = .ok (.aload_n 0, 1) := by decide +kernel
theorem dX6_change_47 : decode cX6_change 47 = .ok (.iload_n 2, 1) := by decide +kernel
theorem dX6_change_48 : decode cX6_change 48 = .ok (.iload_n 3, 1) := by decide +kernel
theorem dX6_change_49 : decode cX6_change 49 = .ok (.iload 4, 2) := by decide +kernel
theorem dX6_change_51 : decode cX6_change 51 = .ok (.invokevirtual 170, 3) := by decide +kernel
theorem dX6_change_54 : decode cX6_change 54 = .ok (.ireturn, 1) := by decide +kernel
theorem dX6_change_55 : decode cX6_change 55 = .ok (.aload_n 0, 1) := by decide +kernel
theorem dX6_change_56 : decode cX6_change 56 = .ok (.iload_n 1, 1) := by decide +kernel
theorem dX6_change_57 : decode cX6_change 57 = .ok (.iload_n 2, 1) := by decide +kernel
theorem dX6_change_58 : decode cX6_change 58 = .ok (.iload_n 3, 1) := by decide +kernel
theorem dX6_change_59 : decode cX6_change 59 = .ok (.iload 4, 2) := by decide +kernel
theorem dX6_change_61 : decode cX6_change 61 = .ok (.invokevirtual 173, 3) := by decide +kernel
theorem dX6_change_64 : decode cX6_change 64 = .ok (.ireturn, 1) := by decide +kernel
theorem dX6_change_65 : decode cX6_change 65 = .ok (.bipush (-12), 2) := by decide +kernel
theorem dX6_change_67 : decode cX6_change 67 = .ok (.ireturn, 1) := by decide +kernel
theorem dX6_alias_0 : decode cX6_alias 0 = .ok (.aload_n 0, 1) := by decide +kernel
theorem dX6_alias_1 : decode cX6_alias 1 = .ok (.iload_n 1, 1) := by decide +kernel
theorem dX6_alias_2 : decode cX6_alias 2 = .ok (.invokevirtual 102, 3) := by decide +kernel
theorem dX6_alias_5 : decode cX6_alias 5 = .ok (.ifCond .eq 11, 3) := by decide +kernel
theorem dX6_alias_8 : decode cX6_alias 8 = .ok (.aload_n 0, 1) := by decide +kernel
theorem dX6_alias_9 : decode cX6_alias 9 = .ok (.iload_n 2, 1) := by decide +kernel
theorem dX6_alias_10 : decode cX6_alias 10 = .ok (.invokevirtual 102, 3) := by decide +kernel
theorem dX6_alias_13 : decode cX6_alias 13 = .ok (.ifCond .ne 6, 3) := by decide +kernel
theorem dX6_alias_16 : decode cX6_alias 16 = .ok (.bipush (-11), 2) := by decide +kernel
theorem dX6_alias_18 : decode cX6_alias 18 = .ok (.ireturn, 1) := by decide +kernel
theorem dX6_alias_19 : decode cX6_alias 19 = .ok (.aload_n 0, 1) := by decide +kernel
theorem dX6_alias_20 : decode cX6_alias 20 = .ok (.iload_n 3, 1) := by decide +kernel
theorem dX6_alias_21 : decode cX6_alias 21 = .ok (.invokevirtual 106, 3) := by decide +kernel
theorem dX6_alias_24 : decode cX6_alias 24 = .ok (.ifCond .ne 6, 3) := by decide +kernel
theorem dX6_alias_27 : decode cX6_alias 27 = .ok (.bipush (-12), 2) := by decide +kernel
theorem dX6_alias_29 : decode cX6_alias 29 = .ok (.ireturn, 1) := by decide +kernel
theorem dX6_alias_30 : decode cX6_alias 30 = .ok (.aload_n 0, 1) := by decide +kernel
theorem dX6_alias_31 : decode cX6_alias 31 = .ok (.getfield 19, 3) := by decide +kernel
theorem dX6_alias_34 : decode cX6_alias 34 = .ok (.iload_n 1, 1) := by decide +kernel
theorem dX6_alias_35 : decode cX6_alias 35 = .ok (.iaload, 1) := by decide +kernel
theorem dX6_alias_36 : decode cX6_alias 36 = .ok (.ifCond .lt 7, 3) := by decide +kernel
theorem dX6_alias_39 : decode cX6_alias 39 = .ok (.iconst 1, 1) := by decide +kernel
theorem dX6_alias_40 : decode cX6_alias 40 = .ok (.goto 4, 3) := by decide +kernel
theorem dX6_alias_43 : decode cX6_alias 43 = .ok (.iconst 0, 1) := by decide +kernel
theorem dX6_alias_44 : decode cX6_alias 44 = .ok (.istore 4, 2) := by decide +kernel
theorem dX6_alias_46 : decode cX6_alias 46 = .ok (.iconst 0, 1) := by decide +kernel
theorem dX6_alias_47 : decode cX6_alias 47 = .ok (.istore 5, 2) := by decide +kernel
theorem dX6_alias_49 : decode cX6_alias 49 = .ok (.iload 5, 2) := by decide +kernel
theorem dX6_alias_51 : decode cX6_alias 51 = .ok (.aload_n 0, 1) := by decide +kernel
theorem dX6_alias_52 : decode cX6_alias 52 = .ok (.getfield 99, 3) := by decide +kernel
theorem dX6_alias_55 : decode cX6_alias 55 = .ok (.if_icmp .ge 42, 3) := by decide +kernel
theorem dX6_alias_58 : decode cX6_alias 58 = .ok (.iload 4, 2) := by decide +kernel
theorem dX6_alias_60 : decode cX6_alias 60 = .ok (.ifCond .ne 24, 3) := by decide +kernel
theorem dX6_alias_63 : decode cX6_alias 63 = .ok (.aload_n 0, 1) := by decide +kernel
theorem dX6_alias_64 : decode cX6_alias 64 = .ok (.getfield 37, 3) := by decide +kernel
theorem dX6_alias_67 : decode cX6_alias 67 = .ok (.iload 5, 2) := by decide +kernel
theorem dX6_alias_69 : decode cX6_alias 69 = .ok (.baload, 1) := by decide +kernel
theorem dX6_alias_70 : decode cX6_alias 70 = .ok (.ifCond .eq 18, 3) := by decide +kernel
theorem dX6_alias_73 : decode cX6_alias 73 = .ok (.aload_n 0, 1) := by decide +kernel
theorem dX6_alias_74 : decode cX6_alias 74 = .ok (.getfield 25, 3) := by decide +kernel
theorem dX6_alias_77 : decode cX6_alias 77 = .ok (.iload 5, 2) := by decide +kernel
theorem dX6_alias_79 : decode cX6_alias 79 = .ok (.iaload, 1) := by decide +kernel
theorem dX6_alias_80 : decode cX6_alias 80 = .ok (.iload_n 1, 1) := by decide +kernel
theorem dX6_alias_81 : decode cX6_alias 81 = .ok (.if_icmp .ne 7, 3) := by decide +kernel
theorem dX6_alias_84 : decode cX6_alias 84 = .ok (.iconst 1, 1) := by decide +kernel
theorem dX6_alias_85 : decode cX6_alias 85 = .ok (.goto 4, 3) := by decide +kernel
theorem dX6_alias_88 : decode cX6_alias 88 = .ok (.iconst 0, 1) := by decide +kernel
theorem dX6_alias_89 : decode cX6_alias 89 = .ok (.istore 4, 2) := by decide +kernel
theorem dX6_alias_91 : decode cX6_alias 91 = .ok (.iinc 5 1, 3) := by decide +kernel
theorem dX6_alias_94 : decode cX6_alias 94 = .ok (.goto (-45), 3) := by decide +kernel
theorem dX6_alias_97 : decode cX6_alias 97 = .ok (.iload 4, 2) := by decide +kernel
theorem dX6_alias_99 : decode cX6_alias 99 = .ok (.ifCond .eq 6, 3) := by decide +kernel
theorem dX6_alias_102 : decode cX6_alias 102 = .ok (.bipush (-13), 2) := by decide +kernel
theorem dX6_alias_104 : decode cX6_alias 104 = .ok (.ireturn, 1) := by decide +kernel
theorem dX6_alias_105 : decode cX6_alias 105 = .ok (.aload_n 0, 1) := by decide +kernel
theorem dX6_alias_106 : decode cX6_alias 106 = .ok (.iload_n 2, 1) := by decide +kernel
theorem dX6_alias_107 : decode cX6_alias 107 = .ok (.iload_n 3, 1) := by decide +kernel
theorem dX6_alias_108 : decode cX6_alias 108 = .ok (.invokevirtual 176, 3) := by decide +kernel
theorem dX6_alias_111 : decode cX6_alias 111 = .ok (.iload_n 1, 1) := by decide +kernel
theorem dX6_alias_112 : decode cX6_alias 112 = .ok (.if_icmp .ne 5, 3) := by decide +kernel
theorem dX6_alias_115 : decode cX6_alias 115 = .ok (.iconst 0, 1) := by decide +kernel
theorem dX6_alias_116 : decode cX6_alias 116 = .ok (.ireturn, 1) := by decide +kernel
theorem dX6_alias_117 : decode cX6_alias 117 = .ok (.aload_n 0, 1) := by decide +kernel
theorem dX6_alias_118 : decode cX6_alias 118 = .ok (.getfield 19, 3) := by decide +kernel
theorem dX6_alias_121 : decode cX6_alias 121 = .ok (.iload_n 1, 1) := by decide +kernel
theorem dX6_alias_122 : decode cX6_alias 122 = .ok (.iload_n 2, 1) := by decide +kernel
theorem dX6_alias_123 : decode cX6_alias 123 = .ok (.iastore, 1) := by decide +kernel
theorem dX6_alias_124 : decode cX6_alias 124 = .ok (.aload_n 0, 1) := by decide +kernel
theorem dX6_alias_125 : decode cX6_alias 125 = .ok (.getfield 22, 3) := by decide +kernel
theorem dX6_alias_128 : decode cX6_alias 128 = .ok (.iload_n 1, 1) := by decide +kernel
theorem dX6_alias_129 : decode cX6_alias 129 = .ok (.iload_n 3, 1) := by decide +kernel
theorem dX6_alias_130 : decode cX6_alias 130 = .ok (.iastore, 1) := by decide +kernel
theorem dX6_alias_131 : decode cX6_alias 131 = .ok (.aload_n 0, 1) := by decide +kernel
theorem dX6_alias_132 : decode cX6_alias 132 = .ok (.iload_n 3, 1) := by decide +kernel
theorem dX6_alias_133 : decode cX6_alias 133 = .ok (.putfield 68, 3) := by decide +kernel
theorem dX6_alias_136 : decode cX6_alias 136 = .ok (.iconst 1, 1) := by decide +kernel
theorem dX6_alias_137 : decode cX6_alias 137 = .ok (.ireturn, 1) := by decide +kernel
theorem dX6_at_0 : decode cX6_at 0 = .ok (.aload_n 0, 1) := by decide +kernel
theorem dX6_at_1 : decode cX6_at 1 = .ok (.iload_n 1, 1) := by decide +kernel
theorem dX6_at_2 : decode cX6_at 2 = .ok (.invokevirtual 102, 3) := by decide +kernel
theorem dX6_at_5 : decode cX6_at 5 = .ok (.ifCond .ne 6, 3) := by decide +kernel
theorem dX6_at_8 : decode cX6_at 8 = .ok (.bipush (-11), 2) := by decide +kernel
theorem dX6_at_10 : decode cX6_at 10 = .ok (.ireturn, 1) := by decide +kernel
theorem dX6_at_11 : decode cX6_at 11 = .ok (.iload_n 2, 1) := by decide +kernel
theorem dX6_at_12 : decode cX6_at 12 = .ok (.iconst 1, 1) := by decide +kernel
theorem dX6_at_13 : decode cX6_at 13 = .ok (.sipush 999, 3) := by decide +kernel
theorem dX6_at_16 : decode cX6_at 16 = .ok (.invokestatic 73, 3) := by decide +kernel
theorem dX6_at_19 : decode cX6_at 19 = .ok (.ifCond .eq 24, 3) := by decide +kernel
theorem dX6_at_22 : decode cX6_at 22 = .ok (.iload_n 3, 1) := by decide +kernel
theorem dX6_at_23 : decode cX6_at 23 = .ok (.iconst 0, 1) := by decide +kernel
theorem dX6_at_24 : decode cX6_at 24 = .ok (.bipush 25, 2) := by decide +kernel
theorem dX6_at_26 : decode cX6_at 26 = .ok (.invokestatic 73, 3) := by decide +kernel
theorem dX6_at_29 : decode cX6_at 29 = .ok (.ifCond .eq 14, 3) := by decide +kernel
theorem dX6_at_32 : decode cX6_at 32 = .ok (.iload 4, 2) := by decide +kernel
theorem dX6_at_34 : decode cX6_at 34 = .ok (.iconst 0, 1) := by decide +kernel
theorem dX6_at_35 : decode cX6_at 35 = .ok (.ldc 72, 2) := by decide +kernel
theorem dX6_at_37 : decode cX6_at 37 = .ok (.invokestatic 73, 3) := by decide +kernel
theorem dX6_at_40 : decode cX6_at 40 = .ok (.ifCond .ne 6, 3) := by decide +kernel
theorem dX6_at_43 : decode cX6_at 43 = .ok (.bipush (-12), 2) := by decide +kernel
theorem dX6_at_45 : decode cX6_at 45 = .ok (.ireturn, 1) := by decide +kernel
theorem dX6_at_46 : decode cX6_at 46 = .ok (.aload_n 0, 1) := by decide +kernel
theorem dX6_at_47 : decode cX6_at 47 = .ok (.iload_n 1, 1) := by decide +kernel
theorem dX6_at_48 : decode cX6_at 48 = .ok (.iload 4, 2) := by decide +kernel
theorem dX6_at_50 : decode cX6_at 50 = .ok (.invokevirtual 176, 3) := by decide +kernel
theorem dX6_at_53 : decode cX6_at 53 = .ok (.istore 5, 2) := by decide +kernel
theorem dX6_at_55 : decode cX6_at 55 = .ok (.iconst (-1), 1) := by decide +kernel
theorem dX6_at_56 : decode cX6_at 56 = .ok (.istore 6, 2) := by decide +kernel
theorem dX6_at_58 : decode cX6_at 58 = .ok (.iconst (-1), 1) := by decide +kernel
theorem dX6_at_59 : decode cX6_at 59 = .ok (.istore 7, 2) := by decide +kernel
theorem dX6_at_61 : decode cX6_at 61 = .ok (.iconst 0, 1) := by decide +kernel
theorem dX6_at_62 : decode cX6_at 62 = .ok (.istore 8, 2) := by decide +kernel
theorem dX6_at_64 : decode cX6_at 64 = .ok (.iload 8, 2) := by decide +kernel
theorem dX6_at_66 : decode cX6_at 66 = .ok (.aload_n 0, 1) := by decide +kernel
theorem dX6_at_67 : decode cX6_at 67 = .ok (.getfield 120, 3) := by decide +kernel
theorem dX6_at_70 : decode cX6_at 70 = .ok (.if_icmp .ge 208, 3) := by decide +kernel
theorem dX6_at_73 : decode cX6_at 73 = .ok (.aload_n 0, 1) := by decide +kernel
theorem dX6_at_74 : decode cX6_at 74 = .ok (.getfield 50, 3) := by decide +kernel
theorem dX6_at_77 : decode cX6_at 77 = .ok (.iload 8, 2) := by decide +kernel
theorem dX6_at_79 : decode cX6_at 79 = .ok (.iaload, 1) := by decide +kernel
theorem dX6_at_80 : decode cX6_at 80 = .ok (.istore 9, 2) := by decide +kernel
theorem dX6_at_82 : decode cX6_at 82 = .ok (.aload_n 0, 1) := by decide +kernel
theorem dX6_at_83 : decode cX6_at 83 = .ok (.getfield 56, 3) := by decide +kernel
theorem dX6_at_86 : decode cX6_at 86 = .ok (.iload 8, 2) := by decide +kernel
theorem dX6_at_88 : decode cX6_at 88 = .ok (.iaload, 1) := by decide +kernel
theorem dX6_at_89 : decode cX6_at 89 = .ok (.iload_n 2, 1) := by decide +kernel
theorem dX6_at_90 : decode cX6_at 90 = .ok (.if_icmp .ne 18, 3) := by decide +kernel
theorem dX6_at_93 : decode cX6_at 93 = .ok (.aload_n 0, 1) := by decide +kernel
theorem dX6_at_94 : decode cX6_at 94 = .ok (.getfield 44, 3) := by decide +kernel
theorem dX6_at_97 : decode cX6_at 97 = .ok (.iload 9, 2) := by decide +kernel
theorem dX6_at_99 : decode cX6_at 99 = .ok (.iaload, 1) := by decide +kernel
theorem dX6_at_100 : decode cX6_at 100 = .ok (.iload_n 3, 1) := by decide +kernel
theorem dX6_at_101 : decode cX6_at 101 = .ok (.if_icmp .ne 7, 3) := by decide +kernel
theorem dX6_at_104 : decode cX6_at 104 = .ok (.iconst 1, 1) := by decide +kernel
theorem dX6_at_105 : decode cX6_at 105 = .ok (.goto 4, 3) := by decide +kernel
theorem dX6_at_108 : decode cX6_at 108 = .ok (.iconst 0, 1) := by decide +kernel
theorem dX6_at_109 : decode cX6_at 109 = .ok (.istore 10, 2) := by decide +kernel
theorem dX6_at_111 : decode cX6_at 111 = .ok (.iload 10, 2) := by decide +kernel
theorem dX6_at_113 : decode cX6_at 113 = .ok (.ifCond .eq 42, 3) := by decide +kernel
theorem dX6_at_116 : decode cX6_at 116 = .ok (.aload_n 0, 1) := by decide +kernel
theorem dX6_at_117 : decode cX6_at 117 = .ok (.getfield 53, 3) := by decide +kernel
theorem dX6_at_120 : decode cX6_at 120 = .ok (.iload 8, 2) := by decide +kernel
theorem dX6_at_122 : decode cX6_at 122 = .ok (.iaload, 1) := by decide +kernel
theorem dX6_at_123 : decode cX6_at 123 = .ok (.iload 5, 2) := by decide +kernel
theorem dX6_at_125 : decode cX6_at 125 = .ok (.if_icmp .ne 30, 3) := by decide +kernel
theorem dX6_at_128 : decode cX6_at 128 = .ok (.aload_n 0, 1) := by decide +kernel
theorem dX6_at_129 : decode cX6_at 129 = .ok (.getfield 59, 3) := by decide +kernel
theorem dX6_at_132 : decode cX6_at 132 = .ok (.iload 8, 2) := by decide +kernel
theorem dX6_at_134 : decode cX6_at 134 = .ok (.iaload, 1) := by decide +kernel
theorem dX6_at_135 : decode cX6_at 135 = .ok (.iload 4, 2) := by decide +kernel
theorem dX6_at_137 : decode cX6_at 137 = .ok (.if_icmp .gt 18, 3) := by decide +kernel
theorem dX6_at_140 : decode cX6_at 140 = .ok (.iload 4, 2) := by decide +kernel
theorem dX6_at_142 : decode cX6_at 142 = .ok (.aload_n 0, 1) := by decide +kernel
theorem dX6_at_143 : decode cX6_at 143 = .ok (.getfield 62, 3) := by decide +kernel
theorem dX6_at_146 : decode cX6_at 146 = .ok (.iload 8, 2) := by decide +kernel
theorem dX6_at_148 : decode cX6_at 148 = .ok (.iaload, 1) := by decide +kernel
theorem dX6_at_149 : decode cX6_at 149 = .ok (.if_icmp .ge 6, 3) := by decide +kernel
theorem dX6_at_152 : decode cX6_at 152 = .ok (.iload 9, 2) := by decide +kernel
theorem dX6_at_154 : decode cX6_at 154 = .ok (.ireturn, 1) := by decide +kernel
theorem dX6_at_155 : decode cX6_at 155 = .ok (.iload 10, 2) := by decide +kernel
theorem dX6_at_157 : decode cX6_at 157 = .ok (.ifCond .eq 63, 3) := by decide +kernel
theorem dX6_at_160 : decode cX6_at 160 = .ok (.aload_n 0, 1) := by decide +kernel
theorem dX6_at_161 : decode cX6_at 161 = .ok (.getfield 65, 3) := by decide +kernel
theorem dX6_at_164 : decode cX6_at 164 = .ok (.iload 8, 2) := by decide +kernel
theorem dX6_at_166 : decode cX6_at 166 = .ok (.baload, 1) := by decide +kernel
theorem dX6_at_167 : decode cX6_at 167 = .ok (.ifCond .eq 53, 3) := by decide +kernel
theorem dX6_at_170 : decode cX6_at 170 = .ok (.aload_n 0, 1) := by decide +kernel
theorem dX6_at_171 : decode cX6_at 171 = .ok (.aload_n 0, 1) := by decide +kernel
theorem dX6_at_172 : decode cX6_at 172 = .ok (.getfield 53, 3) := by decide +kernel
theorem dX6_at_175 : decode cX6_at 175 = .ok (.iload 8, 2) := by decide +kernel
theorem dX6_at_177 : decode cX6_at 177 = .ok (.iaload, 1) := by decide +kernel
theorem dX6_at_178 : decode cX6_at 178 = .ok (.iload 4, 2) := by decide +kernel
theorem dX6_at_180 : decode cX6_at 180 = .ok (.invokevirtual 176, 3) := by decide +kernel
theorem dX6_at_183 : decode cX6_at 183 = .ok (.iload 5, 2) := by decide +kernel
theorem dX6_at_185 : decode cX6_at 185 = .ok (.if_icmp .ne 35, 3) := by decide +kernel
theorem dX6_at_188 : decode cX6_at 188 = .ok (.aload_n 0, 1) := by decide +kernel
theorem dX6_at_189 : decode cX6_at 189 = .ok (.getfield 62, 3) := by decide +kernel
theorem dX6_at_192 : decode cX6_at 192 = .ok (.iload 8, 2) := by decide +kernel
theorem dX6_at_194 : decode cX6_at 194 = .ok (.iaload, 1) := by decide +kernel
theorem dX6_at_195 : decode cX6_at 195 = .ok (.iload 4, 2) := by decide +kernel
theorem dX6_at_197 : decode cX6_at 197 = .ok (.if_icmp .gt 23, 3) := by decide +kernel
theorem dX6_at_200 : decode cX6_at 200 = .ok (.iload 4, 2) := by decide +kernel
theorem dX6_at_202 : decode cX6_at 202 = .ok (.aload_n 0, 1) := by decide +kernel
theorem dX6_at_203 : decode cX6_at 203 = .ok (.getfield 62, 3) := by decide +kernel
theorem dX6_at_206 : decode cX6_at 206 = .ok (.iload 8, 2) := by decide +kernel
theorem dX6_at_208 : decode cX6_at 208 = .ok (.iaload, 1) := by decide +kernel
theorem dX6_at_209 : decode cX6_at 209 = .ok (.isub, 1) := by decide +kernel
theorem dX6_at_210 : decode cX6_at 210 = .ok (.sipush 180, 3) := by decide +kernel
theorem dX6_at_213 : decode cX6_at 213 = .ok (.if_icmp .ge 7, 3) := by decide +kernel
theorem dX6_at_216 : decode cX6_at 216 = .ok (.iconst 1, 1) := by decide +kernel
theorem dX6_at_217 : decode cX6_at 217 = .ok (.goto 4, 3) := by decide +kernel
theorem dX6_at_220 : decode cX6_at 220 = .ok (.iconst 0, 1) := by decide +kernel
theorem dX6_at_221 : decode cX6_at 221 = .ok (.istore 11, 2) := by decide +kernel
theorem dX6_at_223 : decode cX6_at 223 = .ok (.iload 11, 2) := by decide +kernel
theorem dX6_at_225 : decode cX6_at 225 = .ok (.ifCond .eq 47, 3) := by decide +kernel
theorem dX6_at_228 : decode cX6_at 228 = .ok (.aload_n 0, 1) := by decide +kernel
theorem dX6_at_229 : decode cX6_at 229 = .ok (.getfield 62, 3) := by decide +kernel
theorem dX6_at_232 : decode cX6_at 232 = .ok (.iload 8, 2) := by decide +kernel
theorem dX6_at_234 : decode cX6_at 234 = .ok (.iaload, 1) := by decide +kernel
theorem dX6_at_235 : decode cX6_at 235 = .ok (.iload 7, 2) := by decide +kernel
theorem dX6_at_237 : decode cX6_at 237 = .ok (.if_icmp .gt 22, 3) := by decide +kernel
theorem dX6_at_240 : decode cX6_at 240 = .ok (.aload_n 0, 1) := by decide +kernel
theorem dX6_at_241 : decode cX6_at 241 = .ok (.getfield 62, 3) := by decide +kernel
theorem dX6_at_244 : decode cX6_at 244 = .ok (.iload 8, 2) := by decide +kernel
theorem dX6_at_246 : decode cX6_at 246 = .ok (.iaload, 1) := by decide +kernel
theorem dX6_at_247 : decode cX6_at 247 = .ok (.iload 7, 2) := by decide +kernel
theorem dX6_at_249 : decode cX6_at 249 = .ok (.if_icmp .ne 23, 3) := by decide +kernel
theorem dX6_at_252 : decode cX6_at 252 = .ok (.iload 9, 2) := by decide +kernel
theorem dX6_at_254 : decode cX6_at 254 = .ok (.iload 6, 2) := by decide +kernel
theorem dX6_at_256 : decode cX6_at 256 = .ok (.if_icmp .ge 16, 3) := by decide +kernel
theorem dX6_at_259 : decode cX6_at 259 = .ok (.iload 9, 2) := by decide +kernel
theorem dX6_at_261 : decode cX6_at 261 = .ok (.istore 6, 2) := by decide +kernel
theorem dX6_at_263 : decode cX6_at 263 = .ok (.aload_n 0, 1) := by decide +kernel
theorem dX6_at_264 : decode cX6_at 264 = .ok (.getfield 62, 3) := by decide +kernel
theorem dX6_at_267 : decode cX6_at 267 = .ok (.iload 8, 2) := by decide +kernel
theorem dX6_at_269 : decode cX6_at 269 = .ok (.iaload, 1) := by decide +kernel
theorem dX6_at_270 : decode cX6_at 270 = .ok (.istore 7, 2) := by decide +kernel
theorem dX6_at_272 : decode cX6_at 272 = .ok (.iinc 8 1, 3) := by decide +kernel
theorem dX6_at_275 : decode cX6_at 275 = .ok (.goto (-211), 3) := by decide +kernel
theorem dX6_at_278 : decode cX6_at 278 = .ok (.iload 6, 2) := by decide +kernel
theorem dX6_at_280 : decode cX6_at 280 = .ok (.ireturn, 1) := by decide +kernel
theorem dX6_near_0 : decode cX6_near 0 = .ok (.aload_n 0, 1) := by decide +kernel
theorem dX6_near_1 : decode cX6_near 1 = .ok (.iload_n 1, 1) := by decide +kernel
theorem dX6_near_2 : decode cX6_near 2 = .ok (.invokevirtual 102, 3) := by decide +kernel
theorem dX6_near_5 : decode cX6_near 5 = .ok (.ifCond .ne 6, 3) := by decide +kernel
theorem dX6_near_8 : decode cX6_near 8 = .ok (.bipush (-11), 2) := by decide +kernel
theorem dX6_near_10 : decode cX6_near 10 = .ok (.ireturn, 1) := by decide +kernel
theorem dX6_near_11 : decode cX6_near 11 = .ok (.iload_n 2, 1) := by decide +kernel
theorem dX6_near_12 : decode cX6_near 12 = .ok (.iconst 1, 1) := by decide +kernel
theorem dX6_near_13 : decode cX6_near 13 = .ok (.sipush 999, 3) := by decide +kernel
theorem dX6_near_16 : decode cX6_near 16 = .ok (.invokestatic 73, 3) := by decide +kernel
theorem dX6_near_19 : decode cX6_near 19 = .ok (.ifCond .ne 6, 3) := by decide +kernel
theorem dX6_near_22 : decode cX6_near 22 = .ok (.bipush (-12), 2) := by decide +kernel
theorem dX6_near_24 : decode cX6_near 24 = .ok (.ireturn, 1) := by decide +kernel
theorem dX6_near_25 : decode cX6_near 25 = .ok (.aload_n 0, 1) := by decide +kernel
theorem dX6_near_26 : decode cX6_near 26 = .ok (.iload_n 1, 1) := by decide +kernel
theorem dX6_near_27 : decode cX6_near 27 = .ok (.aload_n 0, 1) := by decide +kernel
theorem dX6_near_28 : decode cX6_near 28 = .ok (.getfield 68, 3) := by decide +kernel
theorem dX6_near_31 : decode cX6_near 31 = .ok (.invokevirtual 176, 3) := by decide +kernel
theorem dX6_near_34 : decode cX6_near 34 = .ok (.istore_n 3, 1) := by decide +kernel
theorem dX6_near_35 : decode cX6_near 35 = .ok (.iconst (-1), 1) := by decide +kernel
theorem dX6_near_36 : decode cX6_near 36 = .ok (.istore 4, 2) := by decide +kernel
theorem dX6_near_38 : decode cX6_near 38 = .ok (.ldc 126, 2) := by decide +kernel
theorem dX6_near_40 : decode cX6_near 40 = .ok (.istore 5, 2) := by decide +kernel
theorem dX6_near_42 : decode cX6_near 42 = .ok (.iconst 0, 1) := by decide +kernel
theorem dX6_near_43 : decode cX6_near 43 = .ok (.istore 6, 2) := by decide +kernel
theorem dX6_near_45 : decode cX6_near 45 = .ok (.iload 6, 2) := by decide +kernel
theorem dX6_near_47 : decode cX6_near 47 = .ok (.aload_n 0, 1) := by decide +kernel
theorem dX6_near_48 : decode cX6_near 48 = .ok (.getfield 117, 3) := by decide +kernel
theorem dX6_near_51 : decode cX6_near 51 = .ok (.if_icmp .ge 116, 3) := by decide +kernel
theorem dX6_near_54 : decode cX6_near 54 = .ok (.aload_n 0, 1) := by decide +kernel
theorem dX6_near_55 : decode cX6_near 55 = .ok (.getfield 47, 3) := by decide +kernel
theorem dX6_near_58 : decode cX6_near 58 = .ok (.iload 6, 2) := by decide +kernel
theorem dX6_near_60 : decode cX6_near 60 = .ok (.baload, 1) := by decide +kernel
theorem dX6_near_61 : decode cX6_near 61 = .ok (.ifCond .eq 100, 3) := by decide +kernel
theorem dX6_near_64 : decode cX6_near 64 = .ok (.aload_n 0, 1) := by decide +kernel
theorem dX6_near_65 : decode cX6_near 65 = .ok (.getfield 25, 3) := by decide +kernel
theorem dX6_near_68 : decode cX6_near 68 = .ok (.aload_n 0, 1) := by decide +kernel
theorem dX6_near_69 : decode cX6_near 69 = .ok (.getfield 41, 3) := by decide +kernel
theorem dX6_near_72 : decode cX6_near 72 = .ok (.iload 6, 2) := by decide +kernel
theorem dX6_near_74 : decode cX6_near 74 = .ok (.iaload, 1) := by decide +kernel
theorem dX6_near_75 : decode cX6_near 75 = .ok (.iaload, 1) := by decide +kernel
theorem dX6_near_76 : decode cX6_near 76 = .ok (.iload_n 3, 1) := by decide +kernel
theorem dX6_near_77 : decode cX6_near 77 = .ok (.if_icmp .ne 84, 3) := by decide +kernel
theorem dX6_near_80 : decode cX6_near 80 = .ok (.aload_n 0, 1) := by decide +kernel
theorem dX6_near_81 : decode cX6_near 81 = .ok (.iload 6, 2) := by decide +kernel
theorem dX6_near_83 : decode cX6_near 83 = .ok (.invokevirtual 127, 3) := by decide +kernel
theorem dX6_near_86 : decode cX6_near 86 = .ok (.istore 7, 2) := by decide +kernel
theorem dX6_near_88 : decode cX6_near 88 = .ok (.iload 7, 2) := by decide +kernel
theorem dX6_near_90 : decode cX6_near 90 = .ok (.iload_n 2, 1) := by decide +kernel
theorem dX6_near_91 : decode cX6_near 91 = .ok (.if_icmp .ge 10, 3) := by decide +kernel
theorem dX6_near_94 : decode cX6_near 94 = .ok (.iload_n 2, 1) := by decide +kernel
theorem dX6_near_95 : decode cX6_near 95 = .ok (.iload 7, 2) := by decide +kernel
theorem dX6_near_97 : decode cX6_near 97 = .ok (.isub, 1) := by decide +kernel
theorem dX6_near_98 : decode cX6_near 98 = .ok (.goto 7, 3) := by decide +kernel
theorem dX6_near_101 : decode cX6_near 101 = .ok (.iload 7, 2) := by decide +kernel
theorem dX6_near_103 : decode cX6_near 103 = .ok (.iload_n 2, 1) := by decide +kernel
theorem dX6_near_104 : decode cX6_near 104 = .ok (.isub, 1) := by decide +kernel
theorem dX6_near_105 : decode cX6_near 105 = .ok (.istore 8, 2) := by decide +kernel
theorem dX6_near_107 : decode cX6_near 107 = .ok (.iload 8, 2) := by decide +kernel
theorem dX6_near_109 : decode cX6_near 109 = .ok (.sipush 1000, 3) := by decide +kernel
theorem dX6_near_112 : decode cX6_near 112 = .ok (.imul, 1) := by decide +kernel
theorem dX6_near_113 : decode cX6_near 113 = .ok (.iload 7, 2) := by decide +kernel
theorem dX6_near_115 : decode cX6_near 115 = .ok (.iadd, 1) := by decide +kernel
theorem dX6_near_116 : decode cX6_near 116 = .ok (.bipush 26, 2) := by decide +kernel
theorem dX6_near_118 : decode cX6_near 118 = .ok (.imul, 1) := by decide +kernel
theorem dX6_near_119 : decode cX6_near 119 = .ok (.aload_n 0, 1) := by decide +kernel
theorem dX6_near_120 : decode cX6_near 120 = .ok (.getfield 44, 3) := by decide +kernel
theorem dX6_near_123 : decode cX6_near 123 = .ok (.iload 6, 2) := by decide +kernel
theorem dX6_near_125 : decode cX6_near 125 = .ok (.iaload, 1) := by decide +kernel
theorem dX6_near_126 : decode cX6_near 126 = .ok (.iadd, 1) := by decide +kernel
theorem dX6_near_127 : decode cX6_near 127 = .ok (.istore 9, 2) := by decide +kernel
theorem dX6_near_129 : decode cX6_near 129 = .ok (.iload 9, 2) := by decide +kernel
theorem dX6_near_131 : decode cX6_near 131 = .ok (.iload 5, 2) := by decide +kernel
theorem dX6_near_133 : decode cX6_near 133 = .ok (.if_icmp .ge 8, 3) := by decide +kernel
theorem dX6_near_136 : decode cX6_near 136 = .ok (.iload 6, 2) := by decide +kernel
theorem dX6_near_138 : decode cX6_near 138 = .ok (.goto 5, 3) := by decide +kernel
theorem dX6_near_141 : decode cX6_near 141 = .ok (.iload 4, 2) := by decide +kernel
theorem dX6_near_143 : decode cX6_near 143 = .ok (.istore 4, 2) := by decide +kernel
theorem dX6_near_145 : decode cX6_near 145 = .ok (.iload 9, 2) := by decide +kernel
theorem dX6_near_147 : decode cX6_near 147 = .ok (.iload 5, 2) := by decide +kernel
theorem dX6_near_149 : decode cX6_near 149 = .ok (.if_icmp .ge 8, 3) := by decide +kernel
theorem dX6_near_152 : decode cX6_near 152 = .ok (.iload 9, 2) := by decide +kernel
theorem dX6_near_154 : decode cX6_near 154 = .ok (.goto 5, 3) := by decide +kernel
theorem dX6_near_157 : decode cX6_near 157 = .ok (.iload 5, 2) := by decide +kernel
theorem dX6_near_159 : decode cX6_near 159 = .ok (.istore 5, 2) := by decide +kernel
theorem dX6_near_161 : decode cX6_near 161 = .ok (.iinc 6 1, 3) := by decide +kernel
theorem dX6_near_164 : decode cX6_near 164 = .ok (.goto (-119), 3) := by decide +kernel
theorem dX6_near_167 : decode cX6_near 167 = .ok (.iload 4, 2) := by decide +kernel
theorem dX6_near_169 : decode cX6_near 169 = .ok (.ireturn, 1) := by decide +kernel
theorem dX6_onRound_0 : decode cX6_onRound 0 = .ok (.aload_n 0, 1) := by decide +kernel
theorem dX6_onRound_1 : decode cX6_onRound 1 = .ok (.iload_n 1, 1) := by decide +kernel
theorem dX6_onRound_2 : decode cX6_onRound 2 = .ok (.invokevirtual 127, 3) := by decide +kernel
theorem dX6_onRound_5 : decode cX6_onRound 5 = .ok (.istore_n 2, 1) := by decide +kernel
theorem dX6_onRound_6 : decode cX6_onRound 6 = .ok (.iload_n 2, 1) := by decide +kernel
theorem dX6_onRound_7 : decode cX6_onRound 7 = .ok (.iconst 2, 1) := by decide +kernel
theorem dX6_onRound_8 : decode cX6_onRound 8 = .ok (.irem, 1) := by decide +kernel
theorem dX6_onRound_9 : decode cX6_onRound 9 = .ok (.iconst 1, 1) := by decide +kernel
theorem dX6_onRound_10 : decode cX6_onRound 10 = .ok (.if_icmp .ne 7, 3) := by decide +kernel
theorem dX6_onRound_13 : decode cX6_onRound 13 = .ok (.iload_n 2, 1) := by decide +kernel
theorem dX6_onRound_14 : decode cX6_onRound 14 = .ok (.goto 8, 3) := by decide +kernel
theorem dX6_onRound_17 : decode cX6_onRound 17 = .ok (.sipush 3000, 3) := by decide +kernel
theorem dX6_onRound_20 : decode cX6_onRound 20 = .ok (.iload_n 2, 1) := by decide +kernel
theorem dX6_onRound_21 : decode cX6_onRound 21 = .ok (.isub, 1) := by decide +kernel
theorem dX6_onRound_22 : decode cX6_onRound 22 = .ok (.bipush 26, 2) := by decide +kernel
theorem dX6_onRound_24 : decode cX6_onRound 24 = .ok (.imul, 1) := by decide +kernel
theorem dX6_onRound_25 : decode cX6_onRound 25 = .ok (.aload_n 0, 1) := by decide +kernel
theorem dX6_onRound_26 : decode cX6_onRound 26 = .ok (.getfield 44, 3) := by decide +kernel
theorem dX6_onRound_29 : decode cX6_onRound 29 = .ok (.iload_n 1, 1) := by decide +kernel
theorem dX6_onRound_30 : decode cX6_onRound 30 = .ok (.iaload, 1) := by decide +kernel
theorem dX6_onRound_31 : decode cX6_onRound 31 = .ok (.iadd, 1) := by decide +kernel
theorem dX6_onRound_32 : decode cX6_onRound 32 = .ok (.ireturn, 1) := by decide +kernel
theorem dX6_order_0 : decode cX6_order 0 = .ok (.aload_n 0, 1) := by decide +kernel
theorem dX6_order_1 : decode cX6_order 1 = .ok (.iload_n 1, 1) := by decide +kernel
theorem dX6_order_2 : decode cX6_order 2 = .ok (.invokevirtual 163, 3) := by decide +kernel
theorem dX6_order_5 : decode cX6_order 5 = .ok (.ifCond .ne 6, 3) := by decide +kernel
theorem dX6_order_8 : decode cX6_order 8 = .ok (.bipush (-11), 2) := by decide +kernel
theorem dX6_order_10 : decode cX6_order 10 = .ok (.ireturn, 1) := by decide +kernel
theorem dX6_order_11 : decode cX6_order 11 = .ok (.aload_n 0, 1) := by decide +kernel
theorem dX6_order_12 : decode cX6_order 12 = .ok (.getfield 47, 3) := by decide +kernel
theorem dX6_order_15 : decode cX6_order 15 = .ok (.iload_n 1, 1) := by decide +kernel
theorem dX6_order_16 : decode cX6_order 16 = .ok (.baload, 1) := by decide +kernel
theorem dX6_order_17 : decode cX6_order 17 = .ok (.ifCond .ne 6, 3) := by decide +kernel
theorem dX6_order_20 : decode cX6_order 20 = .ok (.bipush (-13), 2) := by decide +kernel
theorem dX6_order_22 : decode cX6_order 22 = .ok (.ireturn, 1) := by decide +kernel
theorem dX6_order_23 : decode cX6_order 23 = .ok (.iconst 0, 1) := by decide +kernel
theorem dX6_order_24 : decode cX6_order 24 = .ok (.istore_n 2, 1) := by decide +kernel
theorem dX6_order_25 : decode cX6_order 25 = .ok (.iconst 0, 1) := by decide +kernel
theorem dX6_order_26 : decode cX6_order 26 = .ok (.istore_n 3, 1) := by decide +kernel
theorem dX6_order_27 : decode cX6_order 27 = .ok (.iload_n 3, 1) := by decide +kernel
theorem dX6_order_28 : decode cX6_order 28 = .ok (.aload_n 0, 1) := by decide +kernel
theorem dX6_order_29 : decode cX6_order 29 = .ok (.getfield 117, 3) := by decide +kernel
theorem dX6_order_32 : decode cX6_order 32 = .ok (.if_icmp .ge 76, 3) := by decide +kernel
theorem dX6_order_35 : decode cX6_order 35 = .ok (.aload_n 0, 1) := by decide +kernel
theorem dX6_order_36 : decode cX6_order 36 = .ok (.getfield 47, 3) := by decide +kernel
theorem dX6_order_39 : decode cX6_order 39 = .ok (.iload_n 3, 1) := by decide +kernel
theorem dX6_order_40 : decode cX6_order 40 = .ok (.baload, 1) := by decide +kernel
theorem dX6_order_41 : decode cX6_order 41 = .ok (.ifCond .eq 32, 3) := by decide +kernel
theorem dX6_order_44 : decode cX6_order 44 = .ok (.aload_n 0, 1) := by decide +kernel
theorem dX6_order_45 : decode cX6_order 45 = .ok (.getfield 25, 3) := by decide +kernel
theorem dX6_order_48 : decode cX6_order 48 = .ok (.aload_n 0, 1) := by decide +kernel
theorem dX6_order_49 : decode cX6_order 49 = .ok (.getfield 41, 3) := by decide +kernel
theorem dX6_order_52 : decode cX6_order 52 = .ok (.iload_n 3, 1) := by decide +kernel
theorem dX6_order_53 : decode cX6_order 53 = .ok (.iaload, 1) := by decide +kernel
theorem dX6_order_54 : decode cX6_order 54 = .ok (.iaload, 1) := by decide +kernel
theorem dX6_order_55 : decode cX6_order 55 = .ok (.aload_n 0, 1) := by decide +kernel
theorem dX6_order_56 : decode cX6_order 56 = .ok (.getfield 25, 3) := by decide +kernel
theorem dX6_order_59 : decode cX6_order 59 = .ok (.aload_n 0, 1) := by decide +kernel
theorem dX6_order_60 : decode cX6_order 60 = .ok (.getfield 41, 3) := by decide +kernel
theorem dX6_order_63 : decode cX6_order 63 = .ok (.iload_n 1, 1) := by decide +kernel
theorem dX6_order_64 : decode cX6_order 64 = .ok (.iaload, 1) := by decide +kernel
theorem dX6_order_65 : decode cX6_order 65 = .ok (.iaload, 1) := by decide +kernel
theorem dX6_order_66 : decode cX6_order 66 = .ok (.if_icmp .ne 7, 3) := by decide +kernel
theorem dX6_order_69 : decode cX6_order 69 = .ok (.iconst 1, 1) := by decide +kernel
theorem dX6_order_70 : decode cX6_order 70 = .ok (.goto 4, 3) := by decide +kernel
theorem dX6_order_73 : decode cX6_order 73 = .ok (.iconst 0, 1) := by decide +kernel
theorem dX6_order_74 : decode cX6_order 74 = .ok (.istore 4, 2) := by decide +kernel
theorem dX6_order_76 : decode cX6_order 76 = .ok (.iload_n 2, 1) := by decide +kernel
theorem dX6_order_77 : decode cX6_order 77 = .ok (.iload 4, 2) := by decide +kernel
theorem dX6_order_79 : decode cX6_order 79 = .ok (.ifCond .eq 20, 3) := by decide +kernel
theorem dX6_order_82 : decode cX6_order 82 = .ok (.aload_n 0, 1) := by decide +kernel
theorem dX6_order_83 : decode cX6_order 83 = .ok (.iload_n 3, 1) := by decide +kernel
theorem dX6_order_84 : decode cX6_order 84 = .ok (.invokevirtual 179, 3) := by decide +kernel
theorem dX6_order_87 : decode cX6_order 87 = .ok (.aload_n 0, 1) := by decide +kernel
theorem dX6_order_88 : decode cX6_order 88 = .ok (.iload_n 1, 1) := by decide +kernel
theorem dX6_order_89 : decode cX6_order 89 = .ok (.invokevirtual 179, 3) := by decide +kernel
theorem dX6_order_92 : decode cX6_order 92 = .ok (.if_icmp .ge 7, 3) := by decide +kernel
theorem dX6_order_95 : decode cX6_order 95 = .ok (.iconst 1, 1) := by decide +kernel
theorem dX6_order_96 : decode cX6_order 96 = .ok (.goto 4, 3) := by decide +kernel
theorem dX6_order_99 : decode cX6_order 99 = .ok (.iconst 0, 1) := by decide +kernel
theorem dX6_order_100 : decode cX6_order 100 = .ok (.iadd, 1) := by decide +kernel
theorem dX6_order_101 : decode cX6_order 101 = .ok (.istore_n 2, 1) := by decide +kernel
theorem dX6_order_102 : decode cX6_order 102 = .ok (.iinc 3 1, 3) := by decide +kernel
theorem dX6_order_105 : decode cX6_order 105 = .ok (.goto (-78), 3) := by decide +kernel
theorem dX6_order_108 : decode cX6_order 108 = .ok (.iload_n 2, 1) := by decide +kernel
theorem dX6_order_109 : decode cX6_order 109 = .ok (.ireturn, 1) := by decide +kernel
theorem dX6_holes_0 : decode cX6_holes 0 = .ok (.aload_n 0, 1) := by decide +kernel
theorem dX6_holes_1 : decode cX6_holes 1 = .ok (.iload_n 1, 1) := by decide +kernel
theorem dX6_holes_2 : decode cX6_holes 2 = .ok (.invokevirtual 102, 3) := by decide +kernel
theorem dX6_holes_5 : decode cX6_holes 5 = .ok (.ifCond .ne 6, 3) := by decide +kernel
theorem dX6_holes_8 : decode cX6_holes 8 = .ok (.bipush (-11), 2) := by decide +kernel
theorem dX6_holes_10 : decode cX6_holes 10 = .ok (.ireturn, 1) := by decide +kernel
theorem dX6_holes_11 : decode cX6_holes 11 = .ok (.aload_n 0, 1) := by decide +kernel
theorem dX6_holes_12 : decode cX6_holes 12 = .ok (.iload_n 1, 1) := by decide +kernel
theorem dX6_holes_13 : decode cX6_holes 13 = .ok (.aload_n 0, 1) := by decide +kernel
theorem dX6_holes_14 : decode cX6_holes 14 = .ok (.getfield 68, 3) := by decide +kernel
theorem dX6_holes_17 : decode cX6_holes 17 = .ok (.invokevirtual 176, 3) := by decide +kernel
theorem dX6_holes_20 : decode cX6_holes 20 = .ok (.istore_n 2, 1) := by decide +kernel
theorem dX6_holes_21 : decode cX6_holes 21 = .ok (.iconst 0, 1) := by decide +kernel
theorem dX6_holes_22 : decode cX6_holes 22 = .ok (.istore_n 3, 1) := by decide +kernel
theorem dX6_holes_23 : decode cX6_holes 23 = .ok (.iconst 0, 1) := by decide +kernel
theorem dX6_holes_24 : decode cX6_holes 24 = .ok (.istore 4, 2) := by decide +kernel
theorem dX6_holes_26 : decode cX6_holes 26 = .ok (.iload 4, 2) := by decide +kernel
theorem dX6_holes_28 : decode cX6_holes 28 = .ok (.aload_n 0, 1) := by decide +kernel
theorem dX6_holes_29 : decode cX6_holes 29 = .ok (.getfield 99, 3) := by decide +kernel
theorem dX6_holes_32 : decode cX6_holes 32 = .ok (.if_icmp .ge 151, 3) := by decide +kernel
theorem dX6_holes_35 : decode cX6_holes 35 = .ok (.aload_n 0, 1) := by decide +kernel
theorem dX6_holes_36 : decode cX6_holes 36 = .ok (.getfield 31, 3) := by decide +kernel
theorem dX6_holes_39 : decode cX6_holes 39 = .ok (.iload 4, 2) := by decide +kernel
theorem dX6_holes_41 : decode cX6_holes 41 = .ok (.iaload, 1) := by decide +kernel
theorem dX6_holes_42 : decode cX6_holes 42 = .ok (.istore 5, 2) := by decide +kernel
theorem dX6_holes_44 : decode cX6_holes 44 = .ok (.aload_n 0, 1) := by decide +kernel
theorem dX6_holes_45 : decode cX6_holes 45 = .ok (.getfield 37, 3) := by decide +kernel
theorem dX6_holes_48 : decode cX6_holes 48 = .ok (.iload 4, 2) := by decide +kernel
theorem dX6_holes_50 : decode cX6_holes 50 = .ok (.baload, 1) := by decide +kernel
theorem dX6_holes_51 : decode cX6_holes 51 = .ok (.ifCond .eq 126, 3) := by decide +kernel
theorem dX6_holes_54 : decode cX6_holes 54 = .ok (.aload_n 0, 1) := by decide +kernel
theorem dX6_holes_55 : decode cX6_holes 55 = .ok (.getfield 25, 3) := by decide +kernel
theorem dX6_holes_58 : decode cX6_holes 58 = .ok (.iload 4, 2) := by decide +kernel
theorem dX6_holes_60 : decode cX6_holes 60 = .ok (.iaload, 1) := by decide +kernel
theorem dX6_holes_61 : decode cX6_holes 61 = .ok (.iload_n 2, 1) := by decide +kernel
theorem dX6_holes_62 : decode cX6_holes 62 = .ok (.if_icmp .ne 115, 3) := by decide +kernel
theorem dX6_holes_65 : decode cX6_holes 65 = .ok (.iload 5, 2) := by decide +kernel
theorem dX6_holes_67 : decode cX6_holes 67 = .ok (.aload_n 0, 1) := by decide +kernel
theorem dX6_holes_68 : decode cX6_holes 68 = .ok (.getfield 34, 3) := by decide +kernel
theorem dX6_holes_71 : decode cX6_holes 71 = .ok (.iload 4, 2) := by decide +kernel
theorem dX6_holes_73 : decode cX6_holes 73 = .ok (.iaload, 1) := by decide +kernel
theorem dX6_holes_74 : decode cX6_holes 74 = .ok (.if_icmp .gt 103, 3) := by decide +kernel
theorem dX6_holes_77 : decode cX6_holes 77 = .ok (.aload_n 0, 1) := by decide +kernel
theorem dX6_holes_78 : decode cX6_holes 78 = .ok (.iload 4, 2) := by decide +kernel
theorem dX6_holes_80 : decode cX6_holes 80 = .ok (.iload 5, 2) := by decide +kernel
theorem dX6_holes_82 : decode cX6_holes 82 = .ok (.invokevirtual 96, 3) := by decide +kernel
theorem dX6_holes_85 : decode cX6_holes 85 = .ok (.ifCond .ne 7, 3) := by decide +kernel
theorem dX6_holes_88 : decode cX6_holes 88 = .ok (.iconst 1, 1) := by decide +kernel
theorem dX6_holes_89 : decode cX6_holes 89 = .ok (.goto 4, 3) := by decide +kernel
theorem dX6_holes_92 : decode cX6_holes 92 = .ok (.iconst 0, 1) := by decide +kernel
theorem dX6_holes_93 : decode cX6_holes 93 = .ok (.istore 6, 2) := by decide +kernel
theorem dX6_holes_95 : decode cX6_holes 95 = .ok (.iconst 0, 1) := by decide +kernel
theorem dX6_holes_96 : decode cX6_holes 96 = .ok (.istore 7, 2) := by decide +kernel
theorem dX6_holes_98 : decode cX6_holes 98 = .ok (.iload 7, 2) := by decide +kernel
theorem dX6_holes_100 : decode cX6_holes 100 = .ok (.aload_n 0, 1) := by decide +kernel
theorem dX6_holes_101 : decode cX6_holes 101 = .ok (.getfield 117, 3) := by decide +kernel
theorem dX6_holes_104 : decode cX6_holes 104 = .ok (.if_icmp .ge 54, 3) := by decide +kernel
theorem dX6_holes_107 : decode cX6_holes 107 = .ok (.iload 6, 2) := by decide +kernel
theorem dX6_holes_109 : decode cX6_holes 109 = .ok (.ifCond .ne 49, 3) := by decide +kernel
theorem dX6_holes_112 : decode cX6_holes 112 = .ok (.aload_n 0, 1) := by decide +kernel
theorem dX6_holes_113 : decode cX6_holes 113 = .ok (.getfield 47, 3) := by decide +kernel
theorem dX6_holes_116 : decode cX6_holes 116 = .ok (.iload 7, 2) := by decide +kernel
theorem dX6_holes_118 : decode cX6_holes 118 = .ok (.baload, 1) := by decide +kernel
theorem dX6_holes_119 : decode cX6_holes 119 = .ok (.ifCond .eq 30, 3) := by decide +kernel
theorem dX6_holes_122 : decode cX6_holes 122 = .ok (.aload_n 0, 1) := by decide +kernel
theorem dX6_holes_123 : decode cX6_holes 123 = .ok (.getfield 41, 3) := by decide +kernel
theorem dX6_holes_126 : decode cX6_holes 126 = .ok (.iload 7, 2) := by decide +kernel
theorem dX6_holes_128 : decode cX6_holes 128 = .ok (.iaload, 1) := by decide +kernel
theorem dX6_holes_129 : decode cX6_holes 129 = .ok (.iload 4, 2) := by decide +kernel
theorem dX6_holes_131 : decode cX6_holes 131 = .ok (.if_icmp .ne 18, 3) := by decide +kernel
theorem dX6_holes_134 : decode cX6_holes 134 = .ok (.aload_n 0, 1) := by decide +kernel
theorem dX6_holes_135 : decode cX6_holes 135 = .ok (.iload 7, 2) := by decide +kernel
theorem dX6_holes_137 : decode cX6_holes 137 = .ok (.invokevirtual 127, 3) := by decide +kernel
theorem dX6_holes_140 : decode cX6_holes 140 = .ok (.iload 5, 2) := by decide +kernel
theorem dX6_holes_142 : decode cX6_holes 142 = .ok (.if_icmp .ne 7, 3) := by decide +kernel
theorem dX6_holes_145 : decode cX6_holes 145 = .ok (.iconst 1, 1) := by decide +kernel
theorem dX6_holes_146 : decode cX6_holes 146 = .ok (.goto 4, 3) := by decide +kernel
theorem dX6_holes_149 : decode cX6_holes 149 = .ok (.iconst 0, 1) := by decide +kernel
theorem dX6_holes_150 : decode cX6_holes 150 = .ok (.istore 6, 2) := by decide +kernel
theorem dX6_holes_152 : decode cX6_holes 152 = .ok (.iinc 7 1, 3) := by decide +kernel
theorem dX6_holes_155 : decode cX6_holes 155 = .ok (.goto (-57), 3) := by decide +kernel
theorem dX6_holes_158 : decode cX6_holes 158 = .ok (.iload_n 3, 1) := by decide +kernel
theorem dX6_holes_159 : decode cX6_holes 159 = .ok (.iload 6, 2) := by decide +kernel
theorem dX6_holes_161 : decode cX6_holes 161 = .ok (.ifCond .eq 7, 3) := by decide +kernel
theorem dX6_holes_164 : decode cX6_holes 164 = .ok (.iconst 0, 1) := by decide +kernel
theorem dX6_holes_165 : decode cX6_holes 165 = .ok (.goto 4, 3) := by decide +kernel
theorem dX6_holes_168 : decode cX6_holes 168 = .ok (.iconst 1, 1) := by decide +kernel
theorem dX6_holes_169 : decode cX6_holes 169 = .ok (.iadd, 1) := by decide +kernel
theorem dX6_holes_170 : decode cX6_holes 170 = .ok (.istore_n 3, 1) := by decide +kernel
theorem dX6_holes_171 : decode cX6_holes 171 = .ok (.iinc 5 1, 3) := by decide +kernel
theorem dX6_holes_174 : decode cX6_holes 174 = .ok (.goto (-130), 3) := by decide +kernel
theorem dX6_holes_177 : decode cX6_holes 177 = .ok (.iinc 4 1, 3) := by decide +kernel
theorem dX6_holes_180 : decode cX6_holes 180 = .ok (.goto (-154), 3) := by decide +kernel
theorem dX6_holes_183 : decode cX6_holes 183 = .ok (.iload_n 3, 1) := by decide +kernel
theorem dX6_holes_184 : decode cX6_holes 184 = .ok (.ireturn, 1) := by decide +kernel
theorem dX6_where_0 : decode cX6_where 0 = .ok (.aload_n 0, 1) := by decide +kernel
theorem dX6_where_1 : decode cX6_where 1 = .ok (.iload_n 1, 1) := by decide +kernel
theorem dX6_where_2 : decode cX6_where 2 = .ok (.invokevirtual 163, 3) := by decide +kernel
theorem dX6_where_5 : decode cX6_where 5 = .ok (.ifCond .ne 6, 3) := by decide +kernel
theorem dX6_where_8 : decode cX6_where 8 = .ok (.bipush (-11), 2) := by decide +kernel
theorem dX6_where_10 : decode cX6_where 10 = .ok (.ireturn, 1) := by decide +kernel
theorem dX6_where_11 : decode cX6_where 11 = .ok (.iload_n 2, 1) := by decide +kernel
theorem dX6_where_12 : decode cX6_where 12 = .ok (.iconst 0, 1) := by decide +kernel
theorem dX6_where_13 : decode cX6_where 13 = .ok (.iconst 3, 1) := by decide +kernel
theorem dX6_where_14 : decode cX6_where 14 = .ok (.invokestatic 73, 3) := by decide +kernel
theorem dX6_where_17 : decode cX6_where 17 = .ok (.ifCond .eq 13, 3) := by decide +kernel
theorem dX6_where_20 : decode cX6_where 20 = .ok (.iload_n 3, 1) := by decide +kernel
theorem dX6_where_21 : decode cX6_where 21 = .ok (.iconst 0, 1) := by decide +kernel
theorem dX6_where_22 : decode cX6_where 22 = .ok (.ldc 72, 2) := by decide +kernel
theorem dX6_where_24 : decode cX6_where 24 = .ok (.invokestatic 73, 3) := by decide +kernel
theorem dX6_where_27 : decode cX6_where 27 = .ok (.ifCond .ne 6, 3) := by decide +kernel
theorem dX6_where_30 : decode cX6_where 30 = .ok (.bipush (-12), 2) := by decide +kernel
theorem dX6_where_32 : decode cX6_where 32 = .ok (.ireturn, 1) := by decide +kernel
theorem dX6_where_33 : decode cX6_where 33 = .ok (.iload_n 2, 1) := by decide +kernel
theorem dX6_where_34 : decode cX6_where 34 = .ok (.iconst 1, 1) := by decide +kernel
theorem dX6_where_35 : decode cX6_where 35 = .ok (.if_icmp .le 24, 3) := by decide +kernel
theorem dX6_where_38 : decode cX6_where 38 = .ok (.iload_n 2, 1) := by decide +kernel
theorem dX6_where_39 : decode cX6_where 39 = .ok (.iconst 2, 1) := by decide +kernel
theorem dX6_where_40 : decode cX6_where 40 = .ok (.if_icmp .ne 12, 3) := by decide +kernel
theorem dX6_where_43 : decode cX6_where 43 = .ok (.aload_n 0, 1) := by decide +kernel
theorem dX6_where_44 : decode cX6_where 44 = .ok (.getfield 44, 3) := by decide +kernel
theorem dX6_where_47 : decode cX6_where 47 = .ok (.iload_n 1, 1) := by decide +kernel
theorem dX6_where_48 : decode cX6_where 48 = .ok (.iaload, 1) := by decide +kernel
theorem dX6_where_49 : decode cX6_where 49 = .ok (.goto 9, 3) := by decide +kernel
theorem dX6_where_52 : decode cX6_where 52 = .ok (.aload_n 0, 1) := by decide +kernel
theorem dX6_where_53 : decode cX6_where 53 = .ok (.getfield 41, 3) := by decide +kernel
theorem dX6_where_56 : decode cX6_where 56 = .ok (.iload_n 1, 1) := by decide +kernel
theorem dX6_where_57 : decode cX6_where 57 = .ok (.iaload, 1) := by decide +kernel
theorem dX6_where_58 : decode cX6_where 58 = .ok (.ireturn, 1) := by decide +kernel
theorem dX6_where_59 : decode cX6_where 59 = .ok (.iconst 0, 1) := by decide +kernel
theorem dX6_where_60 : decode cX6_where 60 = .ok (.istore 4, 2) := by decide +kernel
theorem dX6_where_62 : decode cX6_where 62 = .ok (.iload 4, 2) := by decide +kernel
theorem dX6_where_64 : decode cX6_where 64 = .ok (.aload_n 0, 1) := by decide +kernel
theorem dX6_where_65 : decode cX6_where 65 = .ok (.getfield 120, 3) := by decide +kernel
theorem dX6_where_68 : decode cX6_where 68 = .ok (.if_icmp .ge 64, 3) := by decide +kernel
theorem dX6_where_71 : decode cX6_where 71 = .ok (.aload_n 0, 1) := by decide +kernel
theorem dX6_where_72 : decode cX6_where 72 = .ok (.getfield 50, 3) := by decide +kernel
theorem dX6_where_75 : decode cX6_where 75 = .ok (.iload 4, 2) := by decide +kernel
theorem dX6_where_77 : decode cX6_where 77 = .ok (.iaload, 1) := by decide +kernel
theorem dX6_where_78 : decode cX6_where 78 = .ok (.iload_n 1, 1) := by decide +kernel
theorem dX6_where_79 : decode cX6_where 79 = .ok (.if_icmp .ne 47, 3) := by decide +kernel
theorem dX6_where_82 : decode cX6_where 82 = .ok (.aload_n 0, 1) := by decide +kernel
theorem dX6_where_83 : decode cX6_where 83 = .ok (.getfield 59, 3) := by decide +kernel
theorem dX6_where_86 : decode cX6_where 86 = .ok (.iload 4, 2) := by decide +kernel
theorem dX6_where_88 : decode cX6_where 88 = .ok (.iaload, 1) := by decide +kernel
theorem dX6_where_89 : decode cX6_where 89 = .ok (.iload_n 3, 1) := by decide +kernel
theorem dX6_where_90 : decode cX6_where 90 = .ok (.if_icmp .gt 36, 3) := by decide +kernel
theorem dX6_where_93 : decode cX6_where 93 = .ok (.iload_n 3, 1) := by decide +kernel
theorem dX6_where_94 : decode cX6_where 94 = .ok (.aload_n 0, 1) := by decide +kernel
theorem dX6_where_95 : decode cX6_where 95 = .ok (.getfield 62, 3) := by decide +kernel
theorem dX6_where_98 : decode cX6_where 98 = .ok (.iload 4, 2) := by decide +kernel
theorem dX6_where_100 : decode cX6_where 100 = .ok (.iaload, 1) := by decide +kernel
theorem dX6_where_101 : decode cX6_where 101 = .ok (.if_icmp .ge 25, 3) := by decide +kernel
theorem dX6_where_104 : decode cX6_where 104 = .ok (.iload_n 2, 1) := by decide +kernel
theorem dX6_where_105 : decode cX6_where 105 = .ok (.ifCond .ne 13, 3) := by decide +kernel
theorem dX6_where_108 : decode cX6_where 108 = .ok (.aload_n 0, 1) := by decide +kernel
theorem dX6_where_109 : decode cX6_where 109 = .ok (.getfield 53, 3) := by decide +kernel
theorem dX6_where_112 : decode cX6_where 112 = .ok (.iload 4, 2) := by decide +kernel
theorem dX6_where_114 : decode cX6_where 114 = .ok (.iaload, 1) := by decide +kernel
theorem dX6_where_115 : decode cX6_where 115 = .ok (.goto 10, 3) := by decide +kernel
theorem dX6_where_118 : decode cX6_where 118 = .ok (.aload_n 0, 1) := by decide +kernel
theorem dX6_where_119 : decode cX6_where 119 = .ok (.getfield 56, 3) := by decide +kernel
theorem dX6_where_122 : decode cX6_where 122 = .ok (.iload 4, 2) := by decide +kernel
theorem dX6_where_124 : decode cX6_where 124 = .ok (.iaload, 1) := by decide +kernel
theorem dX6_where_125 : decode cX6_where 125 = .ok (.ireturn, 1) := by decide +kernel
theorem dX6_where_126 : decode cX6_where 126 = .ok (.iinc 4 1, 3) := by decide +kernel
theorem dX6_where_129 : decode cX6_where 129 = .ok (.goto (-67), 3) := by decide +kernel
theorem dX6_where_132 : decode cX6_where 132 = .ok (.iconst (-1), 1) := by decide +kernel
theorem dX6_where_133 : decode cX6_where 133 = .ok (.ireturn, 1) := by decide +kernel
theorem dX6_count_0 : decode cX6_count 0 = .ok (.iconst 0, 1) := by decide +kernel
theorem dX6_count_1 : decode cX6_count 1 = .ok (.istore_n 2, 1) := by decide +kernel
theorem dX6_count_2 : decode cX6_count 2 = .ok (.iload_n 1, 1) := by decide +kernel
theorem dX6_count_3 : decode cX6_count 3 = .ok (.tableswitch 118 0 4 #[33, 38, 43, 78, 113], 33) := by decide +kernel
theorem dX6_count_36 : decode cX6_count 36 = .ok (.aload_n 0, 1) := by decide +kernel
theorem dX6_count_37 : decode cX6_count 37 = .ok (.getfield 82, 3) := by decide +kernel
theorem dX6_count_40 : decode cX6_count 40 = .ok (.ireturn, 1) := by decide +kernel
theorem dX6_count_41 : decode cX6_count 41 = .ok (.aload_n 0, 1) := by decide +kernel
theorem dX6_count_42 : decode cX6_count 42 = .ok (.getfield 85, 3) := by decide +kernel
theorem dX6_count_45 : decode cX6_count 45 = .ok (.ireturn, 1) := by decide +kernel
theorem dX6_count_46 : decode cX6_count 46 = .ok (.iconst 0, 1) := by decide +kernel
theorem dX6_count_47 : decode cX6_count 47 = .ok (.istore_n 3, 1) := by decide +kernel
theorem dX6_count_48 : decode cX6_count 48 = .ok (.iload_n 3, 1) := by decide +kernel
theorem dX6_count_49 : decode cX6_count 49 = .ok (.aload_n 0, 1) := by decide +kernel
theorem dX6_count_50 : decode cX6_count 50 = .ok (.getfield 99, 3) := by decide +kernel
theorem dX6_count_53 : decode cX6_count 53 = .ok (.if_icmp .ge 26, 3) := by decide +kernel
theorem dX6_count_56 : decode cX6_count 56 = .ok (.iload_n 2, 1) := by decide +kernel
theorem dX6_count_57 : decode cX6_count 57 = .ok (.aload_n 0, 1) := by decide +kernel
theorem dX6_count_58 : decode cX6_count 58 = .ok (.getfield 37, 3) := by decide +kernel
theorem dX6_count_61 : decode cX6_count 61 = .ok (.iload_n 3, 1) := by decide +kernel
theorem dX6_count_62 : decode cX6_count 62 = .ok (.baload, 1) := by decide +kernel
theorem dX6_count_63 : decode cX6_count 63 = .ok (.ifCond .eq 7, 3) := by decide +kernel
theorem dX6_count_66 : decode cX6_count 66 = .ok (.iconst 1, 1) := by decide +kernel
theorem dX6_count_67 : decode cX6_count 67 = .ok (.goto 4, 3) := by decide +kernel
theorem dX6_count_70 : decode cX6_count 70 = .ok (.iconst 0, 1) := by decide +kernel
theorem dX6_count_71 : decode cX6_count 71 = .ok (.iadd, 1) := by decide +kernel
theorem dX6_count_72 : decode cX6_count 72 = .ok (.istore_n 2, 1) := by decide +kernel
theorem dX6_count_73 : decode cX6_count 73 = .ok (.iinc 3 1, 3) := by decide +kernel
theorem dX6_count_76 : decode cX6_count 76 = .ok (.goto (-28), 3) := by decide +kernel
theorem dX6_count_79 : decode cX6_count 79 = .ok (.iload_n 2, 1) := by decide +kernel
theorem dX6_count_80 : decode cX6_count 80 = .ok (.ireturn, 1) := by decide +kernel
theorem dX6_count_81 : decode cX6_count 81 = .ok (.iconst 0, 1) := by decide +kernel
theorem dX6_count_82 : decode cX6_count 82 = .ok (.istore_n 3, 1) := by decide +kernel
theorem dX6_count_83 : decode cX6_count 83 = .ok (.iload_n 3, 1) := by decide +kernel
theorem dX6_count_84 : decode cX6_count 84 = .ok (.aload_n 0, 1) := by decide +kernel
theorem dX6_count_85 : decode cX6_count 85 = .ok (.getfield 117, 3) := by decide +kernel
theorem dX6_count_88 : decode cX6_count 88 = .ok (.if_icmp .ge 26, 3) := by decide +kernel
theorem dX6_count_91 : decode cX6_count 91 = .ok (.iload_n 2, 1) := by decide +kernel
theorem dX6_count_92 : decode cX6_count 92 = .ok (.aload_n 0, 1) := by decide +kernel
theorem dX6_count_93 : decode cX6_count 93 = .ok (.getfield 47, 3) := by decide +kernel
theorem dX6_count_96 : decode cX6_count 96 = .ok (.iload_n 3, 1) := by decide +kernel
theorem dX6_count_97 : decode cX6_count 97 = .ok (.baload, 1) := by decide +kernel
theorem dX6_count_98 : decode cX6_count 98 = .ok (.ifCond .eq 7, 3) := by decide +kernel
theorem dX6_count_101 : decode cX6_count 101 = .ok (.iconst 1, 1) := by decide +kernel
theorem dX6_count_102 : decode cX6_count 102 = .ok (.goto 4, 3) := by decide +kernel
theorem dX6_count_105 : decode cX6_count 105 = .ok (.iconst 0, 1) := by decide +kernel
theorem dX6_count_106 : decode cX6_count 106 = .ok (.iadd, 1) := by decide +kernel
theorem dX6_count_107 : decode cX6_count 107 = .ok (.istore_n 2, 1) := by decide +kernel
theorem dX6_count_108 : decode cX6_count 108 = .ok (.iinc 3 1, 3) := by decide +kernel
theorem dX6_count_111 : decode cX6_count 111 = .ok (.goto (-28), 3) := by decide +kernel
theorem dX6_count_114 : decode cX6_count 114 = .ok (.iload_n 2, 1) := by decide +kernel
theorem dX6_count_115 : decode cX6_count 115 = .ok (.ireturn, 1) := by decide +kernel
theorem dX6_count_116 : decode cX6_count 116 = .ok (.aload_n 0, 1) := by decide +kernel
theorem dX6_count_117 : decode cX6_count 117 = .ok (.getfield 68, 3) := by decide +kernel
theorem dX6_count_120 : decode cX6_count 120 = .ok (.ireturn, 1) := by decide +kernel
theorem dX6_count_121 : decode cX6_count 121 = .ok (.bipush (-12), 2) := by decide +kernel
theorem dX6_count_123 : decode cX6_count 123 = .ok (.ireturn, 1) := by decide +kernel
