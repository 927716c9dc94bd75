theorem dX1_init_0 : decode cX1_init 0 = .ok (.aload_n 0, 1) := by decide +kernel
theorem dX1_init_1 : decode cX1_init 1 = .ok (.invokespecial 3, 3) := by decide +kernel
theorem dX1_init_4 : decode cX1_init 4 = .ok (.aload_n 0, 1) := by decide +kernel
theorem dX1_init_5 : decode cX1_init 5 = .ok (.bipush 16, 2) := by decide +kernel
theorem dX1_init_7 : decode cX1_init 7 = .ok (.newarray .int, 2) := by decide +kernel
theorem dX1_init_9 : decode cX1_init 9 = .ok (.putfield 9, 3) := by decide +kernel
theorem dX1_init_12 : decode cX1_init 12 = .ok (.aload_n 0, 1) := by decide +kernel
theorem dX1_init_13 : decode cX1_init 13 = .ok (.iconst 0, 1) := by decide +kernel
theorem dX1_init_14 : decode cX1_init 14 = .ok (.putfield 15, 3) := by decide +kernel
theorem dX1_init_17 : decode cX1_init 17 = .ok (.return_, 1) := by decide +kernel
theorem dX1_has_0 : decode cX1_has 0 = .ok (.iload_n 1, 1) := by decide +kernel
theorem dX1_has_1 : decode cX1_has 1 = .ok (.ifCond .lt 15, 3) := by decide +kernel
theorem dX1_has_4 : decode cX1_has 4 = .ok (.iload_n 1, 1) := by decide +kernel
theorem dX1_has_5 : decode cX1_has 5 = .ok (.aload_n 0, 1) := by decide +kernel
theorem dX1_has_6 : decode cX1_has 6 = .ok (.getfield 15, 3) := by decide +kernel
theorem dX1_has_9 : decode cX1_has 9 = .ok (.if_icmp .ge 7, 3) := by decide +kernel
theorem dX1_has_12 : decode cX1_has 12 = .ok (.iconst 1, 1) := by decide +kernel
theorem dX1_has_13 : decode cX1_has 13 = .ok (.goto 4, 3) := by decide +kernel
theorem dX1_has_16 : decode cX1_has 16 = .ok (.iconst 0, 1) := by decide +kernel
theorem dX1_has_17 : decode cX1_has 17 = .ok (.ireturn, 1) := by decide +kernel
theorem dX1_isFull_0 : decode cX1_isFull 0 = .ok (.aload_n 0, 1) := by decide +kernel
theorem dX1_isFull_1 : decode cX1_isFull 1 = .ok (.getfield 15, 3) := by decide +kernel
theorem dX1_isFull_4 : decode cX1_isFull 4 = .ok (.bipush 16, 2) := by decide +kernel
theorem dX1_isFull_6 : decode cX1_isFull 6 = .ok (.if_icmp .lt 7, 3) := by decide +kernel
theorem dX1_isFull_9 : decode cX1_isFull 9 = .ok (.iconst 1, 1) := by decide +kernel
theorem dX1_isFull_10 : decode cX1_isFull 10 = .ok (.goto 4, 3) := by decide +kernel
theorem dX1_isFull_13 : decode cX1_isFull 13 = .ok (.iconst 0, 1) := by decide +kernel
theorem dX1_isFull_14 : decode cX1_isFull 14 = .ok (.ireturn, 1) := by decide +kernel
theorem dX1_withCode_0 : decode cX1_withCode 0 = .ok (.iconst 0, 1) := by decide +kernel
theorem dX1_withCode_1 : decode cX1_withCode 1 = .ok (.istore_n 2, 1) := by decide +kernel
theorem dX1_withCode_2 : decode cX1_withCode 2 = .ok (.iload_n 2, 1) := by decide +kernel
theorem dX1_withCode_3 : decode cX1_withCode 3 = .ok (.aload_n 0, 1) := by decide +kernel
theorem dX1_withCode_4 : decode cX1_withCode 4 = .ok (.getfield 15, 3) := by decide +kernel
theorem dX1_withCode_7 : decode cX1_withCode 7 = .ok (.if_icmp .ge 21, 3) := by decide +kernel
theorem dX1_withCode_10 : decode cX1_withCode 10 = .ok (.aload_n 0, 1) := by decide +kernel
theorem dX1_withCode_11 : decode cX1_withCode 11 = .ok (.getfield 9, 3) := by decide +kernel
theorem dX1_withCode_14 : decode cX1_withCode 14 = .ok (.iload_n 2, 1) := by decide +kernel
theorem dX1_withCode_15 : decode cX1_withCode 15 = .ok (.iaload, 1) := by decide +kernel
theorem dX1_withCode_16 : decode cX1_withCode 16 = .ok (.iload_n 1, 1) := by decide +kernel
theorem dX1_withCode_17 : decode cX1_withCode 17 = .ok (.if_icmp .ne 5, 3) := by decide +kernel
theorem dX1_withCode_20 : decode cX1_withCode 20 = .ok (.iload_n 2, 1) := by decide +kernel
theorem dX1_withCode_21 : decode cX1_withCode 21 = .ok (.ireturn, 1) := by decide +kernel
theorem dX1_withCode_22 : decode cX1_withCode 22 = .ok (.iinc 2 1, 3) := by decide +kernel
theorem dX1_withCode_25 : decode cX1_withCode 25 = .ok (.goto (-23), 3) := by decide +kernel
theorem dX1_withCode_28 : decode cX1_withCode 28 = .ok (.iconst (-1), 1) := by decide +kernel
theorem dX1_withCode_29 : decode cX1_withCode 29 = .ok (.ireturn, 1) := by decide +kernel
theorem dX1_add_0 : decode cX1_add 0 = .ok (.aload_n 0, 1) := by decide +kernel
theorem dX1_add_1 : decode cX1_add 1 = .ok (.getfield 9, 3) := by decide +kernel
theorem dX1_add_4 : decode cX1_add 4 = .ok (.aload_n 0, 1) := by decide +kernel
theorem dX1_add_5 : decode cX1_add 5 = .ok (.getfield 15, 3) := by decide +kernel
theorem dX1_add_8 : decode cX1_add 8 = .ok (.iload_n 1, 1) := by decide +kernel
theorem dX1_add_9 : decode cX1_add 9 = .ok (.iastore, 1) := by decide +kernel
theorem dX1_add_10 : decode cX1_add 10 = .ok (.aload_n 0, 1) := by decide +kernel
theorem dX1_add_11 : decode cX1_add 11 = .ok (.dup, 1) := by decide +kernel
theorem dX1_add_12 : decode cX1_add 12 = .ok (.getfield 15, 3) := by decide +kernel
theorem dX1_add_15 : decode cX1_add 15 = .ok (.iconst 1, 1) := by decide +kernel
theorem dX1_add_16 : decode cX1_add 16 = .ok (.iadd, 1) := by decide +kernel
theorem dX1_add_17 : decode cX1_add 17 = .ok (.putfield 15, 3) := by decide +kernel
theorem dX1_add_20 : decode cX1_add 20 = .ok (.aload_n 0, 1) := by decide +kernel
theorem dX1_add_21 : decode cX1_add 21 = .ok (.getfield 15, 3) := by decide +kernel
theorem dX1_add_24 : decode cX1_add 24 = .ok (.iconst 1, 1) := by decide +kernel
theorem dX1_add_25 : decode cX1_add 25 = .ok (.isub, 1) := by decide +kernel
theorem dX1_add_26 : decode cX1_add 26 = .ok (.ireturn, 1) := by decide +kernel
theorem dX2_init_0 : decode cX2_init 0 = .ok (.aload_n 0, 1) := by decide +kernel
theorem dX2_init_1 : decode cX2_init 1 = .ok (.invokespecial 3, 3) := by decide +kernel
theorem dX2_init_4 : decode cX2_init 4 = .ok (.aload_n 0, 1) := by decide +kernel
theorem dX2_init_5 : decode cX2_init 5 = .ok (.bipush 32, 2) := by decide +kernel
theorem dX2_init_7 : decode cX2_init 7 = .ok (.newarray .int, 2) := by decide +kernel
theorem dX2_init_9 : decode cX2_init 9 = .ok (.putfield 9, 3) := by decide +kernel
theorem dX2_init_12 : decode cX2_init 12 = .ok (.aload_n 0, 1) := by decide +kernel
theorem dX2_init_13 : decode cX2_init 13 = .ok (.bipush 32, 2) := by decide +kernel
theorem dX2_init_15 : decode cX2_init 15 = .ok (.newarray .int, 2) := by decide +kernel
theorem dX2_init_17 : decode cX2_init 17 = .ok (.putfield 15, 3) := by decide +kernel
theorem dX2_init_20 : decode cX2_init 20 = .ok (.aload_n 0, 1) := by decide +kernel
theorem dX2_init_21 : decode cX2_init 21 = .ok (.bipush 32, 2) := by decide +kernel
theorem dX2_init_23 : decode cX2_init 23 = .ok (.newarray .boolean, 2) := by decide +kernel
theorem dX2_init_25 : decode cX2_init 25 = .ok (.putfield 18, 3) := by decide +kernel
theorem dX2_init_28 : decode cX2_init 28 = .ok (.aload_n 0, 1) := by decide +kernel
theorem dX2_init_29 : decode cX2_init 29 = .ok (.bipush 32, 2) := by decide +kernel
theorem dX2_init_31 : decode cX2_init 31 = .ok (.newarray .int, 2) := by decide +kernel
theorem dX2_init_33 : decode cX2_init 33 = .ok (.putfield 22, 3) := by decide +kernel
theorem dX2_init_36 : decode cX2_init 36 = .ok (.aload_n 0, 1) := by decide +kernel
theorem dX2_init_37 : decode cX2_init 37 = .ok (.bipush 32, 2) := by decide +kernel
theorem dX2_init_39 : decode cX2_init 39 = .ok (.newarray .int, 2) := by decide +kernel
theorem dX2_init_41 : decode cX2_init 41 = .ok (.putfield 25, 3) := by decide +kernel
theorem dX2_init_44 : decode cX2_init 44 = .ok (.aload_n 0, 1) := by decide +kernel
theorem dX2_init_45 : decode cX2_init 45 = .ok (.iconst 0, 1) := by decide +kernel
theorem dX2_init_46 : decode cX2_init 46 = .ok (.putfield 28, 3) := by decide +kernel
theorem dX2_init_49 : decode cX2_init 49 = .ok (.return_, 1) := by decide +kernel
theorem dX2_has_0 : decode cX2_has 0 = .ok (.iload_n 1, 1) := by decide +kernel
theorem dX2_has_1 : decode cX2_has 1 = .ok (.ifCond .lt 15, 3) := by decide +kernel
theorem dX2_has_4 : decode cX2_has 4 = .ok (.iload_n 1, 1) := by decide +kernel
theorem dX2_has_5 : decode cX2_has 5 = .ok (.aload_n 0, 1) := by decide +kernel
theorem dX2_has_6 : decode cX2_has 6 = .ok (.getfield 28, 3) := by decide +kernel
theorem dX2_has_9 : decode cX2_has 9 = .ok (.if_icmp .ge 7, 3) := by decide +kernel
theorem dX2_has_12 : decode cX2_has 12 = .ok (.iconst 1, 1) := by decide +kernel
theorem dX2_has_13 : decode cX2_has 13 = .ok (.goto 4, 3) := by decide +kernel
theorem dX2_has_16 : decode cX2_has 16 = .ok (.iconst 0, 1) := by decide +kernel
theorem dX2_has_17 : decode cX2_has 17 = .ok (.ireturn, 1) := by decide +kernel
theorem dX2_isFull_0 : decode cX2_isFull 0 = .ok (.aload_n 0, 1) := by decide +kernel
theorem dX2_isFull_1 : decode cX2_isFull 1 = .ok (.getfield 28, 3) := by decide +kernel
theorem dX2_isFull_4 : decode cX2_isFull 4 = .ok (.bipush 32, 2) := by decide +kernel
theorem dX2_isFull_6 : decode cX2_isFull 6 = .ok (.if_icmp .lt 7, 3) := by decide +kernel
theorem dX2_isFull_9 : decode cX2_isFull 9 = .ok (.iconst 1, 1) := by decide +kernel
theorem dX2_isFull_10 : decode cX2_isFull 10 = .ok (.goto 4, 3) := by decide +kernel
theorem dX2_isFull_13 : decode cX2_isFull 13 = .ok (.iconst 0, 1) := by decide +kernel
theorem dX2_isFull_14 : decode cX2_isFull 14 = .ok (.ireturn, 1) := by decide +kernel
theorem dX2_named_0 : decode cX2_named 0 = .ok (.iconst 0, 1) := by decide +kernel
theorem dX2_named_1 : decode cX2_named 1 = .ok (.istore_n 3, 1) := by decide +kernel
theorem dX2_named_2 : decode cX2_named 2 = .ok (.iload_n 3, 1) := by decide +kernel
theorem dX2_named_3 : decode cX2_named 3 = .ok (.aload_n 0, 1) := by decide +kernel
theorem dX2_named_4 : decode cX2_named 4 = .ok (.getfield 28, 3) := by decide +kernel
theorem dX2_named_7 : decode cX2_named 7 = .ok (.if_icmp .ge 31, 3) := by decide +kernel
theorem dX2_named_10 : decode cX2_named 10 = .ok (.aload_n 0, 1) := by decide +kernel
theorem dX2_named_11 : decode cX2_named 11 = .ok (.getfield 9, 3) := by decide +kernel
theorem dX2_named_14 : decode cX2_named 14 = .ok (.iload_n 3, 1) := by decide +kernel
theorem dX2_named_15 : decode cX2_named 15 = .ok (.iaload, 1) := by decide +kernel
theorem dX2_named_16 : decode cX2_named 16 = .ok (.iload_n 1, 1) := by decide +kernel
theorem dX2_named_17 : decode cX2_named 17 = .ok (.if_icmp .ne 15, 3) := by decide +kernel
theorem dX2_named_20 : decode cX2_named 20 = .ok (.aload_n 0, 1) := by decide +kernel
theorem dX2_named_21 : decode cX2_named 21 = .ok (.getfield 15, 3) := by decide +kernel
theorem dX2_named_24 : decode cX2_named 24 = .ok (.iload_n 3, 1) := by decide +kernel
theorem dX2_named_25 : decode cX2_named 25 = .ok (.iaload, 1) := by decide +kernel
theorem dX2_named_26 : decode cX2_named 26 = .ok (.iload_n 2, 1) := by decide +kernel
theorem dX2_named_27 : decode cX2_named 27 = .ok (.if_icmp .ne 5, 3) := by decide +kernel
theorem dX2_named_30 : decode cX2_named 30 = .ok (.iload_n 3, 1) := by decide +kernel
theorem dX2_named_31 : decode cX2_named 31 = .ok (.ireturn, 1) := by decide +kernel
theorem dX2_named_32 : decode cX2_named 32 = .ok (.iinc 3 1, 3) := by decide +kernel
theorem dX2_named_35 : decode cX2_named 35 = .ok (.goto (-33), 3) := by decide +kernel
theorem dX2_named_38 : decode cX2_named 38 = .ok (.iconst (-1), 1) := by decide +kernel
theorem dX2_named_39 : decode cX2_named 39 = .ok (.ireturn, 1) := by decide +kernel
theorem dX2_add_0 : decode cX2_add 0 = .ok (.aload_n 0, 1) := by decide +kernel
theorem dX2_add_1 : decode cX2_add 1 = .ok (.getfield 9, 3) := by decide +kernel
theorem dX2_add_4 : decode cX2_add 4 = .ok (.aload_n 0, 1) := by decide +kernel
theorem dX2_add_5 : decode cX2_add 5 = .ok (.getfield 28, 3) := by decide +kernel
theorem dX2_add_8 : decode cX2_add 8 = .ok (.iload_n 1, 1) := by decide +kernel
theorem dX2_add_9 : decode cX2_add 9 = .ok (.iastore, 1) := by decide +kernel
theorem dX2_add_10 : decode cX2_add 10 = .ok (.aload_n 0, 1) := by decide +kernel
theorem dX2_add_11 : decode cX2_add 11 = .ok (.getfield 15, 3) := by decide +kernel
theorem dX2_add_14 : decode cX2_add 14 = .ok (.aload_n 0, 1) := by decide +kernel
theorem dX2_add_15 : decode cX2_add 15 = .ok (.getfield 28, 3) := by decide +kernel
theorem dX2_add_18 : decode cX2_add 18 = .ok (.iload_n 2, 1) := by decide +kernel
theorem dX2_add_19 : decode cX2_add 19 = .ok (.iastore, 1) := by decide +kernel
theorem dX2_add_20 : decode cX2_add 20 = .ok (.aload_n 0, 1) := by decide +kernel
theorem dX2_add_21 : decode cX2_add 21 = .ok (.dup, 1) := by decide +kernel
theorem dX2_add_22 : decode cX2_add 22 = .ok (.getfield 28, 3) := by decide +kernel
theorem dX2_add_25 : decode cX2_add 25 = .ok (.iconst 1, 1) := by decide +kernel
theorem dX2_add_26 : decode cX2_add 26 = .ok (.iadd, 1) := by decide +kernel
theorem dX2_add_27 : decode cX2_add 27 = .ok (.putfield 28, 3) := by decide +kernel
theorem dX2_add_30 : decode cX2_add 30 = .ok (.aload_n 0, 1) := by decide +kernel
theorem dX2_add_31 : decode cX2_add 31 = .ok (.getfield 28, 3) := by decide +kernel
theorem dX2_add_34 : decode cX2_add 34 = .ok (.iconst 1, 1) := by decide +kernel
theorem dX2_add_35 : decode cX2_add 35 = .ok (.isub, 1) := by decide +kernel
theorem dX2_add_36 : decode cX2_add 36 = .ok (.ireturn, 1) := by decide +kernel
theorem dX2_isGone_0 : decode cX2_isGone 0 = .ok (.aload_n 0, 1) := by decide +kernel
theorem dX2_isGone_1 : decode cX2_isGone 1 = .ok (.getfield 18, 3) := by decide +kernel
theorem dX2_isGone_4 : decode cX2_isGone 4 = .ok (.iload_n 1, 1) := by decide +kernel
theorem dX2_isGone_5 : decode cX2_isGone 5 = .ok (.baload, 1) := by decide +kernel
theorem dX2_isGone_6 : decode cX2_isGone 6 = .ok (.ireturn, 1) := by decide +kernel
theorem dX2_goInto_0 : decode cX2_goInto 0 = .ok (.aload_n 0, 1) := by decide +kernel
theorem dX2_goInto_1 : decode cX2_goInto 1 = .ok (.getfield 18, 3) := by decide +kernel
theorem dX2_goInto_4 : decode cX2_goInto 4 = .ok (.iload_n 1, 1) := by decide +kernel
theorem dX2_goInto_5 : decode cX2_goInto 5 = .ok (.iconst 1, 1) := by decide +kernel
theorem dX2_goInto_6 : decode cX2_goInto 6 = .ok (.bastore, 1) := by decide +kernel
theorem dX2_goInto_7 : decode cX2_goInto 7 = .ok (.aload_n 0, 1) := by decide +kernel
theorem dX2_goInto_8 : decode cX2_goInto 8 = .ok (.getfield 22, 3) := by decide +kernel
theorem dX2_goInto_11 : decode cX2_goInto 11 = .ok (.iload_n 1, 1) := by decide +kernel
theorem dX2_goInto_12 : decode cX2_goInto 12 = .ok (.iload_n 2, 1) := by decide +kernel
theorem dX2_goInto_13 : decode cX2_goInto 13 = .ok (.iastore, 1) := by decide +kernel
theorem dX2_goInto_14 : decode cX2_goInto 14 = .ok (.aload_n 0, 1) := by decide +kernel
theorem dX2_goInto_15 : decode cX2_goInto 15 = .ok (.getfield 25, 3) := by decide +kernel
theorem dX2_goInto_18 : decode cX2_goInto 18 = .ok (.iload_n 1, 1) := by decide +kernel
theorem dX2_goInto_19 : decode cX2_goInto 19 = .ok (.iload_n 3, 1) := by decide +kernel
theorem dX2_goInto_20 : decode cX2_goInto 20 = .ok (.iastore, 1) := by decide +kernel
theorem dX2_goInto_21 : decode cX2_goInto 21 = .ok (.return_, 1) := by decide +kernel
theorem dX2_meaning_0 : decode cX2_meaning 0 = .ok (.iload_n 1, 1) := by decide +kernel
theorem dX2_meaning_1 : decode cX2_meaning 1 = .ok (.istore_n 3, 1) := by decide +kernel
theorem dX2_meaning_2 : decode cX2_meaning 2 = .ok (.iconst 0, 1) := by decide +kernel
theorem dX2_meaning_3 : decode cX2_meaning 3 = .ok (.istore 4, 2) := by decide +kernel
theorem dX2_meaning_5 : decode cX2_meaning 5 = .ok (.iload 4, 2) := by decide +kernel
theorem dX2_meaning_7 : decode cX2_meaning 7 = .ok (.aload_n 0, 1) := by decide +kernel
theorem dX2_meaning_8 : decode cX2_meaning 8 = .ok (.getfield 28, 3) := by decide +kernel
theorem dX2_meaning_11 : decode cX2_meaning 11 = .ok (.if_icmp .ge 35, 3) := by decide +kernel
theorem dX2_meaning_14 : decode cX2_meaning 14 = .ok (.aload_n 0, 1) := by decide +kernel
theorem dX2_meaning_15 : decode cX2_meaning 15 = .ok (.getfield 18, 3) := by decide +kernel
theorem dX2_meaning_18 : decode cX2_meaning 18 = .ok (.iload_n 3, 1) := by decide +kernel
theorem dX2_meaning_19 : decode cX2_meaning 19 = .ok (.baload, 1) := by decide +kernel
theorem dX2_meaning_20 : decode cX2_meaning 20 = .ok (.ifCond .eq 26, 3) := by decide +kernel
theorem dX2_meaning_23 : decode cX2_meaning 23 = .ok (.aload_n 0, 1) := by decide +kernel
theorem dX2_meaning_24 : decode cX2_meaning 24 = .ok (.getfield 25, 3) := by decide +kernel
theorem dX2_meaning_27 : decode cX2_meaning 27 = .ok (.iload_n 3, 1) := by decide +kernel
theorem dX2_meaning_28 : decode cX2_meaning 28 = .ok (.iaload, 1) := by decide +kernel
theorem dX2_meaning_29 : decode cX2_meaning 29 = .ok (.iload_n 2, 1) := by decide +kernel
theorem dX2_meaning_30 : decode cX2_meaning 30 = .ok (.if_icmp .gt 16, 3) := by decide +kernel
theorem dX2_meaning_33 : decode cX2_meaning 33 = .ok (.aload_n 0, 1) := by decide +kernel
theorem dX2_meaning_34 : decode cX2_meaning 34 = .ok (.getfield 22, 3) := by decide +kernel
theorem dX2_meaning_37 : decode cX2_meaning 37 = .ok (.iload_n 3, 1) := by decide +kernel
theorem dX2_meaning_38 : decode cX2_meaning 38 = .ok (.iaload, 1) := by decide +kernel
theorem dX2_meaning_39 : decode cX2_meaning 39 = .ok (.istore_n 3, 1) := by decide +kernel
theorem dX2_meaning_40 : decode cX2_meaning 40 = .ok (.iinc 4 1, 3) := by decide +kernel
theorem dX2_meaning_43 : decode cX2_meaning 43 = .ok (.goto (-38), 3) := by decide +kernel
theorem dX2_meaning_46 : decode cX2_meaning 46 = .ok (.iload_n 3, 1) := by decide +kernel
theorem dX2_meaning_47 : decode cX2_meaning 47 = .ok (.ireturn, 1) := by decide +kernel
theorem dX3_init_0 : decode cX3_init 0 = .ok (.aload_n 0, 1) := by decide +kernel
theorem dX3_init_1 : decode cX3_init 1 = .ok (.invokespecial 3, 3) := by decide +kernel
theorem dX3_init_4 : decode cX3_init 4 = .ok (.aload_n 0, 1) := by decide +kernel
theorem dX3_init_5 : decode cX3_init 5 = .ok (.bipush 80, 2) := by decide +kernel
theorem dX3_init_7 : decode cX3_init 7 = .ok (.newarray .int, 2) := by decide +kernel
theorem dX3_init_9 : decode cX3_init 9 = .ok (.putfield 9, 3) := by decide +kernel
theorem dX3_init_12 : decode cX3_init 12 = .ok (.aload_n 0, 1) := by decide +kernel
theorem dX3_init_13 : decode cX3_init 13 = .ok (.bipush 80, 2) := by decide +kernel
theorem dX3_init_15 : decode cX3_init 15 = .ok (.newarray .int, 2) := by decide +kernel
theorem dX3_init_17 : decode cX3_init 17 = .ok (.putfield 15, 3) := by decide +kernel
theorem dX3_init_20 : decode cX3_init 20 = .ok (.aload_n 0, 1) := by decide +kernel
theorem dX3_init_21 : decode cX3_init 21 = .ok (.bipush 80, 2) := by decide +kernel
theorem dX3_init_23 : decode cX3_init 23 = .ok (.newarray .int, 2) := by decide +kernel
theorem dX3_init_25 : decode cX3_init 25 = .ok (.putfield 18, 3) := by decide +kernel
theorem dX3_init_28 : decode cX3_init 28 = .ok (.aload_n 0, 1) := by decide +kernel
theorem dX3_init_29 : decode cX3_init 29 = .ok (.bipush 80, 2) := by decide +kernel
theorem dX3_init_31 : decode cX3_init 31 = .ok (.newarray .int, 2) := by decide +kernel
theorem dX3_init_33 : decode cX3_init 33 = .ok (.putfield 21, 3) := by decide +kernel
theorem dX3_init_36 : decode cX3_init 36 = .ok (.aload_n 0, 1) := by decide +kernel
theorem dX3_init_37 : decode cX3_init 37 = .ok (.bipush 80, 2) := by decide +kernel
theorem dX3_init_39 : decode cX3_init 39 = .ok (.newarray .boolean, 2) := by decide +kernel
theorem dX3_init_41 : decode cX3_init 41 = .ok (.putfield 24, 3) := by decide +kernel
theorem dX3_init_44 : decode cX3_init 44 = .ok (.aload_n 0, 1) := by decide +kernel
theorem dX3_init_45 : decode cX3_init 45 = .ok (.iconst 0, 1) := by decide +kernel
theorem dX3_init_46 : decode cX3_init 46 = .ok (.putfield 28, 3) := by decide +kernel
theorem dX3_init_49 : decode cX3_init 49 = .ok (.return_, 1) := by decide +kernel
theorem dX3_has_0 : decode cX3_has 0 = .ok (.iload_n 1, 1) := by decide +kernel
theorem dX3_has_1 : decode cX3_has 1 = .ok (.ifCond .lt 15, 3) := by decide +kernel
theorem dX3_has_4 : decode cX3_has 4 = .ok (.iload_n 1, 1) := by decide +kernel
theorem dX3_has_5 : decode cX3_has 5 = .ok (.aload_n 0, 1) := by decide +kernel
theorem dX3_has_6 : decode cX3_has 6 = .ok (.getfield 28, 3) := by decide +kernel
theorem dX3_has_9 : decode cX3_has 9 = .ok (.if_icmp .ge 7, 3) := by decide +kernel
theorem dX3_has_12 : decode cX3_has 12 = .ok (.iconst 1, 1) := by decide +kernel
theorem dX3_has_13 : decode cX3_has 13 = .ok (.goto 4, 3) := by decide +kernel
theorem dX3_has_16 : decode cX3_has 16 = .ok (.iconst 0, 1) := by decide +kernel
theorem dX3_has_17 : decode cX3_has 17 = .ok (.ireturn, 1) := by decide +kernel
theorem dX3_hasRoomFor_0 : decode cX3_hasRoomFor 0 = .ok (.aload_n 0, 1) := by decide +kernel
theorem dX3_hasRoomFor_1 : decode cX3_hasRoomFor 1 = .ok (.getfield 28, 3) := by decide +kernel
theorem dX3_hasRoomFor_4 : decode cX3_hasRoomFor 4 = .ok (.iload_n 1, 1) := by decide +kernel
theorem dX3_hasRoomFor_5 : decode cX3_hasRoomFor 5 = .ok (.iadd, 1) := by decide +kernel
theorem dX3_hasRoomFor_6 : decode cX3_hasRoomFor 6 = .ok (.bipush 80, 2) := by decide +kernel
theorem dX3_hasRoomFor_8 : decode cX3_hasRoomFor 8 = .ok (.if_icmp .gt 7, 3) := by decide +kernel
theorem dX3_hasRoomFor_11 : decode cX3_hasRoomFor 11 = .ok (.iconst 1, 1) := by decide +kernel
theorem dX3_hasRoomFor_12 : decode cX3_hasRoomFor 12 = .ok (.goto 4, 3) := by decide +kernel
theorem dX3_hasRoomFor_15 : decode cX3_hasRoomFor 15 = .ok (.iconst 0, 1) := by decide +kernel
theorem dX3_hasRoomFor_16 : decode cX3_hasRoomFor 16 = .ok (.ireturn, 1) := by decide +kernel
theorem dX0_isOdd_0 : decode cX0_isOdd 0 = .ok (.iload_n 0, 1) := by decide +kernel
theorem dX0_isOdd_1 : decode cX0_isOdd 1 = .ok (.iconst 1, 1) := by decide +kernel
theorem dX0_isOdd_2 : decode cX0_isOdd 2 = .ok (.iand, 1) := by decide +kernel
theorem dX0_isOdd_3 : decode cX0_isOdd 3 = .ok (.iconst 1, 1) := by decide +kernel
theorem dX0_isOdd_4 : decode cX0_isOdd 4 = .ok (.if_icmp .ne 7, 3) := by decide +kernel
theorem dX0_isOdd_7 : decode cX0_isOdd 7 = .ok (.iconst 1, 1) := by decide +kernel
theorem dX0_isOdd_8 : decode cX0_isOdd 8 = .ok (.goto 4, 3) := by decide +kernel
theorem dX0_isOdd_11 : decode cX0_isOdd 11 = .ok (.iconst 0, 1) := by decide +kernel
theorem dX0_isOdd_12 : decode cX0_isOdd 12 = .ok (.ireturn, 1) := by decide +kernel
theorem dX0_isOfSide_0 : decode cX0_isOfSide 0 = .ok (.iload_n 0, 1) := by decide +kernel
theorem dX0_isOfSide_1 : decode cX0_isOfSide 1 = .ok (.ifCond .eq 14, 3) := by decide +kernel
theorem dX0_isOfSide_4 : decode cX0_isOfSide 4 = .ok (.iload_n 1, 1) := by decide +kernel
theorem dX0_isOfSide_5 : decode cX0_isOfSide 5 = .ok (.invokestatic 265, 3) := by decide +kernel
theorem dX0_isOfSide_8 : decode cX0_isOfSide 8 = .ok (.iload_n 0, 1) := by decide +kernel
theorem dX0_isOfSide_9 : decode cX0_isOfSide 9 = .ok (.invokestatic 265, 3) := by decide +kernel
theorem dX0_isOfSide_12 : decode cX0_isOfSide 12 = .ok (.if_icmp .ne 7, 3) := by decide +kernel
theorem dX0_isOfSide_15 : decode cX0_isOfSide 15 = .ok (.iconst 1, 1) := by decide +kernel
theorem dX0_isOfSide_16 : decode cX0_isOfSide 16 = .ok (.goto 4, 3) := by decide +kernel
theorem dX0_isOfSide_19 : decode cX0_isOfSide 19 = .ok (.iconst 0, 1) := by decide +kernel
theorem dX0_isOfSide_20 : decode cX0_isOfSide 20 = .ok (.ireturn, 1) := by decide +kernel
theorem dX0_lowestOf_0 : decode cX0_lowestOf 0 = .ok (.iload_n 0, 1) := by decide +kernel
theorem dX0_lowestOf_1 : decode cX0_lowestOf 1 = .ok (.iload_n 1, 1) := by decide +kernel
theorem dX0_lowestOf_2 : decode cX0_lowestOf 2 = .ok (.invokestatic 269, 3) := by decide +kernel
theorem dX0_lowestOf_5 : decode cX0_lowestOf 5 = .ok (.ifCond .eq 7, 3) := by decide +kernel
theorem dX0_lowestOf_8 : decode cX0_lowestOf 8 = .ok (.iload_n 1, 1) := by decide +kernel
theorem dX0_lowestOf_9 : decode cX0_lowestOf 9 = .ok (.goto 6, 3) := by decide +kernel
theorem dX0_lowestOf_12 : decode cX0_lowestOf 12 = .ok (.iload_n 1, 1) := by decide +kernel
theorem dX0_lowestOf_13 : decode cX0_lowestOf 13 = .ok (.iconst 1, 1) := by decide +kernel
theorem dX0_lowestOf_14 : decode cX0_lowestOf 14 = .ok (.iadd, 1) := by decide +kernel
theorem dX0_lowestOf_15 : decode cX0_lowestOf 15 = .ok (.ireturn, 1) := by decide +kernel
theorem dX0_highestOf_0 : decode cX0_highestOf 0 = .ok (.iload_n 0, 1) := by decide +kernel
theorem dX0_highestOf_1 : decode cX0_highestOf 1 = .ok (.iload_n 1, 1) := by decide +kernel
theorem dX0_highestOf_2 : decode cX0_highestOf 2 = .ok (.invokestatic 269, 3) := by decide +kernel
theorem dX0_highestOf_5 : decode cX0_highestOf 5 = .ok (.ifCond .eq 7, 3) := by decide +kernel
theorem dX0_highestOf_8 : decode cX0_highestOf 8 = .ok (.iload_n 1, 1) := by decide +kernel
theorem dX0_highestOf_9 : decode cX0_highestOf 9 = .ok (.goto 6, 3) := by decide +kernel
theorem dX0_highestOf_12 : decode cX0_highestOf 12 = .ok (.iload_n 1, 1) := by decide +kernel
theorem dX0_highestOf_13 : decode cX0_highestOf 13 = .ok (.iconst 1, 1) := by decide +kernel
theorem dX0_highestOf_14 : decode cX0_highestOf 14 = .ok (.isub, 1) := by decide +kernel
theorem dX0_highestOf_15 : decode cX0_highestOf 15 = .ok (.ireturn, 1) := by decide +kernel
theorem dX3_add_0 : decode cX3_add 0 = .ok (.aload_n 0, 1) := by decide +kernel
theorem dX3_add_1 : decode cX3_add 1 = .ok (.getfield 9, 3) := by decide +kernel
theorem dX3_add_4 : decode cX3_add 4 = .ok (.aload_n 0, 1) := by decide +kernel
theorem dX3_add_5 : decode cX3_add 5 = .ok (.getfield 28, 3) := by decide +kernel
theorem dX3_add_8 : decode cX3_add 8 = .ok (.iload_n 1, 1) := by decide +kernel
theorem dX3_add_9 : decode cX3_add 9 = .ok (.iastore, 1) := by decide +kernel
theorem dX3_add_10 : decode cX3_add 10 = .ok (.aload_n 0, 1) := by decide +kernel
theorem dX3_add_11 : decode cX3_add 11 = .ok (.getfield 15, 3) := by decide +kernel
theorem dX3_add_14 : decode cX3_add 14 = .ok (.aload_n 0, 1) := by decide +kernel
theorem dX3_add_15 : decode cX3_add 15 = .ok (.getfield 28, 3) := by decide +kernel
theorem dX3_add_18 : decode cX3_add 18 = .ok (.iload_n 2, 1) := by decide +kernel
theorem dX3_add_19 : decode cX3_add 19 = .ok (.iastore, 1) := by decide +kernel
theorem dX3_add_20 : decode cX3_add 20 = .ok (.aload_n 0, 1) := by decide +kernel
theorem dX3_add_21 : decode cX3_add 21 = .ok (.getfield 18, 3) := by decide +kernel
theorem dX3_add_24 : decode cX3_add 24 = .ok (.aload_n 0, 1) := by decide +kernel
theorem dX3_add_25 : decode cX3_add 25 = .ok (.getfield 28, 3) := by decide +kernel
theorem dX3_add_28 : decode cX3_add 28 = .ok (.iload_n 2, 1) := by decide +kernel
theorem dX3_add_29 : decode cX3_add 29 = .ok (.iload_n 3, 1) := by decide +kernel
theorem dX3_add_30 : decode cX3_add 30 = .ok (.invokestatic 32, 3) := by decide +kernel
theorem dX3_add_33 : decode cX3_add 33 = .ok (.iastore, 1) := by decide +kernel
theorem dX3_add_34 : decode cX3_add 34 = .ok (.aload_n 0, 1) := by decide +kernel
theorem dX3_add_35 : decode cX3_add 35 = .ok (.getfield 21, 3) := by decide +kernel
theorem dX3_add_38 : decode cX3_add 38 = .ok (.aload_n 0, 1) := by decide +kernel
theorem dX3_add_39 : decode cX3_add 39 = .ok (.getfield 28, 3) := by decide +kernel
theorem dX3_add_42 : decode cX3_add 42 = .ok (.iload_n 2, 1) := by decide +kernel
theorem dX3_add_43 : decode cX3_add 43 = .ok (.iload 4, 2) := by decide +kernel
theorem dX3_add_45 : decode cX3_add 45 = .ok (.invokestatic 36, 3) := by decide +kernel
theorem dX3_add_48 : decode cX3_add 48 = .ok (.iastore, 1) := by decide +kernel
theorem dX3_add_49 : decode cX3_add 49 = .ok (.aload_n 0, 1) := by decide +kernel
theorem dX3_add_50 : decode cX3_add 50 = .ok (.getfield 24, 3) := by decide +kernel
theorem dX3_add_53 : decode cX3_add 53 = .ok (.aload_n 0, 1) := by decide +kernel
theorem dX3_add_54 : decode cX3_add 54 = .ok (.getfield 28, 3) := by decide +kernel
theorem dX3_add_57 : decode cX3_add 57 = .ok (.iconst 1, 1) := by decide +kernel
theorem dX3_add_58 : decode cX3_add 58 = .ok (.bastore, 1) := by decide +kernel
theorem dX3_add_59 : decode cX3_add 59 = .ok (.aload_n 0, 1) := by decide +kernel
theorem dX3_add_60 : decode cX3_add 60 = .ok (.dup, 1) := by decide +kernel
theorem dX3_add_61 : decode cX3_add 61 = .ok (.getfield 28, 3) := by decide +kernel
theorem dX3_add_64 : decode cX3_add 64 = .ok (.iconst 1, 1) := by decide +kernel
theorem dX3_add_65 : decode cX3_add 65 = .ok (.iadd, 1) := by decide +kernel
theorem dX3_add_66 : decode cX3_add 66 = .ok (.putfield 28, 3) := by decide +kernel
theorem dX3_add_69 : decode cX3_add 69 = .ok (.aload_n 0, 1) := by decide +kernel
theorem dX3_add_70 : decode cX3_add 70 = .ok (.getfield 28, 3) := by decide +kernel
theorem dX3_add_73 : decode cX3_add 73 = .ok (.iconst 1, 1) := by decide +kernel
theorem dX3_add_74 : decode cX3_add 74 = .ok (.isub, 1) := by decide +kernel
theorem dX3_add_75 : decode cX3_add 75 = .ok (.ireturn, 1) := by decide +kernel
theorem dX0_isWithin_0 : decode cX0_isWithin 0 = .ok (.iload_n 0, 1) := by decide +kernel
theorem dX0_isWithin_1 : decode cX0_isWithin 1 = .ok (.iload_n 1, 1) := by decide +kernel
theorem dX0_isWithin_2 : decode cX0_isWithin 2 = .ok (.if_icmp .lt 12, 3) := by decide +kernel
theorem dX0_isWithin_5 : decode cX0_isWithin 5 = .ok (.iload_n 0, 1) := by decide +kernel
theorem dX0_isWithin_6 : decode cX0_isWithin 6 = .ok (.iload_n 2, 1) := by decide +kernel
theorem dX0_isWithin_7 : decode cX0_isWithin 7 = .ok (.if_icmp .gt 7, 3) := by decide +kernel
theorem dX0_isWithin_10 : decode cX0_isWithin 10 = .ok (.iconst 1, 1) := by decide +kernel
theorem dX0_isWithin_11 : decode cX0_isWithin 11 = .ok (.goto 4, 3) := by decide +kernel
theorem dX0_isWithin_14 : decode cX0_isWithin 14 = .ok (.iconst 0, 1) := by decide +kernel
theorem dX0_isWithin_15 : decode cX0_isWithin 15 = .ok (.ireturn, 1) := by decide +kernel
theorem dX3_holds_0 : decode cX3_holds 0 = .ok (.iload_n 2, 1) := by decide +kernel
theorem dX3_holds_1 : decode cX3_holds 1 = .ok (.aload_n 0, 1) := by decide +kernel
theorem dX3_holds_2 : decode cX3_holds 2 = .ok (.getfield 18, 3) := by decide +kernel
theorem dX3_holds_5 : decode cX3_holds 5 = .ok (.iload_n 1, 1) := by decide +kernel
theorem dX3_holds_6 : decode cX3_holds 6 = .ok (.iaload, 1) := by decide +kernel
theorem dX3_holds_7 : decode cX3_holds 7 = .ok (.aload_n 0, 1) := by decide +kernel
theorem dX3_holds_8 : decode cX3_holds 8 = .ok (.getfield 21, 3) := by decide +kernel
theorem dX3_holds_11 : decode cX3_holds 11 = .ok (.iload_n 1, 1) := by decide +kernel
theorem dX3_holds_12 : decode cX3_holds 12 = .ok (.iaload, 1) := by decide +kernel
theorem dX3_holds_13 : decode cX3_holds 13 = .ok (.invokestatic 39, 3) := by decide +kernel
theorem dX3_holds_16 : decode cX3_holds 16 = .ok (.ifCond .eq 20, 3) := by decide +kernel
theorem dX3_holds_19 : decode cX3_holds 19 = .ok (.aload_n 0, 1) := by decide +kernel
theorem dX3_holds_20 : decode cX3_holds 20 = .ok (.getfield 15, 3) := by decide +kernel
theorem dX3_holds_23 : decode cX3_holds 23 = .ok (.iload_n 1, 1) := by decide +kernel
theorem dX3_holds_24 : decode cX3_holds 24 = .ok (.iaload, 1) := by decide +kernel
theorem dX3_holds_25 : decode cX3_holds 25 = .ok (.iload_n 2, 1) := by decide +kernel
theorem dX3_holds_26 : decode cX3_holds 26 = .ok (.invokestatic 43, 3) := by decide +kernel
theorem dX3_holds_29 : decode cX3_holds 29 = .ok (.ifCond .eq 7, 3) := by decide +kernel
theorem dX3_holds_32 : decode cX3_holds 32 = .ok (.iconst 1, 1) := by decide +kernel
theorem dX3_holds_33 : decode cX3_holds 33 = .ok (.goto 4, 3) := by decide +kernel
theorem dX3_holds_36 : decode cX3_holds 36 = .ok (.iconst 0, 1) := by decide +kernel
theorem dX3_holds_37 : decode cX3_holds 37 = .ok (.ireturn, 1) := by decide +kernel
theorem dX3_isLiveOf_0 : decode cX3_isLiveOf 0 = .ok (.aload_n 0, 1) := by decide +kernel
theorem dX3_isLiveOf_1 : decode cX3_isLiveOf 1 = .ok (.getfield 24, 3) := by decide +kernel
theorem dX3_isLiveOf_4 : decode cX3_isLiveOf 4 = .ok (.iload_n 1, 1) := by decide +kernel
theorem dX3_isLiveOf_5 : decode cX3_isLiveOf 5 = .ok (.baload, 1) := by decide +kernel
theorem dX3_isLiveOf_6 : decode cX3_isLiveOf 6 = .ok (.ifCond .eq 17, 3) := by decide +kernel
theorem dX3_isLiveOf_9 : decode cX3_isLiveOf 9 = .ok (.aload_n 0, 1) := by decide +kernel
theorem dX3_isLiveOf_10 : decode cX3_isLiveOf 10 = .ok (.getfield 9, 3) := by decide +kernel
theorem dX3_isLiveOf_13 : decode cX3_isLiveOf 13 = .ok (.iload_n 1, 1) := by decide +kernel
theorem dX3_isLiveOf_14 : decode cX3_isLiveOf 14 = .ok (.iaload, 1) := by decide +kernel
theorem dX3_isLiveOf_15 : decode cX3_isLiveOf 15 = .ok (.iload_n 2, 1) := by decide +kernel
theorem dX3_isLiveOf_16 : decode cX3_isLiveOf 16 = .ok (.if_icmp .ne 7, 3) := by decide +kernel
theorem dX3_isLiveOf_19 : decode cX3_isLiveOf 19 = .ok (.iconst 1, 1) := by decide +kernel
theorem dX3_isLiveOf_20 : decode cX3_isLiveOf 20 = .ok (.goto 4, 3) := by decide +kernel
theorem dX3_isLiveOf_23 : decode cX3_isLiveOf 23 = .ok (.iconst 0, 1) := by decide +kernel
theorem dX3_isLiveOf_24 : decode cX3_isLiveOf 24 = .ok (.ireturn, 1) := by decide +kernel
theorem dX3_anyLiveOf_0 : decode cX3_anyLiveOf 0 = .ok (.iconst 0, 1) := by decide +kernel
theorem dX3_anyLiveOf_1 : decode cX3_anyLiveOf 1 = .ok (.istore_n 2, 1) := by decide +kernel
theorem dX3_anyLiveOf_2 : decode cX3_anyLiveOf 2 = .ok (.iload_n 2, 1) := by decide +kernel
theorem dX3_anyLiveOf_3 : decode cX3_anyLiveOf 3 = .ok (.aload_n 0, 1) := by decide +kernel
theorem dX3_anyLiveOf_4 : decode cX3_anyLiveOf 4 = .ok (.getfield 28, 3) := by decide +kernel
theorem dX3_anyLiveOf_7 : decode cX3_anyLiveOf 7 = .ok (.if_icmp .ge 20, 3) := by decide +kernel
theorem dX3_anyLiveOf_10 : decode cX3_anyLiveOf 10 = .ok (.aload_n 0, 1) := by decide +kernel
theorem dX3_anyLiveOf_11 : decode cX3_anyLiveOf 11 = .ok (.iload_n 2, 1) := by decide +kernel
theorem dX3_anyLiveOf_12 : decode cX3_anyLiveOf 12 = .ok (.iload_n 1, 1) := by decide +kernel
theorem dX3_anyLiveOf_13 : decode cX3_anyLiveOf 13 = .ok (.invokevirtual 47, 3) := by decide +kernel
theorem dX3_anyLiveOf_16 : decode cX3_anyLiveOf 16 = .ok (.ifCond .eq 5, 3) := by decide +kernel
theorem dX3_anyLiveOf_19 : decode cX3_anyLiveOf 19 = .ok (.iconst 1, 1) := by decide +kernel
theorem dX3_anyLiveOf_20 : decode cX3_anyLiveOf 20 = .ok (.ireturn, 1) := by decide +kernel
theorem dX3_anyLiveOf_21 : decode cX3_anyLiveOf 21 = .ok (.iinc 2 1, 3) := by decide +kernel
theorem dX3_anyLiveOf_24 : decode cX3_anyLiveOf 24 = .ok (.goto (-22), 3) := by decide +kernel
theorem dX3_anyLiveOf_27 : decode cX3_anyLiveOf 27 = .ok (.iconst 0, 1) := by decide +kernel
theorem dX3_anyLiveOf_28 : decode cX3_anyLiveOf 28 = .ok (.ireturn, 1) := by decide +kernel
theorem dX3_isOver_0 : decode cX3_isOver 0 = .ok (.iload_n 2, 1) := by decide +kernel
theorem dX3_isOver_1 : decode cX3_isOver 1 = .ok (.ifCond .eq 24, 3) := by decide +kernel
theorem dX3_isOver_4 : decode cX3_isOver 4 = .ok (.aload_n 0, 1) := by decide +kernel
theorem dX3_isOver_5 : decode cX3_isOver 5 = .ok (.getfield 15, 3) := by decide +kernel
theorem dX3_isOver_8 : decode cX3_isOver 8 = .ok (.iload_n 1, 1) := by decide +kernel
theorem dX3_isOver_9 : decode cX3_isOver 9 = .ok (.iaload, 1) := by decide +kernel
theorem dX3_isOver_10 : decode cX3_isOver 10 = .ok (.ifCond .eq 15, 3) := by decide +kernel
theorem dX3_isOver_13 : decode cX3_isOver 13 = .ok (.iload_n 2, 1) := by decide +kernel
theorem dX3_isOver_14 : decode cX3_isOver 14 = .ok (.aload_n 0, 1) := by decide +kernel
theorem dX3_isOver_15 : decode cX3_isOver 15 = .ok (.getfield 15, 3) := by decide +kernel
theorem dX3_isOver_18 : decode cX3_isOver 18 = .ok (.iload_n 1, 1) := by decide +kernel
theorem dX3_isOver_19 : decode cX3_isOver 19 = .ok (.iaload, 1) := by decide +kernel
theorem dX3_isOver_20 : decode cX3_isOver 20 = .ok (.if_icmp .eq 5, 3) := by decide +kernel
theorem dX3_isOver_23 : decode cX3_isOver 23 = .ok (.iconst 0, 1) := by decide +kernel
theorem dX3_isOver_24 : decode cX3_isOver 24 = .ok (.ireturn, 1) := by decide +kernel
theorem dX3_isOver_25 : decode cX3_isOver 25 = .ok (.iload_n 2, 1) := by decide +kernel
theorem dX3_isOver_26 : decode cX3_isOver 26 = .ok (.ifCond .ne 12, 3) := by decide +kernel
theorem dX3_isOver_29 : decode cX3_isOver 29 = .ok (.aload_n 0, 1) := by decide +kernel
theorem dX3_isOver_30 : decode cX3_isOver 30 = .ok (.getfield 15, 3) := by decide +kernel
theorem dX3_isOver_33 : decode cX3_isOver 33 = .ok (.iload_n 1, 1) := by decide +kernel
theorem dX3_isOver_34 : decode cX3_isOver 34 = .ok (.iaload, 1) := by decide +kernel
theorem dX3_isOver_35 : decode cX3_isOver 35 = .ok (.goto 4, 3) := by decide +kernel
theorem dX3_isOver_38 : decode cX3_isOver 38 = .ok (.iload_n 2, 1) := by decide +kernel
theorem dX3_isOver_39 : decode cX3_isOver 39 = .ok (.istore 5, 2) := by decide +kernel
theorem dX3_isOver_41 : decode cX3_isOver 41 = .ok (.iload 5, 2) := by decide +kernel
theorem dX3_isOver_43 : decode cX3_isOver 43 = .ok (.iload_n 3, 1) := by decide +kernel
theorem dX3_isOver_44 : decode cX3_isOver 44 = .ok (.aload_n 0, 1) := by decide +kernel
theorem dX3_isOver_45 : decode cX3_isOver 45 = .ok (.getfield 18, 3) := by decide +kernel
theorem dX3_isOver_48 : decode cX3_isOver 48 = .ok (.iload_n 1, 1) := by decide +kernel
theorem dX3_isOver_49 : decode cX3_isOver 49 = .ok (.iaload, 1) := by decide +kernel
theorem dX3_isOver_50 : decode cX3_isOver 50 = .ok (.invokestatic 58, 3) := by decide +kernel
theorem dX3_isOver_53 : decode cX3_isOver 53 = .ok (.invokestatic 32, 3) := by decide +kernel
theorem dX3_isOver_56 : decode cX3_isOver 56 = .ok (.iload 5, 2) := by decide +kernel
theorem dX3_isOver_58 : decode cX3_isOver 58 = .ok (.iload 4, 2) := by decide +kernel
theorem dX3_isOver_60 : decode cX3_isOver 60 = .ok (.aload_n 0, 1) := by decide +kernel
theorem dX3_isOver_61 : decode cX3_isOver 61 = .ok (.getfield 21, 3) := by decide +kernel
theorem dX3_isOver_64 : decode cX3_isOver 64 = .ok (.iload_n 1, 1) := by decide +kernel
theorem dX3_isOver_65 : decode cX3_isOver 65 = .ok (.iaload, 1) := by decide +kernel
theorem dX3_isOver_66 : decode cX3_isOver 66 = .ok (.invokestatic 63, 3) := by decide +kernel
theorem dX3_isOver_69 : decode cX3_isOver 69 = .ok (.invokestatic 36, 3) := by decide +kernel
theorem dX3_isOver_72 : decode cX3_isOver 72 = .ok (.if_icmp .gt 7, 3) := by decide +kernel
theorem dX3_isOver_75 : decode cX3_isOver 75 = .ok (.iconst 1, 1) := by decide +kernel
theorem dX3_isOver_76 : decode cX3_isOver 76 = .ok (.goto 4, 3) := by decide +kernel
theorem dX3_isOver_79 : decode cX3_isOver 79 = .ok (.iconst 0, 1) := by decide +kernel
theorem dX3_isOver_80 : decode cX3_isOver 80 = .ok (.ireturn, 1) := by decide +kernel
theorem dX3_leastOver_0 : decode cX3_leastOver 0 = .ok (.iconst 0, 1) := by decide +kernel
theorem dX3_leastOver_1 : decode cX3_leastOver 1 = .ok (.istore 5, 2) := by decide +kernel
theorem dX3_leastOver_3 : decode cX3_leastOver 3 = .ok (.iload 5, 2) := by decide +kernel
theorem dX3_leastOver_5 : decode cX3_leastOver 5 = .ok (.aload_n 0, 1) := by decide +kernel
theorem dX3_leastOver_6 : decode cX3_leastOver 6 = .ok (.getfield 28, 3) := by decide +kernel
theorem dX3_leastOver_9 : decode cX3_leastOver 9 = .ok (.if_icmp .ge 35, 3) := by decide +kernel
theorem dX3_leastOver_12 : decode cX3_leastOver 12 = .ok (.aload_n 0, 1) := by decide +kernel
theorem dX3_leastOver_13 : decode cX3_leastOver 13 = .ok (.iload 5, 2) := by decide +kernel
theorem dX3_leastOver_15 : decode cX3_leastOver 15 = .ok (.iload_n 1, 1) := by decide +kernel
theorem dX3_leastOver_16 : decode cX3_leastOver 16 = .ok (.invokevirtual 47, 3) := by decide +kernel
theorem dX3_leastOver_19 : decode cX3_leastOver 19 = .ok (.ifCond .eq 19, 3) := by decide +kernel
theorem dX3_leastOver_22 : decode cX3_leastOver 22 = .ok (.aload_n 0, 1) := by decide +kernel
theorem dX3_leastOver_23 : decode cX3_leastOver 23 = .ok (.iload 5, 2) := by decide +kernel
theorem dX3_leastOver_25 : decode cX3_leastOver 25 = .ok (.iload_n 2, 1) := by decide +kernel
theorem dX3_leastOver_26 : decode cX3_leastOver 26 = .ok (.iload_n 3, 1) := by decide +kernel
theorem dX3_leastOver_27 : decode cX3_leastOver 27 = .ok (.iload 4, 2) := by decide +kernel
theorem dX3_leastOver_29 : decode cX3_leastOver 29 = .ok (.invokevirtual 50, 3) := by decide +kernel
theorem dX3_leastOver_32 : decode cX3_leastOver 32 = .ok (.ifCond .eq 6, 3) := by decide +kernel
theorem dX3_leastOver_35 : decode cX3_leastOver 35 = .ok (.iload 5, 2) := by decide +kernel
theorem dX3_leastOver_37 : decode cX3_leastOver 37 = .ok (.ireturn, 1) := by decide +kernel
theorem dX3_leastOver_38 : decode cX3_leastOver 38 = .ok (.iinc 5 1, 3) := by decide +kernel
theorem dX3_leastOver_41 : decode cX3_leastOver 41 = .ok (.goto (-38), 3) := by decide +kernel
theorem dX3_leastOver_44 : decode cX3_leastOver 44 = .ok (.iconst (-1), 1) := by decide +kernel
theorem dX3_leastOver_45 : decode cX3_leastOver 45 = .ok (.ireturn, 1) := by decide +kernel
theorem dX3_leastOverAnyOf_0 : decode cX3_leastOverAnyOf 0 = .ok (.iconst 0, 1) := by decide +kernel
theorem dX3_leastOverAnyOf_1 : decode cX3_leastOverAnyOf 1 = .ok (.istore_n 3, 1) := by decide +kernel
theorem dX3_leastOverAnyOf_2 : decode cX3_leastOverAnyOf 2 = .ok (.iload_n 3, 1) := by decide +kernel
theorem dX3_leastOverAnyOf_3 : decode cX3_leastOverAnyOf 3 = .ok (.aload_n 0, 1) := by decide +kernel
theorem dX3_leastOverAnyOf_4 : decode cX3_leastOverAnyOf 4 = .ok (.getfield 28, 3) := by decide +kernel
theorem dX3_leastOverAnyOf_7 : decode cX3_leastOverAnyOf 7 = .ok (.if_icmp .ge 47, 3) := by decide +kernel
theorem dX3_leastOverAnyOf_10 : decode cX3_leastOverAnyOf 10 = .ok (.aload_n 0, 1) := by decide +kernel
theorem dX3_leastOverAnyOf_11 : decode cX3_leastOverAnyOf 11 = .ok (.iload_n 3, 1) := by decide +kernel
theorem dX3_leastOverAnyOf_12 : decode cX3_leastOverAnyOf 12 = .ok (.iload_n 2, 1) := by decide +kernel
theorem dX3_leastOverAnyOf_13 : decode cX3_leastOverAnyOf 13 = .ok (.invokevirtual 47, 3) := by decide +kernel
theorem dX3_leastOverAnyOf_16 : decode cX3_leastOverAnyOf 16 = .ok (.ifCond .eq 32, 3) := by decide +kernel
theorem dX3_leastOverAnyOf_19 : decode cX3_leastOverAnyOf 19 = .ok (.aload_n 0, 1) := by decide +kernel
theorem dX3_leastOverAnyOf_20 : decode cX3_leastOverAnyOf 20 = .ok (.iload_n 1, 1) := by decide +kernel
theorem dX3_leastOverAnyOf_21 : decode cX3_leastOverAnyOf 21 = .ok (.aload_n 0, 1) := by decide +kernel
theorem dX3_leastOverAnyOf_22 : decode cX3_leastOverAnyOf 22 = .ok (.getfield 15, 3) := by decide +kernel
theorem dX3_leastOverAnyOf_25 : decode cX3_leastOverAnyOf 25 = .ok (.iload_n 3, 1) := by decide +kernel
theorem dX3_leastOverAnyOf_26 : decode cX3_leastOverAnyOf 26 = .ok (.iaload, 1) := by decide +kernel
theorem dX3_leastOverAnyOf_27 : decode cX3_leastOverAnyOf 27 = .ok (.aload_n 0, 1) := by decide +kernel
theorem dX3_leastOverAnyOf_28 : decode cX3_leastOverAnyOf 28 = .ok (.getfield 18, 3) := by decide +kernel
theorem dX3_leastOverAnyOf_31 : decode cX3_leastOverAnyOf 31 = .ok (.iload_n 3, 1) := by decide +kernel
theorem dX3_leastOverAnyOf_32 : decode cX3_leastOverAnyOf 32 = .ok (.iaload, 1) := by decide +kernel
theorem dX3_leastOverAnyOf_33 : decode cX3_leastOverAnyOf 33 = .ok (.aload_n 0, 1) := by decide +kernel
theorem dX3_leastOverAnyOf_34 : decode cX3_leastOverAnyOf 34 = .ok (.getfield 21, 3) := by decide +kernel
theorem dX3_leastOverAnyOf_37 : decode cX3_leastOverAnyOf 37 = .ok (.iload_n 3, 1) := by decide +kernel
theorem dX3_leastOverAnyOf_38 : decode cX3_leastOverAnyOf 38 = .ok (.iaload, 1) := by decide +kernel
theorem dX3_leastOverAnyOf_39 : decode cX3_leastOverAnyOf 39 = .ok (.invokevirtual 54, 3) := by decide +kernel
theorem dX3_leastOverAnyOf_42 : decode cX3_leastOverAnyOf 42 = .ok (.iconst (-1), 1) := by decide +kernel
theorem dX3_leastOverAnyOf_43 : decode cX3_leastOverAnyOf 43 = .ok (.if_icmp .eq 5, 3) := by decide +kernel
theorem dX3_leastOverAnyOf_46 : decode cX3_leastOverAnyOf 46 = .ok (.iload_n 3, 1) := by decide +kernel
theorem dX3_leastOverAnyOf_47 : decode cX3_leastOverAnyOf 47 = .ok (.ireturn, 1) := by decide +kernel
theorem dX3_leastOverAnyOf_48 : decode cX3_leastOverAnyOf 48 = .ok (.iinc 3 1, 3) := by decide +kernel
theorem dX3_leastOverAnyOf_51 : decode cX3_leastOverAnyOf 51 = .ok (.goto (-49), 3) := by decide +kernel
theorem dX3_leastOverAnyOf_54 : decode cX3_leastOverAnyOf 54 = .ok (.iconst (-1), 1) := by decide +kernel
theorem dX3_leastOverAnyOf_55 : decode cX3_leastOverAnyOf 55 = .ok (.ireturn, 1) := by decide +kernel
theorem dX3_housesOf_0 : decode cX3_housesOf 0 = .ok (.iconst 0, 1) := by decide +kernel
theorem dX3_housesOf_1 : decode cX3_housesOf 1 = .ok (.istore_n 2, 1) := by decide +kernel
theorem dX3_housesOf_2 : decode cX3_housesOf 2 = .ok (.iconst 0, 1) := by decide +kernel
theorem dX3_housesOf_3 : decode cX3_housesOf 3 = .ok (.istore_n 3, 1) := by decide +kernel
theorem dX3_housesOf_4 : decode cX3_housesOf 4 = .ok (.iload_n 3, 1) := by decide +kernel
theorem dX3_housesOf_5 : decode cX3_housesOf 5 = .ok (.aload_n 0, 1) := by decide +kernel
theorem dX3_housesOf_6 : decode cX3_housesOf 6 = .ok (.getfield 28, 3) := by decide +kernel
theorem dX3_housesOf_9 : decode cX3_housesOf 9 = .ok (.if_icmp .ge 56, 3) := by decide +kernel
theorem dX3_housesOf_12 : decode cX3_housesOf 12 = .ok (.aload_n 0, 1) := by decide +kernel
theorem dX3_housesOf_13 : decode cX3_housesOf 13 = .ok (.iload_n 3, 1) := by decide +kernel
theorem dX3_housesOf_14 : decode cX3_housesOf 14 = .ok (.iload_n 1, 1) := by decide +kernel
theorem dX3_housesOf_15 : decode cX3_housesOf 15 = .ok (.invokevirtual 47, 3) := by decide +kernel
theorem dX3_housesOf_18 : decode cX3_housesOf 18 = .ok (.ifCond .eq 41, 3) := by decide +kernel
theorem dX3_housesOf_21 : decode cX3_housesOf 21 = .ok (.aload_n 0, 1) := by decide +kernel
theorem dX3_housesOf_22 : decode cX3_housesOf 22 = .ok (.getfield 21, 3) := by decide +kernel
theorem dX3_housesOf_25 : decode cX3_housesOf 25 = .ok (.iload_n 3, 1) := by decide +kernel
theorem dX3_housesOf_26 : decode cX3_housesOf 26 = .ok (.iaload, 1) := by decide +kernel
theorem dX3_housesOf_27 : decode cX3_housesOf 27 = .ok (.aload_n 0, 1) := by decide +kernel
theorem dX3_housesOf_28 : decode cX3_housesOf 28 = .ok (.getfield 18, 3) := by decide +kernel
theorem dX3_housesOf_31 : decode cX3_housesOf 31 = .ok (.iload_n 3, 1) := by decide +kernel
theorem dX3_housesOf_32 : decode cX3_housesOf 32 = .ok (.iaload, 1) := by decide +kernel
theorem dX3_housesOf_33 : decode cX3_housesOf 33 = .ok (.isub, 1) := by decide +kernel
theorem dX3_housesOf_34 : decode cX3_housesOf 34 = .ok (.istore 4, 2) := by decide +kernel
theorem dX3_housesOf_36 : decode cX3_housesOf 36 = .ok (.iload_n 2, 1) := by decide +kernel
theorem dX3_housesOf_37 : decode cX3_housesOf 37 = .ok (.iconst 1, 1) := by decide +kernel
theorem dX3_housesOf_38 : decode cX3_housesOf 38 = .ok (.aload_n 0, 1) := by decide +kernel
theorem dX3_housesOf_39 : decode cX3_housesOf 39 = .ok (.getfield 15, 3) := by decide +kernel
theorem dX3_housesOf_42 : decode cX3_housesOf 42 = .ok (.iload_n 3, 1) := by decide +kernel
theorem dX3_housesOf_43 : decode cX3_housesOf 43 = .ok (.iaload, 1) := by decide +kernel
theorem dX3_housesOf_44 : decode cX3_housesOf 44 = .ok (.ifCond .ne 8, 3) := by decide +kernel
theorem dX3_housesOf_47 : decode cX3_housesOf 47 = .ok (.iload 4, 2) := by decide +kernel
theorem dX3_housesOf_49 : decode cX3_housesOf 49 = .ok (.goto 7, 3) := by decide +kernel
theorem dX3_housesOf_52 : decode cX3_housesOf 52 = .ok (.iload 4, 2) := by decide +kernel
theorem dX3_housesOf_54 : decode cX3_housesOf 54 = .ok (.iconst 2, 1) := by decide +kernel
theorem dX3_housesOf_55 : decode cX3_housesOf 55 = .ok (.idiv, 1) := by decide +kernel
theorem dX3_housesOf_56 : decode cX3_housesOf 56 = .ok (.iadd, 1) := by decide +kernel
theorem dX3_housesOf_57 : decode cX3_housesOf 57 = .ok (.iadd, 1) := by decide +kernel
theorem dX3_housesOf_58 : decode cX3_housesOf 58 = .ok (.istore_n 2, 1) := by decide +kernel
theorem dX3_housesOf_59 : decode cX3_housesOf 59 = .ok (.iinc 3 1, 3) := by decide +kernel
theorem dX3_housesOf_62 : decode cX3_housesOf 62 = .ok (.goto (-58), 3) := by decide +kernel
theorem dX3_housesOf_65 : decode cX3_housesOf 65 = .ok (.iload_n 2, 1) := by decide +kernel
theorem dX3_housesOf_66 : decode cX3_housesOf 66 = .ok (.ireturn, 1) := by decide +kernel
theorem dX3_moveLive_0 : decode cX3_moveLive 0 = .ok (.iconst 0, 1) := by decide +kernel
theorem dX3_moveLive_1 : decode cX3_moveLive 1 = .ok (.istore_n 3, 1) := by decide +kernel
theorem dX3_moveLive_2 : decode cX3_moveLive 2 = .ok (.iload_n 3, 1) := by decide +kernel
theorem dX3_moveLive_3 : decode cX3_moveLive 3 = .ok (.aload_n 0, 1) := by decide +kernel
theorem dX3_moveLive_4 : decode cX3_moveLive 4 = .ok (.getfield 28, 3) := by decide +kernel
theorem dX3_moveLive_7 : decode cX3_moveLive 7 = .ok (.if_icmp .ge 25, 3) := by decide +kernel
theorem dX3_moveLive_10 : decode cX3_moveLive 10 = .ok (.aload_n 0, 1) := by decide +kernel
theorem dX3_moveLive_11 : decode cX3_moveLive 11 = .ok (.iload_n 3, 1) := by decide +kernel
theorem dX3_moveLive_12 : decode cX3_moveLive 12 = .ok (.iload_n 1, 1) := by decide +kernel
theorem dX3_moveLive_13 : decode cX3_moveLive 13 = .ok (.invokevirtual 47, 3) := by decide +kernel
theorem dX3_moveLive_16 : decode cX3_moveLive 16 = .ok (.ifCond .eq 10, 3) := by decide +kernel
theorem dX3_moveLive_19 : decode cX3_moveLive 19 = .ok (.aload_n 0, 1) := by decide +kernel
theorem dX3_moveLive_20 : decode cX3_moveLive 20 = .ok (.getfield 9, 3) := by decide +kernel
theorem dX3_moveLive_23 : decode cX3_moveLive 23 = .ok (.iload_n 3, 1) := by decide +kernel
theorem dX3_moveLive_24 : decode cX3_moveLive 24 = .ok (.iload_n 2, 1) := by decide +kernel
theorem dX3_moveLive_25 : decode cX3_moveLive 25 = .ok (.iastore, 1) := by decide +kernel
theorem dX3_moveLive_26 : decode cX3_moveLive 26 = .ok (.iinc 3 1, 3) := by decide +kernel
theorem dX3_moveLive_29 : decode cX3_moveLive 29 = .ok (.goto (-27), 3) := by decide +kernel
theorem dX3_moveLive_32 : decode cX3_moveLive 32 = .ok (.return_, 1) := by decide +kernel
theorem dX4_init_0 : decode cX4_init 0 = .ok (.aload_n 0, 1) := by decide +kernel
theorem dX4_init_1 : decode cX4_init 1 = .ok (.invokespecial 3, 3) := by decide +kernel
theorem dX4_init_4 : decode cX4_init 4 = .ok (.aload_n 0, 1) := by decide +kernel
theorem dX4_init_5 : decode cX4_init 5 = .ok (.bipush 120, 2) := by decide +kernel
theorem dX4_init_7 : decode cX4_init 7 = .ok (.newarray .int, 2) := by decide +kernel
theorem dX4_init_9 : decode cX4_init 9 = .ok (.putfield 9, 3) := by decide +kernel
theorem dX4_init_12 : decode cX4_init 12 = .ok (.aload_n 0, 1) := by decide +kernel
theorem dX4_init_13 : decode cX4_init 13 = .ok (.bipush 120, 2) := by decide +kernel
theorem dX4_init_15 : decode cX4_init 15 = .ok (.newarray .int, 2) := by decide +kernel
theorem dX4_init_17 : decode cX4_init 17 = .ok (.putfield 15, 3) := by decide +kernel
theorem dX4_init_20 : decode cX4_init 20 = .ok (.aload_n 0, 1) := by decide +kernel
theorem dX4_init_21 : decode cX4_init 21 = .ok (.bipush 120, 2) := by decide +kernel
theorem dX4_init_23 : decode cX4_init 23 = .ok (.newarray .int, 2) := by decide +kernel
theorem dX4_init_25 : decode cX4_init 25 = .ok (.putfield 18, 3) := by decide +kernel
theorem dX4_init_28 : decode cX4_init 28 = .ok (.aload_n 0, 1) := by decide +kernel
theorem dX4_init_29 : decode cX4_init 29 = .ok (.bipush 120, 2) := by decide +kernel
theorem dX4_init_31 : decode cX4_init 31 = .ok (.newarray .int, 2) := by decide +kernel
theorem dX4_init_33 : decode cX4_init 33 = .ok (.putfield 21, 3) := by decide +kernel
theorem dX4_init_36 : decode cX4_init 36 = .ok (.aload_n 0, 1) := by decide +kernel
theorem dX4_init_37 : decode cX4_init 37 = .ok (.bipush 120, 2) := by decide +kernel
theorem dX4_init_39 : decode cX4_init 39 = .ok (.newarray .boolean, 2) := by decide +kernel
theorem dX4_init_41 : decode cX4_init 41 = .ok (.putfield 24, 3) := by decide +kernel
theorem dX4_init_44 : decode cX4_init 44 = .ok (.aload_n 0, 1) := by decide +kernel
theorem dX4_init_45 : decode cX4_init 45 = .ok (.iconst 0, 1) := by decide +kernel
theorem dX4_init_46 : decode cX4_init 46 = .ok (.putfield 28, 3) := by decide +kernel
theorem dX4_init_49 : decode cX4_init 49 = .ok (.return_, 1) := by decide +kernel
theorem dX4_has_0 : decode cX4_has 0 = .ok (.iload_n 1, 1) := by decide +kernel
theorem dX4_has_1 : decode cX4_has 1 = .ok (.ifCond .lt 15, 3) := by decide +kernel
theorem dX4_has_4 : decode cX4_has 4 = .ok (.iload_n 1, 1) := by decide +kernel
theorem dX4_has_5 : decode cX4_has 5 = .ok (.aload_n 0, 1) := by decide +kernel
theorem dX4_has_6 : decode cX4_has 6 = .ok (.getfield 28, 3) := by decide +kernel
theorem dX4_has_9 : decode cX4_has 9 = .ok (.if_icmp .ge 7, 3) := by decide +kernel
theorem dX4_has_12 : decode cX4_has 12 = .ok (.iconst 1, 1) := by decide +kernel
theorem dX4_has_13 : decode cX4_has 13 = .ok (.goto 4, 3) := by decide +kernel
theorem dX4_has_16 : decode cX4_has 16 = .ok (.iconst 0, 1) := by decide +kernel
theorem dX4_has_17 : decode cX4_has 17 = .ok (.ireturn, 1) := by decide +kernel
theorem dX4_isFull_0 : decode cX4_isFull 0 = .ok (.aload_n 0, 1) := by decide +kernel
theorem dX4_isFull_1 : decode cX4_isFull 1 = .ok (.getfield 28, 3) := by decide +kernel
theorem dX4_isFull_4 : decode cX4_isFull 4 = .ok (.bipush 120, 2) := by decide +kernel
theorem dX4_isFull_6 : decode cX4_isFull 6 = .ok (.if_icmp .lt 7, 3) := by decide +kernel
theorem dX4_isFull_9 : decode cX4_isFull 9 = .ok (.iconst 1, 1) := by decide +kernel
theorem dX4_isFull_10 : decode cX4_isFull 10 = .ok (.goto 4, 3) := by decide +kernel
theorem dX4_isFull_13 : decode cX4_isFull 13 = .ok (.iconst 0, 1) := by decide +kernel
theorem dX4_isFull_14 : decode cX4_isFull 14 = .ok (.ireturn, 1) := by decide +kernel
theorem dX4_add_0 : decode cX4_add 0 = .ok (.aload_n 0, 1) := by decide +kernel
theorem dX4_add_1 : decode cX4_add 1 = .ok (.getfield 9, 3) := by decide +kernel
theorem dX4_add_4 : decode cX4_add 4 = .ok (.aload_n 0, 1) := by decide +kernel
theorem dX4_add_5 : decode cX4_add 5 = .ok (.getfield 28, 3) := by decide +kernel
theorem dX4_add_8 : decode cX4_add 8 = .ok (.iload_n 1, 1) := by decide +kernel
theorem dX4_add_9 : decode cX4_add 9 = .ok (.iastore, 1) := by decide +kernel
theorem dX4_add_10 : decode cX4_add 10 = .ok (.aload_n 0, 1) := by decide +kernel
theorem dX4_add_11 : decode cX4_add 11 = .ok (.getfield 15, 3) := by decide +kernel
theorem dX4_add_14 : decode cX4_add 14 = .ok (.aload_n 0, 1) := by decide +kernel
theorem dX4_add_15 : decode cX4_add 15 = .ok (.getfield 28, 3) := by decide +kernel
theorem dX4_add_18 : decode cX4_add 18 = .ok (.iload_n 2, 1) := by decide +kernel
theorem dX4_add_19 : decode cX4_add 19 = .ok (.iastore, 1) := by decide +kernel
theorem dX4_add_20 : decode cX4_add 20 = .ok (.aload_n 0, 1) := by decide +kernel
theorem dX4_add_21 : decode cX4_add 21 = .ok (.getfield 18, 3) := by decide +kernel
theorem dX4_add_24 : decode cX4_add 24 = .ok (.aload_n 0, 1) := by decide +kernel
theorem dX4_add_25 : decode cX4_add 25 = .ok (.getfield 28, 3) := by decide +kernel
theorem dX4_add_28 : decode cX4_add 28 = .ok (.iload_n 3, 1) := by decide +kernel
theorem dX4_add_29 : decode cX4_add 29 = .ok (.iastore, 1) := by decide +kernel
theorem dX4_add_30 : decode cX4_add 30 = .ok (.aload_n 0, 1) := by decide +kernel
theorem dX4_add_31 : decode cX4_add 31 = .ok (.getfield 24, 3) := by decide +kernel
theorem dX4_add_34 : decode cX4_add 34 = .ok (.aload_n 0, 1) := by decide +kernel
theorem dX4_add_35 : decode cX4_add 35 = .ok (.getfield 28, 3) := by decide +kernel
theorem dX4_add_38 : decode cX4_add 38 = .ok (.iconst 1, 1) := by decide +kernel
theorem dX4_add_39 : decode cX4_add 39 = .ok (.bastore, 1) := by decide +kernel
theorem dX4_add_40 : decode cX4_add 40 = .ok (.aload_n 0, 1) := by decide +kernel
theorem dX4_add_41 : decode cX4_add 41 = .ok (.dup, 1) := by decide +kernel
theorem dX4_add_42 : decode cX4_add 42 = .ok (.getfield 28, 3) := by decide +kernel
theorem dX4_add_45 : decode cX4_add 45 = .ok (.iconst 1, 1) := by decide +kernel
theorem dX4_add_46 : decode cX4_add 46 = .ok (.iadd, 1) := by decide +kernel
theorem dX4_add_47 : decode cX4_add 47 = .ok (.putfield 28, 3) := by decide +kernel
theorem dX4_add_50 : decode cX4_add 50 = .ok (.aload_n 0, 1) := by decide +kernel
theorem dX4_add_51 : decode cX4_add 51 = .ok (.getfield 28, 3) := by decide +kernel
theorem dX4_add_54 : decode cX4_add 54 = .ok (.iconst 1, 1) := by decide +kernel
theorem dX4_add_55 : decode cX4_add 55 = .ok (.isub, 1) := by decide +kernel
theorem dX4_add_56 : decode cX4_add 56 = .ok (.ireturn, 1) := by decide +kernel
theorem dX5_init_0 : decode cX5_init 0 = .ok (.aload_n 0, 1) := by decide +kernel
theorem dX5_init_1 : decode cX5_init 1 = .ok (.invokespecial 3, 3) := by decide +kernel
theorem dX5_init_4 : decode cX5_init 4 = .ok (.aload_n 0, 1) := by decide +kernel
theorem dX5_init_5 : decode cX5_init 5 = .ok (.sipush 512, 3) := by decide +kernel
theorem dX5_init_8 : decode cX5_init 8 = .ok (.newarray .int, 2) := by decide +kernel
theorem dX5_init_10 : decode cX5_init 10 = .ok (.putfield 9, 3) := by decide +kernel
theorem dX5_init_13 : decode cX5_init 13 = .ok (.aload_n 0, 1) := by decide +kernel
theorem dX5_init_14 : decode cX5_init 14 = .ok (.sipush 512, 3) := by decide +kernel
theorem dX5_init_17 : decode cX5_init 17 = .ok (.newarray .int, 2) := by decide +kernel
theorem dX5_init_19 : decode cX5_init 19 = .ok (.putfield 15, 3) := by decide +kernel
theorem dX5_init_22 : decode cX5_init 22 = .ok (.aload_n 0, 1) := by decide +kernel
theorem dX5_init_23 : decode cX5_init 23 = .ok (.sipush 512, 3) := by decide +kernel
theorem dX5_init_26 : decode cX5_init 26 = .ok (.newarray .int, 2) := by decide +kernel
theorem dX5_init_28 : decode cX5_init 28 = .ok (.putfield 18, 3) := by decide +kernel
theorem dX5_init_31 : decode cX5_init 31 = .ok (.aload_n 0, 1) := by decide +kernel
theorem dX5_init_32 : decode cX5_init 32 = .ok (.sipush 512, 3) := by decide +kernel
theorem dX5_init_35 : decode cX5_init 35 = .ok (.newarray .int, 2) := by decide +kernel
theorem dX5_init_37 : decode cX5_init 37 = .ok (.putfield 21, 3) := by decide +kernel
theorem dX5_init_40 : decode cX5_init 40 = .ok (.aload_n 0, 1) := by decide +kernel
theorem dX5_init_41 : decode cX5_init 41 = .ok (.sipush 512, 3) := by decide +kernel
theorem dX5_init_44 : decode cX5_init 44 = .ok (.newarray .boolean, 2) := by decide +kernel
theorem dX5_init_46 : decode cX5_init 46 = .ok (.putfield 24, 3) := by decide +kernel
theorem dX5_init_49 : decode cX5_init 49 = .ok (.aload_n 0, 1) := by decide +kernel
theorem dX5_init_50 : decode cX5_init 50 = .ok (.iconst 0, 1) := by decide +kernel
theorem dX5_init_51 : decode cX5_init 51 = .ok (.putfield 28, 3) := by decide +kernel
theorem dX5_init_54 : decode cX5_init 54 = .ok (.return_, 1) := by decide +kernel
theorem dX5_isFull_0 : decode cX5_isFull 0 = .ok (.aload_n 0, 1) := by decide +kernel
theorem dX5_isFull_1 : decode cX5_isFull 1 = .ok (.getfield 28, 3) := by decide +kernel
theorem dX5_isFull_4 : decode cX5_isFull 4 = .ok (.sipush 512, 3) := by decide +kernel
theorem dX5_isFull_7 : decode cX5_isFull 7 = .ok (.if_icmp .lt 7, 3) := by decide +kernel
theorem dX5_isFull_10 : decode cX5_isFull 10 = .ok (.iconst 1, 1) := by decide +kernel
theorem dX5_isFull_11 : decode cX5_isFull 11 = .ok (.goto 4, 3) := by decide +kernel
theorem dX5_isFull_14 : decode cX5_isFull 14 = .ok (.iconst 0, 1) := by decide +kernel
theorem dX5_isFull_15 : decode cX5_isFull 15 = .ok (.ireturn, 1) := by decide +kernel
theorem dX5_begin_0 : decode cX5_begin 0 = .ok (.aload_n 0, 1) := by decide +kernel
theorem dX5_begin_1 : decode cX5_begin 1 = .ok (.getfield 9, 3) := by decide +kernel
theorem dX5_begin_4 : decode cX5_begin 4 = .ok (.aload_n 0, 1) := by decide +kernel
theorem dX5_begin_5 : decode cX5_begin 5 = .ok (.getfield 28, 3) := by decide +kernel
theorem dX5_begin_8 : decode cX5_begin 8 = .ok (.iload_n 1, 1) := by decide +kernel
theorem dX5_begin_9 : decode cX5_begin 9 = .ok (.iastore, 1) := by decide +kernel
theorem dX5_begin_10 : decode cX5_begin 10 = .ok (.aload_n 0, 1) := by decide +kernel
theorem dX5_begin_11 : decode cX5_begin 11 = .ok (.getfield 15, 3) := by decide +kernel
theorem dX5_begin_14 : decode cX5_begin 14 = .ok (.aload_n 0, 1) := by decide +kernel
theorem dX5_begin_15 : decode cX5_begin 15 = .ok (.getfield 28, 3) := by decide +kernel
theorem dX5_begin_18 : decode cX5_begin 18 = .ok (.iload_n 2, 1) := by decide +kernel
theorem dX5_begin_19 : decode cX5_begin 19 = .ok (.iastore, 1) := by decide +kernel
theorem dX5_begin_20 : decode cX5_begin 20 = .ok (.aload_n 0, 1) := by decide +kernel
theorem dX5_begin_21 : decode cX5_begin 21 = .ok (.getfield 18, 3) := by decide +kernel
theorem dX5_begin_24 : decode cX5_begin 24 = .ok (.aload_n 0, 1) := by decide +kernel
theorem dX5_begin_25 : decode cX5_begin 25 = .ok (.getfield 28, 3) := by decide +kernel
theorem dX5_begin_28 : decode cX5_begin 28 = .ok (.iload_n 3, 1) := by decide +kernel
theorem dX5_begin_29 : decode cX5_begin 29 = .ok (.iastore, 1) := by decide +kernel
theorem dX5_begin_30 : decode cX5_begin 30 = .ok (.aload_n 0, 1) := by decide +kernel
theorem dX5_begin_31 : decode cX5_begin 31 = .ok (.getfield 21, 3) := by decide +kernel
theorem dX5_begin_34 : decode cX5_begin 34 = .ok (.aload_n 0, 1) := by decide +kernel
theorem dX5_begin_35 : decode cX5_begin 35 = .ok (.getfield 28, 3) := by decide +kernel
theorem dX5_begin_38 : decode cX5_begin 38 = .ok (.ldc 32, 2) := by decide +kernel
theorem dX5_begin_40 : decode cX5_begin 40 = .ok (.iastore, 1) := by decide +kernel
theorem dX5_begin_41 : decode cX5_begin 41 = .ok (.aload_n 0, 1) := by decide +kernel
theorem dX5_begin_42 : decode cX5_begin 42 = .ok (.dup, 1) := by decide +kernel
theorem dX5_begin_43 : decode cX5_begin 43 = .ok (.getfield 28, 3) := by decide +kernel
theorem dX5_begin_46 : decode cX5_begin 46 = .ok (.iconst 1, 1) := by decide +kernel
theorem dX5_begin_47 : decode cX5_begin 47 = .ok (.iadd, 1) := by decide +kernel
theorem dX5_begin_48 : decode cX5_begin 48 = .ok (.putfield 28, 3) := by decide +kernel
theorem dX5_begin_51 : decode cX5_begin 51 = .ok (.aload_n 0, 1) := by decide +kernel
theorem dX5_begin_52 : decode cX5_begin 52 = .ok (.getfield 28, 3) := by decide +kernel
theorem dX5_begin_55 : decode cX5_begin 55 = .ok (.iconst 1, 1) := by decide +kernel
theorem dX5_begin_56 : decode cX5_begin 56 = .ok (.isub, 1) := by decide +kernel
theorem dX5_begin_57 : decode cX5_begin 57 = .ok (.ireturn, 1) := by decide +kernel
theorem dX5_end_0 : decode cX5_end 0 = .ok (.aload_n 0, 1) := by decide +kernel
theorem dX5_end_1 : decode cX5_end 1 = .ok (.getfield 21, 3) := by decide +kernel
theorem dX5_end_4 : decode cX5_end 4 = .ok (.iload_n 1, 1) := by decide +kernel
theorem dX5_end_5 : decode cX5_end 5 = .ok (.iload_n 2, 1) := by decide +kernel
theorem dX5_end_6 : decode cX5_end 6 = .ok (.iastore, 1) := by decide +kernel
theorem dX5_end_7 : decode cX5_end 7 = .ok (.return_, 1) := by decide +kernel
theorem dX5_holdsOn_0 : decode cX5_holdsOn 0 = .ok (.aload_n 0, 1) := by decide +kernel
theorem dX5_holdsOn_1 : decode cX5_holdsOn 1 = .ok (.getfield 18, 3) := by decide +kernel
theorem dX5_holdsOn_4 : decode cX5_holdsOn 4 = .ok (.iload_n 1, 1) := by decide +kernel
theorem dX5_holdsOn_5 : decode cX5_holdsOn 5 = .ok (.iaload, 1) := by decide +kernel
theorem dX5_holdsOn_6 : decode cX5_holdsOn 6 = .ok (.iload_n 2, 1) := by decide +kernel
theorem dX5_holdsOn_7 : decode cX5_holdsOn 7 = .ok (.if_icmp .gt 17, 3) := by decide +kernel
theorem dX5_holdsOn_10 : decode cX5_holdsOn 10 = .ok (.iload_n 2, 1) := by decide +kernel
theorem dX5_holdsOn_11 : decode cX5_holdsOn 11 = .ok (.aload_n 0, 1) := by decide +kernel
theorem dX5_holdsOn_12 : decode cX5_holdsOn 12 = .ok (.getfield 21, 3) := by decide +kernel
theorem dX5_holdsOn_15 : decode cX5_holdsOn 15 = .ok (.iload_n 1, 1) := by decide +kernel
theorem dX5_holdsOn_16 : decode cX5_holdsOn 16 = .ok (.iaload, 1) := by decide +kernel
theorem dX5_holdsOn_17 : decode cX5_holdsOn 17 = .ok (.if_icmp .ge 7, 3) := by decide +kernel
theorem dX5_holdsOn_20 : decode cX5_holdsOn 20 = .ok (.iconst 1, 1) := by decide +kernel
theorem dX5_holdsOn_21 : decode cX5_holdsOn 21 = .ok (.goto 4, 3) := by decide +kernel
theorem dX5_holdsOn_24 : decode cX5_holdsOn 24 = .ok (.iconst 0, 1) := by decide +kernel
theorem dX5_holdsOn_25 : decode cX5_holdsOn 25 = .ok (.ireturn, 1) := by decide +kernel
theorem dX5_ofPointOn_0 : decode cX5_ofPointOn 0 = .ok (.iconst 0, 1) := by decide +kernel
theorem dX5_ofPointOn_1 : decode cX5_ofPointOn 1 = .ok (.istore_n 3, 1) := by decide +kernel
theorem dX5_ofPointOn_2 : decode cX5_ofPointOn 2 = .ok (.iload_n 3, 1) := by decide +kernel
theorem dX5_ofPointOn_3 : decode cX5_ofPointOn 3 = .ok (.aload_n 0, 1) := by decide +kernel
theorem dX5_ofPointOn_4 : decode cX5_ofPointOn 4 = .ok (.getfield 28, 3) := by decide +kernel
theorem dX5_ofPointOn_7 : decode cX5_ofPointOn 7 = .ok (.if_icmp .ge 30, 3) := by decide +kernel
theorem dX5_ofPointOn_10 : decode cX5_ofPointOn 10 = .ok (.aload_n 0, 1) := by decide +kernel
theorem dX5_ofPointOn_11 : decode cX5_ofPointOn 11 = .ok (.getfield 9, 3) := by decide +kernel
theorem dX5_ofPointOn_14 : decode cX5_ofPointOn 14 = .ok (.iload_n 3, 1) := by decide +kernel
theorem dX5_ofPointOn_15 : decode cX5_ofPointOn 15 = .ok (.iaload, 1) := by decide +kernel
theorem dX5_ofPointOn_16 : decode cX5_ofPointOn 16 = .ok (.iload_n 1, 1) := by decide +kernel
theorem dX5_ofPointOn_17 : decode cX5_ofPointOn 17 = .ok (.if_icmp .ne 14, 3) := by decide +kernel
theorem dX5_ofPointOn_20 : decode cX5_ofPointOn 20 = .ok (.aload_n 0, 1) := by decide +kernel
theorem dX5_ofPointOn_21 : decode cX5_ofPointOn 21 = .ok (.iload_n 3, 1) := by decide +kernel
theorem dX5_ofPointOn_22 : decode cX5_ofPointOn 22 = .ok (.iload_n 2, 1) := by decide +kernel
theorem dX5_ofPointOn_23 : decode cX5_ofPointOn 23 = .ok (.invokevirtual 33, 3) := by decide +kernel
theorem dX5_ofPointOn_26 : decode cX5_ofPointOn 26 = .ok (.ifCond .eq 5, 3) := by decide +kernel
theorem dX5_ofPointOn_29 : decode cX5_ofPointOn 29 = .ok (.iload_n 3, 1) := by decide +kernel
theorem dX5_ofPointOn_30 : decode cX5_ofPointOn 30 = .ok (.ireturn, 1) := by decide +kernel
theorem dX5_ofPointOn_31 : decode cX5_ofPointOn 31 = .ok (.iinc 3 1, 3) := by decide +kernel
theorem dX5_ofPointOn_34 : decode cX5_ofPointOn 34 = .ok (.goto (-32), 3) := by decide +kernel
theorem dX5_ofPointOn_37 : decode cX5_ofPointOn 37 = .ok (.iconst (-1), 1) := by decide +kernel
theorem dX5_ofPointOn_38 : decode cX5_ofPointOn 38 = .ok (.ireturn, 1) := by decide +kernel
theorem dX5_isLeftShortlyBefore_0 : decode cX5_isLeftShortlyBefore 0 = .ok (.aload_n 0, 1) := by decide +kernel
theorem dX5_isLeftShortlyBefore_1 : decode cX5_isLeftShortlyBefore 1 = .ok (.getfield 24, 3) := by decide +kernel
theorem dX5_isLeftShortlyBefore_4 : decode cX5_isLeftShortlyBefore 4 = .ok (.iload_n 1, 1) := by decide +kernel
theorem dX5_isLeftShortlyBefore_5 : decode cX5_isLeftShortlyBefore 5 = .ok (.baload, 1) := by decide +kernel
theorem dX5_isLeftShortlyBefore_6 : decode cX5_isLeftShortlyBefore 6 = .ok (.ifCond .eq 31, 3) := by decide +kernel
theorem dX5_isLeftShortlyBefore_9 : decode cX5_isLeftShortlyBefore 9 = .ok (.aload_n 0, 1) := by decide +kernel
theorem dX5_isLeftShortlyBefore_10 : decode cX5_isLeftShortlyBefore 10 = .ok (.getfield 21, 3) := by decide +kernel
theorem dX5_isLeftShortlyBefore_13 : decode cX5_isLeftShortlyBefore 13 = .ok (.iload_n 1, 1) := by decide +kernel
theorem dX5_isLeftShortlyBefore_14 : decode cX5_isLeftShortlyBefore 14 = .ok (.iaload, 1) := by decide +kernel
theorem dX5_isLeftShortlyBefore_15 : decode cX5_isLeftShortlyBefore 15 = .ok (.iload_n 2, 1) := by decide +kernel
theorem dX5_isLeftShortlyBefore_16 : decode cX5_isLeftShortlyBefore 16 = .ok (.if_icmp .gt 21, 3) := by decide +kernel
theorem dX5_isLeftShortlyBefore_19 : decode cX5_isLeftShortlyBefore 19 = .ok (.iload_n 2, 1) := by decide +kernel
theorem dX5_isLeftShortlyBefore_20 : decode cX5_isLeftShortlyBefore 20 = .ok (.aload_n 0, 1) := by decide +kernel
theorem dX5_isLeftShortlyBefore_21 : decode cX5_isLeftShortlyBefore 21 = .ok (.getfield 21, 3) := by decide +kernel
theorem dX5_isLeftShortlyBefore_24 : decode cX5_isLeftShortlyBefore 24 = .ok (.iload_n 1, 1) := by decide +kernel
theorem dX5_isLeftShortlyBefore_25 : decode cX5_isLeftShortlyBefore 25 = .ok (.iaload, 1) := by decide +kernel
theorem dX5_isLeftShortlyBefore_26 : decode cX5_isLeftShortlyBefore 26 = .ok (.isub, 1) := by decide +kernel
theorem dX5_isLeftShortlyBefore_27 : decode cX5_isLeftShortlyBefore 27 = .ok (.sipush 180, 3) := by decide +kernel
theorem dX5_isLeftShortlyBefore_30 : decode cX5_isLeftShortlyBefore 30 = .ok (.if_icmp .ge 7, 3) := by decide +kernel
theorem dX5_isLeftShortlyBefore_33 : decode cX5_isLeftShortlyBefore 33 = .ok (.iconst 1, 1) := by decide +kernel
theorem dX5_isLeftShortlyBefore_34 : decode cX5_isLeftShortlyBefore 34 = .ok (.goto 4, 3) := by decide +kernel
theorem dX5_isLeftShortlyBefore_37 : decode cX5_isLeftShortlyBefore 37 = .ok (.iconst 0, 1) := by decide +kernel
theorem dX5_isLeftShortlyBefore_38 : decode cX5_isLeftShortlyBefore 38 = .ok (.ireturn, 1) := by decide +kernel
theorem dX5_isLeftLater_0 : decode cX5_isLeftLater 0 = .ok (.aload_n 0, 1) := by decide +kernel
theorem dX5_isLeftLater_1 : decode cX5_isLeftLater 1 = .ok (.getfield 21, 3) := by decide +kernel
theorem dX5_isLeftLater_4 : decode cX5_isLeftLater 4 = .ok (.iload_n 1, 1) := by decide +kernel
theorem dX5_isLeftLater_5 : decode cX5_isLeftLater 5 = .ok (.iaload, 1) := by decide +kernel
theorem dX5_isLeftLater_6 : decode cX5_isLeftLater 6 = .ok (.aload_n 0, 1) := by decide +kernel
theorem dX5_isLeftLater_7 : decode cX5_isLeftLater 7 = .ok (.getfield 21, 3) := by decide +kernel
theorem dX5_isLeftLater_10 : decode cX5_isLeftLater 10 = .ok (.iload_n 2, 1) := by decide +kernel
theorem dX5_isLeftLater_11 : decode cX5_isLeftLater 11 = .ok (.iaload, 1) := by decide +kernel
theorem dX5_isLeftLater_12 : decode cX5_isLeftLater 12 = .ok (.if_icmp .eq 24, 3) := by decide +kernel
theorem dX5_isLeftLater_15 : decode cX5_isLeftLater 15 = .ok (.aload_n 0, 1) := by decide +kernel
theorem dX5_isLeftLater_16 : decode cX5_isLeftLater 16 = .ok (.getfield 21, 3) := by decide +kernel
theorem dX5_isLeftLater_19 : decode cX5_isLeftLater 19 = .ok (.iload_n 1, 1) := by decide +kernel
theorem dX5_isLeftLater_20 : decode cX5_isLeftLater 20 = .ok (.iaload, 1) := by decide +kernel
theorem dX5_isLeftLater_21 : decode cX5_isLeftLater 21 = .ok (.aload_n 0, 1) := by decide +kernel
theorem dX5_isLeftLater_22 : decode cX5_isLeftLater 22 = .ok (.getfield 21, 3) := by decide +kernel
theorem dX5_isLeftLater_25 : decode cX5_isLeftLater 25 = .ok (.iload_n 2, 1) := by decide +kernel
theorem dX5_isLeftLater_26 : decode cX5_isLeftLater 26 = .ok (.iaload, 1) := by decide +kernel
theorem dX5_isLeftLater_27 : decode cX5_isLeftLater 27 = .ok (.if_icmp .le 7, 3) := by decide +kernel
theorem dX5_isLeftLater_30 : decode cX5_isLeftLater 30 = .ok (.iconst 1, 1) := by decide +kernel
theorem dX5_isLeftLater_31 : decode cX5_isLeftLater 31 = .ok (.goto 4, 3) := by decide +kernel
theorem dX5_isLeftLater_34 : decode cX5_isLeftLater 34 = .ok (.iconst 0, 1) := by decide +kernel
theorem dX5_isLeftLater_35 : decode cX5_isLeftLater 35 = .ok (.ireturn, 1) := by decide +kernel
theorem dX5_isLeftLater_36 : decode cX5_isLeftLater 36 = .ok (.aload_n 0, 1) := by decide +kernel
theorem dX5_isLeftLater_37 : decode cX5_isLeftLater 37 = .ok (.getfield 9, 3) := by decide +kernel
theorem dX5_isLeftLater_40 : decode cX5_isLeftLater 40 = .ok (.iload_n 1, 1) := by decide +kernel
theorem dX5_isLeftLater_41 : decode cX5_isLeftLater 41 = .ok (.iaload, 1) := by decide +kernel
theorem dX5_isLeftLater_42 : decode cX5_isLeftLater 42 = .ok (.aload_n 0, 1) := by decide +kernel
theorem dX5_isLeftLater_43 : decode cX5_isLeftLater 43 = .ok (.getfield 9, 3) := by decide +kernel
theorem dX5_isLeftLater_46 : decode cX5_isLeftLater 46 = .ok (.iload_n 2, 1) := by decide +kernel
theorem dX5_isLeftLater_47 : decode cX5_isLeftLater 47 = .ok (.iaload, 1) := by decide +kernel
theorem dX5_isLeftLater_48 : decode cX5_isLeftLater 48 = .ok (.if_icmp .ge 7, 3) := by decide +kernel
theorem dX5_isLeftLater_51 : decode cX5_isLeftLater 51 = .ok (.iconst 1, 1) := by decide +kernel
theorem dX5_isLeftLater_52 : decode cX5_isLeftLater 52 = .ok (.goto 4, 3) := by decide +kernel
theorem dX5_isLeftLater_55 : decode cX5_isLeftLater 55 = .ok (.iconst 0, 1) := by decide +kernel
theorem dX5_isLeftLater_56 : decode cX5_isLeftLater 56 = .ok (.ireturn, 1) := by decide +kernel
theorem dX0_init_0 : decode cX0_init 0 = .ok (.aload_n 0, 1) := by decide +kernel
theorem dX0_init_1 : decode cX0_init 1 = .ok (.invokespecial 3, 3) := by decide +kernel
theorem dX0_init_4 : decode cX0_init 4 = .ok (.aload_n 0, 1) := by decide +kernel
theorem dX0_init_5 : decode cX0_init 5 = .ok (.new 9, 3) := by decide +kernel
theorem dX0_init_8 : decode cX0_init 8 = .ok (.dup, 1) := by decide +kernel
theorem dX0_init_9 : decode cX0_init 9 = .ok (.invokespecial 11, 3) := by decide +kernel
theorem dX0_init_12 : decode cX0_init 12 = .ok (.putfield 12, 3) := by decide +kernel
theorem dX0_init_15 : decode cX0_init 15 = .ok (.aload_n 0, 1) := by decide +kernel
theorem dX0_init_16 : decode cX0_init 16 = .ok (.new 16, 3) := by decide +kernel
theorem dX0_init_19 : decode cX0_init 19 = .ok (.dup, 1) := by decide +kernel
theorem dX0_init_20 : decode cX0_init 20 = .ok (.invokespecial 18, 3) := by decide +kernel
theorem dX0_init_23 : decode cX0_init 23 = .ok (.putfield 19, 3) := by decide +kernel
theorem dX0_init_26 : decode cX0_init 26 = .ok (.aload_n 0, 1) := by decide +kernel
theorem dX0_init_27 : decode cX0_init 27 = .ok (.new 23, 3) := by decide +kernel
theorem dX0_init_30 : decode cX0_init 30 = .ok (.dup, 1) := by decide +kernel
theorem dX0_init_31 : decode cX0_init 31 = .ok (.invokespecial 25, 3) := by decide +kernel
theorem dX0_init_34 : decode cX0_init 34 = .ok (.putfield 26, 3) := by decide +kernel
theorem dX0_init_37 : decode cX0_init 37 = .ok (.aload_n 0, 1) := by decide +kernel
theorem dX0_init_38 : decode cX0_init 38 = .ok (.new 30, 3) := by decide +kernel
theorem dX0_init_41 : decode cX0_init 41 = .ok (.dup, 1) := by decide +kernel
theorem dX0_init_42 : decode cX0_init 42 = .ok (.invokespecial 32, 3) := by decide +kernel
theorem dX0_init_45 : decode cX0_init 45 = .ok (.putfield 33, 3) := by decide +kernel
theorem dX0_init_48 : decode cX0_init 48 = .ok (.aload_n 0, 1) := by decide +kernel
theorem dX0_init_49 : decode cX0_init 49 = .ok (.new 37, 3) := by decide +kernel
theorem dX0_init_52 : decode cX0_init 52 = .ok (.dup, 1) := by decide +kernel
theorem dX0_init_53 : decode cX0_init 53 = .ok (.invokespecial 39, 3) := by decide +kernel
theorem dX0_init_56 : decode cX0_init 56 = .ok (.putfield 40, 3) := by decide +kernel
theorem dX0_init_59 : decode cX0_init 59 = .ok (.aload_n 0, 1) := by decide +kernel
theorem dX0_init_60 : decode cX0_init 60 = .ok (.sipush 1000, 3) := by decide +kernel
theorem dX0_init_63 : decode cX0_init 63 = .ok (.newarray .boolean, 2) := by decide +kernel
theorem dX0_init_65 : decode cX0_init 65 = .ok (.putfield 44, 3) := by decide +kernel
theorem dX0_init_68 : decode cX0_init 68 = .ok (.aload_n 0, 1) := by decide +kernel
theorem dX0_init_69 : decode cX0_init 69 = .ok (.iconst 0, 1) := by decide +kernel
theorem dX0_init_70 : decode cX0_init 70 = .ok (.putfield 48, 3) := by decide +kernel
theorem dX0_init_73 : decode cX0_init 73 = .ok (.return_, 1) := by decide +kernel
theorem dX0_isName_0 : decode cX0_isName 0 = .ok (.iload_n 0, 1) := by decide +kernel
theorem dX0_isName_1 : decode cX0_isName 1 = .ok (.iconst 0, 1) := by decide +kernel
theorem dX0_isName_2 : decode cX0_isName 2 = .ok (.sipush 9999, 3) := by decide +kernel
theorem dX0_isName_5 : decode cX0_isName 5 = .ok (.invokestatic 53, 3) := by decide +kernel
theorem dX0_isName_8 : decode cX0_isName 8 = .ok (.ireturn, 1) := by decide +kernel
theorem dX0_place_0 : decode cX0_place 0 = .ok (.iload_n 1, 1) := by decide +kernel
theorem dX0_place_1 : decode cX0_place 1 = .ok (.iconst 1, 1) := by decide +kernel
theorem dX0_place_2 : decode cX0_place 2 = .ok (.ldc 52, 2) := by decide +kernel
theorem dX0_place_4 : decode cX0_place 4 = .ok (.invokestatic 53, 3) := by decide +kernel
theorem dX0_place_7 : decode cX0_place 7 = .ok (.ifCond .eq 10, 3) := by decide +kernel
theorem dX0_place_10 : decode cX0_place 10 = .ok (.iload_n 2, 1) := by decide +kernel
theorem dX0_place_11 : decode cX0_place 11 = .ok (.invokestatic 57, 3) := by decide +kernel
theorem dX0_place_14 : decode cX0_place 14 = .ok (.ifCond .ne 6, 3) := by decide +kernel
theorem dX0_place_17 : decode cX0_place 17 = .ok (.bipush (-12), 2) := by decide +kernel
theorem dX0_place_19 : decode cX0_place 19 = .ok (.ireturn, 1) := by decide +kernel
theorem dX0_place_20 : decode cX0_place 20 = .ok (.aload_n 0, 1) := by decide +kernel
theorem dX0_place_21 : decode cX0_place 21 = .ok (.getfield 12, 3) := by decide +kernel
theorem dX0_place_24 : decode cX0_place 24 = .ok (.iload_n 1, 1) := by decide +kernel
theorem dX0_place_25 : decode cX0_place 25 = .ok (.invokevirtual 61, 3) := by decide +kernel
theorem dX0_place_28 : decode cX0_place 28 = .ok (.iconst (-1), 1) := by decide +kernel
theorem dX0_place_29 : decode cX0_place 29 = .ok (.if_icmp .eq 6, 3) := by decide +kernel
theorem dX0_place_32 : decode cX0_place 32 = .ok (.bipush (-13), 2) := by decide +kernel
theorem dX0_place_34 : decode cX0_place 34 = .ok (.ireturn, 1) := by decide +kernel
theorem dX0_place_35 : decode cX0_place 35 = .ok (.aload_n 0, 1) := by decide +kernel
theorem dX0_place_36 : decode cX0_place 36 = .ok (.getfield 12, 3) := by decide +kernel
theorem dX0_place_39 : decode cX0_place 39 = .ok (.invokevirtual 65, 3) := by decide +kernel
theorem dX0_place_42 : decode cX0_place 42 = .ok (.ifCond .eq 8, 3) := by decide +kernel
theorem dX0_place_45 : decode cX0_place 45 = .ok (.bipush (-14), 2) := by decide +kernel
theorem dX0_place_47 : decode cX0_place 47 = .ok (.goto 11, 3) := by decide +kernel
theorem dX0_place_50 : decode cX0_place 50 = .ok (.aload_n 0, 1) := by decide +kernel
theorem dX0_place_51 : decode cX0_place 51 = .ok (.getfield 12, 3) := by decide +kernel
theorem dX0_place_54 : decode cX0_place 54 = .ok (.iload_n 1, 1) := by decide +kernel
theorem dX0_place_55 : decode cX0_place 55 = .ok (.invokevirtual 69, 3) := by decide +kernel
theorem dX0_place_58 : decode cX0_place 58 = .ok (.ireturn, 1) := by decide +kernel
theorem dX0_street_0 : decode cX0_street 0 = .ok (.aload_n 0, 1) := by decide +kernel
theorem dX0_street_1 : decode cX0_street 1 = .ok (.getfield 12, 3) := by decide +kernel
theorem dX0_street_4 : decode cX0_street 4 = .ok (.iload_n 1, 1) := by decide +kernel
theorem dX0_street_5 : decode cX0_street 5 = .ok (.invokevirtual 72, 3) := by decide +kernel
theorem dX0_street_8 : decode cX0_street 8 = .ok (.ifCond .ne 6, 3) := by decide +kernel
theorem dX0_street_11 : decode cX0_street 11 = .ok (.bipush (-11), 2) := by decide +kernel
theorem dX0_street_13 : decode cX0_street 13 = .ok (.ireturn, 1) := by decide +kernel
theorem dX0_street_14 : decode cX0_street 14 = .ok (.iload_n 2, 1) := by decide +kernel
theorem dX0_street_15 : decode cX0_street 15 = .ok (.invokestatic 57, 3) := by decide +kernel
theorem dX0_street_18 : decode cX0_street 18 = .ok (.ifCond .ne 6, 3) := by decide +kernel
theorem dX0_street_21 : decode cX0_street 21 = .ok (.bipush (-12), 2) := by decide +kernel
theorem dX0_street_23 : decode cX0_street 23 = .ok (.ireturn, 1) := by decide +kernel
theorem dX0_street_24 : decode cX0_street 24 = .ok (.aload_n 0, 1) := by decide +kernel
theorem dX0_street_25 : decode cX0_street 25 = .ok (.getfield 19, 3) := by decide +kernel
theorem dX0_street_28 : decode cX0_street 28 = .ok (.iload_n 1, 1) := by decide +kernel
theorem dX0_street_29 : decode cX0_street 29 = .ok (.iload_n 2, 1) := by decide +kernel
theorem dX0_street_30 : decode cX0_street 30 = .ok (.invokevirtual 75, 3) := by decide +kernel
theorem dX0_street_33 : decode cX0_street 33 = .ok (.iconst (-1), 1) := by decide +kernel
theorem dX0_street_34 : decode cX0_street 34 = .ok (.if_icmp .eq 6, 3) := by decide +kernel
theorem dX0_street_37 : decode cX0_street 37 = .ok (.bipush (-13), 2) := by decide +kernel
theorem dX0_street_39 : decode cX0_street 39 = .ok (.ireturn, 1) := by decide +kernel
theorem dX0_street_40 : decode cX0_street 40 = .ok (.aload_n 0, 1) := by decide +kernel
theorem dX0_street_41 : decode cX0_street 41 = .ok (.getfield 19, 3) := by decide +kernel
theorem dX0_street_44 : decode cX0_street 44 = .ok (.invokevirtual 79, 3) := by decide +kernel
theorem dX0_street_47 : decode cX0_street 47 = .ok (.ifCond .eq 8, 3) := by decide +kernel
theorem dX0_street_50 : decode cX0_street 50 = .ok (.bipush (-14), 2) := by decide +kernel
theorem dX0_street_52 : decode cX0_street 52 = .ok (.goto 12, 3) := by decide +kernel
theorem dX0_street_55 : decode cX0_street 55 = .ok (.aload_n 0, 1) := by decide +kernel
theorem dX0_street_56 : decode cX0_street 56 = .ok (.getfield 19, 3) := by decide +kernel
theorem dX0_street_59 : decode cX0_street 59 = .ok (.iload_n 1, 1) := by decide +kernel
theorem dX0_street_60 : decode cX0_street 60 = .ok (.iload_n 2, 1) := by decide +kernel
theorem dX0_street_61 : decode cX0_street 61 = .ok (.invokevirtual 80, 3) := by decide +kernel
theorem dX0_street_64 : decode cX0_street 64 = .ok (.ireturn, 1) := by decide +kernel
theorem dX0_find_0 : decode cX0_find 0 = .ok (.aload_n 0, 1) := by decide +kernel
theorem dX0_find_1 : decode cX0_find 1 = .ok (.getfield 12, 3) := by decide +kernel
theorem dX0_find_4 : decode cX0_find 4 = .ok (.iload_n 1, 1) := by decide +kernel
theorem dX0_find_5 : decode cX0_find 5 = .ok (.invokevirtual 61, 3) := by decide +kernel
theorem dX0_find_8 : decode cX0_find 8 = .ok (.istore_n 3, 1) := by decide +kernel
theorem dX0_find_9 : decode cX0_find 9 = .ok (.iload_n 3, 1) := by decide +kernel
theorem dX0_find_10 : decode cX0_find 10 = .ok (.iconst (-1), 1) := by decide +kernel
theorem dX0_find_11 : decode cX0_find 11 = .ok (.if_icmp .ne 7, 3) := by decide +kernel
theorem dX0_find_14 : decode cX0_find 14 = .ok (.iconst (-1), 1) := by decide +kernel
theorem dX0_find_15 : decode cX0_find 15 = .ok (.goto 12, 3) := by decide +kernel
theorem dX0_find_18 : decode cX0_find 18 = .ok (.aload_n 0, 1) := by decide +kernel
theorem dX0_find_19 : decode cX0_find 19 = .ok (.getfield 19, 3) := by decide +kernel
theorem dX0_find_22 : decode cX0_find 22 = .ok (.iload_n 3, 1) := by decide +kernel
theorem dX0_find_23 : decode cX0_find 23 = .ok (.iload_n 2, 1) := by decide +kernel
theorem dX0_find_24 : decode cX0_find 24 = .ok (.invokevirtual 75, 3) := by decide +kernel
theorem dX0_find_27 : decode cX0_find 27 = .ok (.ireturn, 1) := by decide +kernel
theorem dX0_isHouse_0 : decode cX0_isHouse 0 = .ok (.iload_n 0, 1) := by decide +kernel
theorem dX0_isHouse_1 : decode cX0_isHouse 1 = .ok (.iconst 1, 1) := by decide +kernel
theorem dX0_isHouse_2 : decode cX0_isHouse 2 = .ok (.sipush 999, 3) := by decide +kernel
theorem dX0_isHouse_5 : decode cX0_isHouse 5 = .ok (.invokestatic 53, 3) := by decide +kernel
theorem dX0_isHouse_8 : decode cX0_isHouse 8 = .ok (.ireturn, 1) := by decide +kernel
theorem dX0_isTodayOrLater_0 : decode cX0_isTodayOrLater 0 = .ok (.iload_n 1, 1) := by decide +kernel
theorem dX0_isTodayOrLater_1 : decode cX0_isTodayOrLater 1 = .ok (.aload_n 0, 1) := by decide +kernel
theorem dX0_isTodayOrLater_2 : decode cX0_isTodayOrLater 2 = .ok (.getfield 48, 3) := by decide +kernel
theorem dX0_isTodayOrLater_5 : decode cX0_isTodayOrLater 5 = .ok (.ldc_w 268, 3) := by decide +kernel
theorem dX0_isTodayOrLater_8 : decode cX0_isTodayOrLater 8 = .ok (.invokestatic 53, 3) := by decide +kernel
theorem dX0_isTodayOrLater_11 : decode cX0_isTodayOrLater 11 = .ok (.ireturn, 1) := by decide +kernel
theorem dX0_range_0 : decode cX0_range 0 = .ok (.aload_n 0, 1) := by decide +kernel
theorem dX0_range_1 : decode cX0_range 1 = .ok (.getfield 19, 3) := by decide +kernel
theorem dX0_range_4 : decode cX0_range 4 = .ok (.iload_n 1, 1) := by decide +kernel
theorem dX0_range_5 : decode cX0_range 5 = .ok (.invokevirtual 82, 3) := by decide +kernel
theorem dX0_range_8 : decode cX0_range 8 = .ok (.ifCond .ne 6, 3) := by decide +kernel
theorem dX0_range_11 : decode cX0_range 11 = .ok (.bipush (-11), 2) := by decide +kernel
theorem dX0_range_13 : decode cX0_range 13 = .ok (.ireturn, 1) := by decide +kernel
theorem dX0_range_14 : decode cX0_range 14 = .ok (.iload_n 2, 1) := by decide +kernel
theorem dX0_range_15 : decode cX0_range 15 = .ok (.iconst 0, 1) := by decide +kernel
theorem dX0_range_16 : decode cX0_range 16 = .ok (.iconst 2, 1) := by decide +kernel
theorem dX0_range_17 : decode cX0_range 17 = .ok (.invokestatic 53, 3) := by decide +kernel
theorem dX0_range_20 : decode cX0_range 20 = .ok (.ifCond .eq 41, 3) := by decide +kernel
theorem dX0_range_23 : decode cX0_range 23 = .ok (.iload_n 3, 1) := by decide +kernel
theorem dX0_range_24 : decode cX0_range 24 = .ok (.invokestatic 83, 3) := by decide +kernel
theorem dX0_range_27 : decode cX0_range 27 = .ok (.ifCond .eq 34, 3) := by decide +kernel
theorem dX0_range_30 : decode cX0_range 30 = .ok (.iload 4, 2) := by decide +kernel
theorem dX0_range_32 : decode cX0_range 32 = .ok (.invokestatic 83, 3) := by decide +kernel
theorem dX0_range_35 : decode cX0_range 35 = .ok (.ifCond .eq 26, 3) := by decide +kernel
theorem dX0_range_38 : decode cX0_range 38 = .ok (.iload_n 2, 1) := by decide +kernel
theorem dX0_range_39 : decode cX0_range 39 = .ok (.iload_n 3, 1) := by decide +kernel
theorem dX0_range_40 : decode cX0_range 40 = .ok (.invokestatic 86, 3) := by decide +kernel
theorem dX0_range_43 : decode cX0_range 43 = .ok (.iload_n 2, 1) := by decide +kernel
theorem dX0_range_44 : decode cX0_range 44 = .ok (.iload 4, 2) := by decide +kernel
theorem dX0_range_46 : decode cX0_range 46 = .ok (.invokestatic 89, 3) := by decide +kernel
theorem dX0_range_49 : decode cX0_range 49 = .ok (.if_icmp .gt 12, 3) := by decide +kernel
theorem dX0_range_52 : decode cX0_range 52 = .ok (.aload_n 0, 1) := by decide +kernel
theorem dX0_range_53 : decode cX0_range 53 = .ok (.iload 5, 2) := by decide +kernel
theorem dX0_range_55 : decode cX0_range 55 = .ok (.invokevirtual 92, 3) := by decide +kernel
theorem dX0_range_58 : decode cX0_range 58 = .ok (.ifCond .ne 6, 3) := by decide +kernel
theorem dX0_range_61 : decode cX0_range 61 = .ok (.bipush (-12), 2) := by decide +kernel
theorem dX0_range_63 : decode cX0_range 63 = .ok (.ireturn, 1) := by decide +kernel
theorem dX0_range_64 : decode cX0_range 64 = .ok (.aload_n 0, 1) := by decide +kernel
theorem dX0_range_65 : decode cX0_range 65 = .ok (.getfield 19, 3) := by decide +kernel
theorem dX0_range_68 : decode cX0_range 68 = .ok (.iload_n 1, 1) := by decide +kernel
theorem dX0_range_69 : decode cX0_range 69 = .ok (.invokevirtual 95, 3) := by decide +kernel
theorem dX0_range_72 : decode cX0_range 72 = .ok (.ifCond .eq 6, 3) := by decide +kernel
theorem dX0_range_75 : decode cX0_range 75 = .ok (.bipush (-13), 2) := by decide +kernel
theorem dX0_range_77 : decode cX0_range 77 = .ok (.ireturn, 1) := by decide +kernel
theorem dX0_range_78 : decode cX0_range 78 = .ok (.aload_n 0, 1) := by decide +kernel
theorem dX0_range_79 : decode cX0_range 79 = .ok (.getfield 26, 3) := by decide +kernel
theorem dX0_range_82 : decode cX0_range 82 = .ok (.iconst 1, 1) := by decide +kernel
theorem dX0_range_83 : decode cX0_range 83 = .ok (.invokevirtual 98, 3) := by decide +kernel
theorem dX0_range_86 : decode cX0_range 86 = .ok (.ifCond .ne 6, 3) := by decide +kernel
theorem dX0_range_89 : decode cX0_range 89 = .ok (.bipush (-14), 2) := by decide +kernel
theorem dX0_range_91 : decode cX0_range 91 = .ok (.ireturn, 1) := by decide +kernel
theorem dX0_range_92 : decode cX0_range 92 = .ok (.aload_n 0, 1) := by decide +kernel
theorem dX0_range_93 : decode cX0_range 93 = .ok (.getfield 26, 3) := by decide +kernel
theorem dX0_range_96 : decode cX0_range 96 = .ok (.iload_n 1, 1) := by decide +kernel
theorem dX0_range_97 : decode cX0_range 97 = .ok (.iload_n 2, 1) := by decide +kernel
theorem dX0_range_98 : decode cX0_range 98 = .ok (.iload_n 3, 1) := by decide +kernel
theorem dX0_range_99 : decode cX0_range 99 = .ok (.iload 4, 2) := by decide +kernel
theorem dX0_range_101 : decode cX0_range 101 = .ok (.invokevirtual 101, 3) := by decide +kernel
theorem dX0_range_104 : decode cX0_range 104 = .ok (.istore 6, 2) := by decide +kernel
theorem dX0_range_106 : decode cX0_range 106 = .ok (.iload 6, 2) := by decide +kernel
theorem dX0_range_108 : decode cX0_range 108 = .ok (.iconst (-1), 1) := by decide +kernel
theorem dX0_range_109 : decode cX0_range 109 = .ok (.if_icmp .eq 10, 3) := by decide +kernel
theorem dX0_range_112 : decode cX0_range 112 = .ok (.sipush (-200), 3) := by decide +kernel
theorem dX0_range_115 : decode cX0_range 115 = .ok (.iload 6, 2) := by decide +kernel
theorem dX0_range_117 : decode cX0_range 117 = .ok (.isub, 1) := by decide +kernel
theorem dX0_range_118 : decode cX0_range 118 = .ok (.ireturn, 1) := by decide +kernel
theorem dX0_range_119 : decode cX0_range 119 = .ok (.aload_n 0, 1) := by decide +kernel
theorem dX0_range_120 : decode cX0_range 120 = .ok (.iload 5, 2) := by decide +kernel
theorem dX0_range_122 : decode cX0_range 122 = .ok (.putfield 48, 3) := by decide +kernel
theorem dX0_range_125 : decode cX0_range 125 = .ok (.aload_n 0, 1) := by decide +kernel
theorem dX0_range_126 : decode cX0_range 126 = .ok (.getfield 26, 3) := by decide +kernel
theorem dX0_range_129 : decode cX0_range 129 = .ok (.iload_n 1, 1) := by decide +kernel
theorem dX0_range_130 : decode cX0_range 130 = .ok (.iload_n 2, 1) := by decide +kernel
theorem dX0_range_131 : decode cX0_range 131 = .ok (.iload_n 3, 1) := by decide +kernel
theorem dX0_range_132 : decode cX0_range 132 = .ok (.iload 4, 2) := by decide +kernel
theorem dX0_range_134 : decode cX0_range 134 = .ok (.invokevirtual 105, 3) := by decide +kernel
theorem dX0_range_137 : decode cX0_range 137 = .ok (.ireturn, 1) := by decide +kernel
theorem dX0_isExtra_0 : decode cX0_isExtra 0 = .ok (.iload_n 0, 1) := by decide +kernel
theorem dX0_isExtra_1 : decode cX0_isExtra 1 = .ok (.iconst 0, 1) := by decide +kernel
theorem dX0_isExtra_2 : decode cX0_isExtra 2 = .ok (.bipush 25, 2) := by decide +kernel
theorem dX0_isExtra_4 : decode cX0_isExtra 4 = .ok (.invokestatic 53, 3) := by decide +kernel
theorem dX0_isExtra_7 : decode cX0_isExtra 7 = .ok (.ireturn, 1) := by decide +kernel
theorem dX0_houseNow_0 : decode cX0_houseNow 0 = .ok (.aload_n 0, 1) := by decide +kernel
theorem dX0_houseNow_1 : decode cX0_houseNow 1 = .ok (.getfield 40, 3) := by decide +kernel
theorem dX0_houseNow_4 : decode cX0_houseNow 4 = .ok (.getfield 199, 3) := by decide +kernel
theorem dX0_houseNow_7 : decode cX0_houseNow 7 = .ok (.aload_n 0, 1) := by decide +kernel
theorem dX0_houseNow_8 : decode cX0_houseNow 8 = .ok (.getfield 33, 3) := by decide +kernel
theorem dX0_houseNow_11 : decode cX0_houseNow 11 = .ok (.getfield 130, 3) := by decide +kernel
theorem dX0_houseNow_14 : decode cX0_houseNow 14 = .ok (.iload_n 1, 1) := by decide +kernel
theorem dX0_houseNow_15 : decode cX0_houseNow 15 = .ok (.iaload, 1) := by decide +kernel
theorem dX0_houseNow_16 : decode cX0_houseNow 16 = .ok (.iaload, 1) := by decide +kernel
theorem dX0_houseNow_17 : decode cX0_houseNow 17 = .ok (.ireturn, 1) := by decide +kernel
theorem dX0_isTaken_0 : decode cX0_isTaken 0 = .ok (.iconst 0, 1) := by decide +kernel
theorem dX0_isTaken_1 : decode cX0_isTaken 1 = .ok (.istore 4, 2) := by decide +kernel
theorem dX0_isTaken_3 : decode cX0_isTaken 3 = .ok (.iload 4, 2) := by decide +kernel
theorem dX0_isTaken_5 : decode cX0_isTaken 5 = .ok (.aload_n 0, 1) := by decide +kernel
theorem dX0_isTaken_6 : decode cX0_isTaken 6 = .ok (.getfield 33, 3) := by decide +kernel
theorem dX0_isTaken_9 : decode cX0_isTaken 9 = .ok (.getfield 170, 3) := by decide +kernel
theorem dX0_isTaken_12 : decode cX0_isTaken 12 = .ok (.if_icmp .ge 62, 3) := by decide +kernel
theorem dX0_isTaken_15 : decode cX0_isTaken 15 = .ok (.aload_n 0, 1) := by decide +kernel
theorem dX0_isTaken_16 : decode cX0_isTaken 16 = .ok (.getfield 33, 3) := by decide +kernel
theorem dX0_isTaken_19 : decode cX0_isTaken 19 = .ok (.getfield 180, 3) := by decide +kernel
theorem dX0_isTaken_22 : decode cX0_isTaken 22 = .ok (.iload 4, 2) := by decide +kernel
theorem dX0_isTaken_24 : decode cX0_isTaken 24 = .ok (.baload, 1) := by decide +kernel
theorem dX0_isTaken_25 : decode cX0_isTaken 25 = .ok (.ifCond .eq 43, 3) := by decide +kernel
theorem dX0_isTaken_28 : decode cX0_isTaken 28 = .ok (.aload_n 0, 1) := by decide +kernel
theorem dX0_isTaken_29 : decode cX0_isTaken 29 = .ok (.getfield 33, 3) := by decide +kernel
theorem dX0_isTaken_32 : decode cX0_isTaken 32 = .ok (.getfield 181, 3) := by decide +kernel
theorem dX0_isTaken_35 : decode cX0_isTaken 35 = .ok (.iload 4, 2) := by decide +kernel
theorem dX0_isTaken_37 : decode cX0_isTaken 37 = .ok (.iaload, 1) := by decide +kernel
theorem dX0_isTaken_38 : decode cX0_isTaken 38 = .ok (.iload_n 1, 1) := by decide +kernel
theorem dX0_isTaken_39 : decode cX0_isTaken 39 = .ok (.if_icmp .ne 29, 3) := by decide +kernel
theorem dX0_isTaken_42 : decode cX0_isTaken 42 = .ok (.aload_n 0, 1) := by decide +kernel
theorem dX0_isTaken_43 : decode cX0_isTaken 43 = .ok (.getfield 33, 3) := by decide +kernel
theorem dX0_isTaken_46 : decode cX0_isTaken 46 = .ok (.getfield 193, 3) := by decide +kernel
theorem dX0_isTaken_49 : decode cX0_isTaken 49 = .ok (.iload 4, 2) := by decide +kernel
theorem dX0_isTaken_51 : decode cX0_isTaken 51 = .ok (.iaload, 1) := by decide +kernel
theorem dX0_isTaken_52 : decode cX0_isTaken 52 = .ok (.iload_n 3, 1) := by decide +kernel
theorem dX0_isTaken_53 : decode cX0_isTaken 53 = .ok (.if_icmp .ne 15, 3) := by decide +kernel
theorem dX0_isTaken_56 : decode cX0_isTaken 56 = .ok (.aload_n 0, 1) := by decide +kernel
theorem dX0_isTaken_57 : decode cX0_isTaken 57 = .ok (.iload 4, 2) := by decide +kernel
theorem dX0_isTaken_59 : decode cX0_isTaken 59 = .ok (.invokevirtual 227, 3) := by decide +kernel
theorem dX0_isTaken_62 : decode cX0_isTaken 62 = .ok (.iload_n 2, 1) := by decide +kernel
theorem dX0_isTaken_63 : decode cX0_isTaken 63 = .ok (.if_icmp .ne 5, 3) := by decide +kernel
theorem dX0_isTaken_66 : decode cX0_isTaken 66 = .ok (.iconst 1, 1) := by decide +kernel
theorem dX0_isTaken_67 : decode cX0_isTaken 67 = .ok (.ireturn, 1) := by decide +kernel
theorem dX0_isTaken_68 : decode cX0_isTaken 68 = .ok (.iinc 4 1, 3) := by decide +kernel
theorem dX0_isTaken_71 : decode cX0_isTaken 71 = .ok (.goto (-68), 3) := by decide +kernel
theorem dX0_isTaken_74 : decode cX0_isTaken 74 = .ok (.iconst 0, 1) := by decide +kernel
theorem dX0_isTaken_75 : decode cX0_isTaken 75 = .ok (.ireturn, 1) := by decide +kernel
theorem dX0_point_0 : decode cX0_point 0 = .ok (.aload_n 0, 1) := by decide +kernel
theorem dX0_point_1 : decode cX0_point 1 = .ok (.getfield 26, 3) := by decide +kernel
theorem dX0_point_4 : decode cX0_point 4 = .ok (.iload_n 1, 1) := by decide +kernel
theorem dX0_point_5 : decode cX0_point 5 = .ok (.invokevirtual 107, 3) := by decide +kernel
theorem dX0_point_8 : decode cX0_point 8 = .ok (.ifCond .ne 6, 3) := by decide +kernel
theorem dX0_point_11 : decode cX0_point 11 = .ok (.bipush (-11), 2) := by decide +kernel
theorem dX0_point_13 : decode cX0_point 13 = .ok (.ireturn, 1) := by decide +kernel
theorem dX0_point_14 : decode cX0_point 14 = .ok (.aload_n 0, 1) := by decide +kernel
theorem dX0_point_15 : decode cX0_point 15 = .ok (.getfield 26, 3) := by decide +kernel
theorem dX0_point_18 : decode cX0_point 18 = .ok (.iload_n 1, 1) := by decide +kernel
theorem dX0_point_19 : decode cX0_point 19 = .ok (.iload_n 2, 1) := by decide +kernel
theorem dX0_point_20 : decode cX0_point 20 = .ok (.invokevirtual 108, 3) := by decide +kernel
theorem dX0_point_23 : decode cX0_point 23 = .ok (.ifCond .eq 10, 3) := by decide +kernel
theorem dX0_point_26 : decode cX0_point 26 = .ok (.iload_n 3, 1) := by decide +kernel
theorem dX0_point_27 : decode cX0_point 27 = .ok (.invokestatic 112, 3) := by decide +kernel
theorem dX0_point_30 : decode cX0_point 30 = .ok (.ifCond .ne 6, 3) := by decide +kernel
theorem dX0_point_33 : decode cX0_point 33 = .ok (.bipush (-12), 2) := by decide +kernel
theorem dX0_point_35 : decode cX0_point 35 = .ok (.ireturn, 1) := by decide +kernel
theorem dX0_point_36 : decode cX0_point 36 = .ok (.aload_n 0, 1) := by decide +kernel
theorem dX0_point_37 : decode cX0_point 37 = .ok (.getfield 26, 3) := by decide +kernel
theorem dX0_point_40 : decode cX0_point 40 = .ok (.getfield 115, 3) := by decide +kernel
theorem dX0_point_43 : decode cX0_point 43 = .ok (.iload_n 1, 1) := by decide +kernel
theorem dX0_point_44 : decode cX0_point 44 = .ok (.baload, 1) := by decide +kernel
theorem dX0_point_45 : decode cX0_point 45 = .ok (.ifCond .eq 13, 3) := by decide +kernel
theorem dX0_point_48 : decode cX0_point 48 = .ok (.aload_n 0, 1) := by decide +kernel
theorem dX0_point_49 : decode cX0_point 49 = .ok (.iload_n 1, 1) := by decide +kernel
theorem dX0_point_50 : decode cX0_point 50 = .ok (.iload_n 2, 1) := by decide +kernel
theorem dX0_point_51 : decode cX0_point 51 = .ok (.iload_n 3, 1) := by decide +kernel
theorem dX0_point_52 : decode cX0_point 52 = .ok (.invokevirtual 118, 3) := by decide +kernel
theorem dX0_point_55 : decode cX0_point 55 = .ok (.ifCond .eq 6, 3) := by decide +kernel
theorem dX0_point_58 : decode cX0_point 58 = .ok (.bipush (-13), 2) := by decide +kernel
theorem dX0_point_60 : decode cX0_point 60 = .ok (.ireturn, 1) := by decide +kernel
theorem dX0_point_61 : decode cX0_point 61 = .ok (.aload_n 0, 1) := by decide +kernel
theorem dX0_point_62 : decode cX0_point 62 = .ok (.getfield 33, 3) := by decide +kernel
theorem dX0_point_65 : decode cX0_point 65 = .ok (.invokevirtual 121, 3) := by decide +kernel
theorem dX0_point_68 : decode cX0_point 68 = .ok (.ifCond .ne 13, 3) := by decide +kernel
theorem dX0_point_71 : decode cX0_point 71 = .ok (.aload_n 0, 1) := by decide +kernel
theorem dX0_point_72 : decode cX0_point 72 = .ok (.getfield 40, 3) := by decide +kernel
theorem dX0_point_75 : decode cX0_point 75 = .ok (.invokevirtual 122, 3) := by decide +kernel
theorem dX0_point_78 : decode cX0_point 78 = .ok (.ifCond .eq 6, 3) := by decide +kernel
theorem dX0_point_81 : decode cX0_point 81 = .ok (.bipush (-14), 2) := by decide +kernel
theorem dX0_point_83 : decode cX0_point 83 = .ok (.ireturn, 1) := by decide +kernel
theorem dX0_point_84 : decode cX0_point 84 = .ok (.aload_n 0, 1) := by decide +kernel
theorem dX0_point_85 : decode cX0_point 85 = .ok (.getfield 33, 3) := by decide +kernel
theorem dX0_point_88 : decode cX0_point 88 = .ok (.iload_n 1, 1) := by decide +kernel
theorem dX0_point_89 : decode cX0_point 89 = .ok (.aload_n 0, 1) := by decide +kernel
theorem dX0_point_90 : decode cX0_point 90 = .ok (.getfield 26, 3) := by decide +kernel
theorem dX0_point_93 : decode cX0_point 93 = .ok (.getfield 123, 3) := by decide +kernel
theorem dX0_point_96 : decode cX0_point 96 = .ok (.iload_n 1, 1) := by decide +kernel
theorem dX0_point_97 : decode cX0_point 97 = .ok (.iaload, 1) := by decide +kernel
theorem dX0_point_98 : decode cX0_point 98 = .ok (.iload_n 3, 1) := by decide +kernel
theorem dX0_point_99 : decode cX0_point 99 = .ok (.invokevirtual 127, 3) := by decide +kernel
theorem dX0_point_102 : decode cX0_point 102 = .ok (.istore 4, 2) := by decide +kernel
theorem dX0_point_104 : decode cX0_point 104 = .ok (.aload_n 0, 1) := by decide +kernel
theorem dX0_point_105 : decode cX0_point 105 = .ok (.getfield 33, 3) := by decide +kernel
theorem dX0_point_108 : decode cX0_point 108 = .ok (.getfield 130, 3) := by decide +kernel
theorem dX0_point_111 : decode cX0_point 111 = .ok (.iload 4, 2) := by decide +kernel
theorem dX0_point_113 : decode cX0_point 113 = .ok (.aload_n 0, 1) := by decide +kernel
theorem dX0_point_114 : decode cX0_point 114 = .ok (.getfield 40, 3) := by decide +kernel
theorem dX0_point_117 : decode cX0_point 117 = .ok (.iload 4, 2) := by decide +kernel
theorem dX0_point_119 : decode cX0_point 119 = .ok (.iload_n 2, 1) := by decide +kernel
theorem dX0_point_120 : decode cX0_point 120 = .ok (.aload_n 0, 1) := by decide +kernel
theorem dX0_point_121 : decode cX0_point 121 = .ok (.getfield 48, 3) := by decide +kernel
theorem dX0_point_124 : decode cX0_point 124 = .ok (.invokevirtual 133, 3) := by decide +kernel
theorem dX0_point_127 : decode cX0_point 127 = .ok (.iastore, 1) := by decide +kernel
theorem dX0_point_128 : decode cX0_point 128 = .ok (.iload 4, 2) := by decide +kernel
theorem dX0_point_130 : decode cX0_point 130 = .ok (.ireturn, 1) := by decide +kernel
theorem dX0_end_0 : decode cX0_end 0 = .ok (.aload_n 0, 1) := by decide +kernel
theorem dX0_end_1 : decode cX0_end 1 = .ok (.getfield 40, 3) := by decide +kernel
theorem dX0_end_4 : decode cX0_end 4 = .ok (.aload_n 0, 1) := by decide +kernel
theorem dX0_end_5 : decode cX0_end 5 = .ok (.getfield 33, 3) := by decide +kernel
theorem dX0_end_8 : decode cX0_end 8 = .ok (.getfield 130, 3) := by decide +kernel
theorem dX0_end_11 : decode cX0_end 11 = .ok (.iload_n 1, 1) := by decide +kernel
theorem dX0_end_12 : decode cX0_end 12 = .ok (.iaload, 1) := by decide +kernel
theorem dX0_end_13 : decode cX0_end 13 = .ok (.iload_n 2, 1) := by decide +kernel
theorem dX0_end_14 : decode cX0_end 14 = .ok (.invokevirtual 239, 3) := by decide +kernel
theorem dX0_end_17 : decode cX0_end 17 = .ok (.aload_n 0, 1) := by decide +kernel
theorem dX0_end_18 : decode cX0_end 18 = .ok (.getfield 33, 3) := by decide +kernel
theorem dX0_end_21 : decode cX0_end 21 = .ok (.getfield 180, 3) := by decide +kernel
theorem dX0_end_24 : decode cX0_end 24 = .ok (.iload_n 1, 1) := by decide +kernel
theorem dX0_end_25 : decode cX0_end 25 = .ok (.iconst 0, 1) := by decide +kernel
theorem dX0_end_26 : decode cX0_end 26 = .ok (.bastore, 1) := by decide +kernel
theorem dX0_end_27 : decode cX0_end 27 = .ok (.return_, 1) := by decide +kernel
theorem dX0_close_0 : decode cX0_close 0 = .ok (.aload_n 0, 1) := by decide +kernel
theorem dX0_close_1 : decode cX0_close 1 = .ok (.getfield 26, 3) := by decide +kernel
theorem dX0_close_4 : decode cX0_close 4 = .ok (.iload_n 1, 1) := by decide +kernel
theorem dX0_close_5 : decode cX0_close 5 = .ok (.invokevirtual 107, 3) := by decide +kernel
theorem dX0_close_8 : decode cX0_close 8 = .ok (.ifCond .ne 6, 3) := by decide +kernel
theorem dX0_close_11 : decode cX0_close 11 = .ok (.bipush (-11), 2) := by decide +kernel
theorem dX0_close_13 : decode cX0_close 13 = .ok (.ireturn, 1) := by decide +kernel
theorem dX0_close_14 : decode cX0_close 14 = .ok (.aload_n 0, 1) := by decide +kernel
theorem dX0_close_15 : decode cX0_close 15 = .ok (.iload_n 2, 1) := by decide +kernel
theorem dX0_close_16 : decode cX0_close 16 = .ok (.invokevirtual 92, 3) := by decide +kernel
theorem dX0_close_19 : decode cX0_close 19 = .ok (.ifCond .ne 6, 3) := by decide +kernel
theorem dX0_close_22 : decode cX0_close 22 = .ok (.bipush (-12), 2) := by decide +kernel
theorem dX0_close_24 : decode cX0_close 24 = .ok (.ireturn, 1) := by decide +kernel
theorem dX0_close_25 : decode cX0_close 25 = .ok (.aload_n 0, 1) := by decide +kernel
theorem dX0_close_26 : decode cX0_close 26 = .ok (.getfield 26, 3) := by decide +kernel
theorem dX0_close_29 : decode cX0_close 29 = .ok (.getfield 115, 3) := by decide +kernel
theorem dX0_close_32 : decode cX0_close 32 = .ok (.iload_n 1, 1) := by decide +kernel
theorem dX0_close_33 : decode cX0_close 33 = .ok (.baload, 1) := by decide +kernel
theorem dX0_close_34 : decode cX0_close 34 = .ok (.ifCond .ne 6, 3) := by decide +kernel
theorem dX0_close_37 : decode cX0_close 37 = .ok (.bipush (-13), 2) := by decide +kernel
theorem dX0_close_39 : decode cX0_close 39 = .ok (.ireturn, 1) := by decide +kernel
theorem dX0_close_40 : decode cX0_close 40 = .ok (.iconst 0, 1) := by decide +kernel
theorem dX0_close_41 : decode cX0_close 41 = .ok (.istore_n 3, 1) := by decide +kernel
theorem dX0_close_42 : decode cX0_close 42 = .ok (.iconst 0, 1) := by decide +kernel
theorem dX0_close_43 : decode cX0_close 43 = .ok (.istore 4, 2) := by decide +kernel
theorem dX0_close_45 : decode cX0_close 45 = .ok (.iload 4, 2) := by decide +kernel
theorem dX0_close_47 : decode cX0_close 47 = .ok (.aload_n 0, 1) := by decide +kernel
theorem dX0_close_48 : decode cX0_close 48 = .ok (.getfield 33, 3) := by decide +kernel
theorem dX0_close_51 : decode cX0_close 51 = .ok (.getfield 170, 3) := by decide +kernel
theorem dX0_close_54 : decode cX0_close 54 = .ok (.if_icmp .ge 46, 3) := by decide +kernel
theorem dX0_close_57 : decode cX0_close 57 = .ok (.aload_n 0, 1) := by decide +kernel
theorem dX0_close_58 : decode cX0_close 58 = .ok (.getfield 33, 3) := by decide +kernel
theorem dX0_close_61 : decode cX0_close 61 = .ok (.getfield 180, 3) := by decide +kernel
theorem dX0_close_64 : decode cX0_close 64 = .ok (.iload 4, 2) := by decide +kernel
theorem dX0_close_66 : decode cX0_close 66 = .ok (.baload, 1) := by decide +kernel
theorem dX0_close_67 : decode cX0_close 67 = .ok (.ifCond .eq 27, 3) := by decide +kernel
theorem dX0_close_70 : decode cX0_close 70 = .ok (.aload_n 0, 1) := by decide +kernel
theorem dX0_close_71 : decode cX0_close 71 = .ok (.getfield 33, 3) := by decide +kernel
theorem dX0_close_74 : decode cX0_close 74 = .ok (.getfield 181, 3) := by decide +kernel
theorem dX0_close_77 : decode cX0_close 77 = .ok (.iload 4, 2) := by decide +kernel
theorem dX0_close_79 : decode cX0_close 79 = .ok (.iaload, 1) := by decide +kernel
theorem dX0_close_80 : decode cX0_close 80 = .ok (.iload_n 1, 1) := by decide +kernel
theorem dX0_close_81 : decode cX0_close 81 = .ok (.if_icmp .ne 13, 3) := by decide +kernel
theorem dX0_close_84 : decode cX0_close 84 = .ok (.aload_n 0, 1) := by decide +kernel
theorem dX0_close_85 : decode cX0_close 85 = .ok (.iload 4, 2) := by decide +kernel
theorem dX0_close_87 : decode cX0_close 87 = .ok (.iload_n 2, 1) := by decide +kernel
theorem dX0_close_88 : decode cX0_close 88 = .ok (.invokevirtual 211, 3) := by decide +kernel
theorem dX0_close_91 : decode cX0_close 91 = .ok (.iinc 3 1, 3) := by decide +kernel
theorem dX0_close_94 : decode cX0_close 94 = .ok (.iinc 4 1, 3) := by decide +kernel
theorem dX0_close_97 : decode cX0_close 97 = .ok (.goto (-52), 3) := by decide +kernel
theorem dX0_close_100 : decode cX0_close 100 = .ok (.aload_n 0, 1) := by decide +kernel
theorem dX0_close_101 : decode cX0_close 101 = .ok (.getfield 26, 3) := by decide +kernel
theorem dX0_close_104 : decode cX0_close 104 = .ok (.getfield 115, 3) := by decide +kernel
theorem dX0_close_107 : decode cX0_close 107 = .ok (.iload_n 1, 1) := by decide +kernel
theorem dX0_close_108 : decode cX0_close 108 = .ok (.iconst 0, 1) := by decide +kernel
theorem dX0_close_109 : decode cX0_close 109 = .ok (.bastore, 1) := by decide +kernel
theorem dX0_close_110 : decode cX0_close 110 = .ok (.aload_n 0, 1) := by decide +kernel
theorem dX0_close_111 : decode cX0_close 111 = .ok (.iload_n 2, 1) := by decide +kernel
theorem dX0_close_112 : decode cX0_close 112 = .ok (.putfield 48, 3) := by decide +kernel
theorem dX0_close_115 : decode cX0_close 115 = .ok (.iload_n 3, 1) := by decide +kernel
theorem dX0_close_116 : decode cX0_close 116 = .ok (.ireturn, 1) := by decide +kernel
theorem dX0_giveToParts_0 : decode cX0_giveToParts 0 = .ok (.iconst 0, 1) := by decide +kernel
theorem dX0_giveToParts_1 : decode cX0_giveToParts 1 = .ok (.istore 4, 2) := by decide +kernel
theorem dX0_giveToParts_3 : decode cX0_giveToParts 3 = .ok (.iconst 0, 1) := by decide +kernel
theorem dX0_giveToParts_4 : decode cX0_giveToParts 4 = .ok (.istore 5, 2) := by decide +kernel
theorem dX0_giveToParts_6 : decode cX0_giveToParts 6 = .ok (.iload 5, 2) := by decide +kernel
theorem dX0_giveToParts_8 : decode cX0_giveToParts 8 = .ok (.aload_n 0, 1) := by decide +kernel
theorem dX0_giveToParts_9 : decode cX0_giveToParts 9 = .ok (.getfield 33, 3) := by decide +kernel
theorem dX0_giveToParts_12 : decode cX0_giveToParts 12 = .ok (.getfield 170, 3) := by decide +kernel
theorem dX0_giveToParts_15 : decode cX0_giveToParts 15 = .ok (.if_icmp .ge 71, 3) := by decide +kernel
theorem dX0_giveToParts_18 : decode cX0_giveToParts 18 = .ok (.aload_n 0, 1) := by decide +kernel
theorem dX0_giveToParts_19 : decode cX0_giveToParts 19 = .ok (.getfield 33, 3) := by decide +kernel
theorem dX0_giveToParts_22 : decode cX0_giveToParts 22 = .ok (.getfield 180, 3) := by decide +kernel
theorem dX0_giveToParts_25 : decode cX0_giveToParts 25 = .ok (.iload 5, 2) := by decide +kernel
theorem dX0_giveToParts_27 : decode cX0_giveToParts 27 = .ok (.baload, 1) := by decide +kernel
theorem dX0_giveToParts_28 : decode cX0_giveToParts 28 = .ok (.ifCond .eq 52, 3) := by decide +kernel
theorem dX0_giveToParts_31 : decode cX0_giveToParts 31 = .ok (.aload_n 0, 1) := by decide +kernel
theorem dX0_giveToParts_32 : decode cX0_giveToParts 32 = .ok (.getfield 33, 3) := by decide +kernel
theorem dX0_giveToParts_35 : decode cX0_giveToParts 35 = .ok (.getfield 181, 3) := by decide +kernel
theorem dX0_giveToParts_38 : decode cX0_giveToParts 38 = .ok (.iload 5, 2) := by decide +kernel
theorem dX0_giveToParts_40 : decode cX0_giveToParts 40 = .ok (.iaload, 1) := by decide +kernel
theorem dX0_giveToParts_41 : decode cX0_giveToParts 41 = .ok (.iload_n 1, 1) := by decide +kernel
theorem dX0_giveToParts_42 : decode cX0_giveToParts 42 = .ok (.if_icmp .ne 38, 3) := by decide +kernel
theorem dX0_giveToParts_45 : decode cX0_giveToParts 45 = .ok (.aload_n 0, 1) := by decide +kernel
theorem dX0_giveToParts_46 : decode cX0_giveToParts 46 = .ok (.getfield 33, 3) := by decide +kernel
theorem dX0_giveToParts_49 : decode cX0_giveToParts 49 = .ok (.getfield 181, 3) := by decide +kernel
theorem dX0_giveToParts_52 : decode cX0_giveToParts 52 = .ok (.iload 5, 2) := by decide +kernel
theorem dX0_giveToParts_54 : decode cX0_giveToParts 54 = .ok (.aload_n 0, 1) := by decide +kernel
theorem dX0_giveToParts_55 : decode cX0_giveToParts 55 = .ok (.getfield 26, 3) := by decide +kernel
theorem dX0_giveToParts_58 : decode cX0_giveToParts 58 = .ok (.iload_n 2, 1) := by decide +kernel
theorem dX0_giveToParts_59 : decode cX0_giveToParts 59 = .ok (.aload_n 0, 1) := by decide +kernel
theorem dX0_giveToParts_60 : decode cX0_giveToParts 60 = .ok (.iload 5, 2) := by decide +kernel
theorem dX0_giveToParts_62 : decode cX0_giveToParts 62 = .ok (.invokevirtual 227, 3) := by decide +kernel
theorem dX0_giveToParts_65 : decode cX0_giveToParts 65 = .ok (.invokevirtual 108, 3) := by decide +kernel
theorem dX0_giveToParts_68 : decode cX0_giveToParts 68 = .ok (.ifCond .eq 7, 3) := by decide +kernel
theorem dX0_giveToParts_71 : decode cX0_giveToParts 71 = .ok (.iload_n 2, 1) := by decide +kernel
theorem dX0_giveToParts_72 : decode cX0_giveToParts 72 = .ok (.goto 4, 3) := by decide +kernel
theorem dX0_giveToParts_75 : decode cX0_giveToParts 75 = .ok (.iload_n 3, 1) := by decide +kernel
theorem dX0_giveToParts_76 : decode cX0_giveToParts 76 = .ok (.iastore, 1) := by decide +kernel
theorem dX0_giveToParts_77 : decode cX0_giveToParts 77 = .ok (.iinc 4 1, 3) := by decide +kernel
theorem dX0_giveToParts_80 : decode cX0_giveToParts 80 = .ok (.iinc 5 1, 3) := by decide +kernel
theorem dX0_giveToParts_83 : decode cX0_giveToParts 83 = .ok (.goto (-77), 3) := by decide +kernel
theorem dX0_giveToParts_86 : decode cX0_giveToParts 86 = .ok (.iload 4, 2) := by decide +kernel
theorem dX0_giveToParts_88 : decode cX0_giveToParts 88 = .ok (.ireturn, 1) := by decide +kernel
theorem dX0_split_0 : decode cX0_split 0 = .ok (.aload_n 0, 1) := by decide +kernel
theorem dX0_split_1 : decode cX0_split 1 = .ok (.getfield 26, 3) := by decide +kernel
theorem dX0_split_4 : decode cX0_split 4 = .ok (.iload_n 1, 1) := by decide +kernel
theorem dX0_split_5 : decode cX0_split 5 = .ok (.invokevirtual 107, 3) := by decide +kernel
theorem dX0_split_8 : decode cX0_split 8 = .ok (.ifCond .ne 6, 3) := by decide +kernel
theorem dX0_split_11 : decode cX0_split 11 = .ok (.bipush (-11), 2) := by decide +kernel
theorem dX0_split_13 : decode cX0_split 13 = .ok (.ireturn, 1) := by decide +kernel
theorem dX0_split_14 : decode cX0_split 14 = .ok (.aload_n 0, 1) := by decide +kernel
theorem dX0_split_15 : decode cX0_split 15 = .ok (.iload_n 3, 1) := by decide +kernel
theorem dX0_split_16 : decode cX0_split 16 = .ok (.invokevirtual 92, 3) := by decide +kernel
theorem dX0_split_19 : decode cX0_split 19 = .ok (.ifCond .eq 29, 3) := by decide +kernel
theorem dX0_split_22 : decode cX0_split 22 = .ok (.iload_n 2, 1) := by decide +kernel
theorem dX0_split_23 : decode cX0_split 23 = .ok (.aload_n 0, 1) := by decide +kernel
theorem dX0_split_24 : decode cX0_split 24 = .ok (.getfield 26, 3) := by decide +kernel
theorem dX0_split_27 : decode cX0_split 27 = .ok (.getfield 215, 3) := by decide +kernel
theorem dX0_split_30 : decode cX0_split 30 = .ok (.iload_n 1, 1) := by decide +kernel
theorem dX0_split_31 : decode cX0_split 31 = .ok (.iaload, 1) := by decide +kernel
theorem dX0_split_32 : decode cX0_split 32 = .ok (.if_icmp .le 16, 3) := by decide +kernel
theorem dX0_split_35 : decode cX0_split 35 = .ok (.iload_n 2, 1) := by decide +kernel
theorem dX0_split_36 : decode cX0_split 36 = .ok (.aload_n 0, 1) := by decide +kernel
theorem dX0_split_37 : decode cX0_split 37 = .ok (.getfield 26, 3) := by decide +kernel
theorem dX0_split_40 : decode cX0_split 40 = .ok (.getfield 218, 3) := by decide +kernel
theorem dX0_split_43 : decode cX0_split 43 = .ok (.iload_n 1, 1) := by decide +kernel
theorem dX0_split_44 : decode cX0_split 44 = .ok (.iaload, 1) := by decide +kernel
theorem dX0_split_45 : decode cX0_split 45 = .ok (.if_icmp .le 6, 3) := by decide +kernel
theorem dX0_split_48 : decode cX0_split 48 = .ok (.bipush (-12), 2) := by decide +kernel
theorem dX0_split_50 : decode cX0_split 50 = .ok (.ireturn, 1) := by decide +kernel
theorem dX0_split_51 : decode cX0_split 51 = .ok (.aload_n 0, 1) := by decide +kernel
theorem dX0_split_52 : decode cX0_split 52 = .ok (.getfield 26, 3) := by decide +kernel
theorem dX0_split_55 : decode cX0_split 55 = .ok (.getfield 115, 3) := by decide +kernel
theorem dX0_split_58 : decode cX0_split 58 = .ok (.iload_n 1, 1) := by decide +kernel
theorem dX0_split_59 : decode cX0_split 59 = .ok (.baload, 1) := by decide +kernel
theorem dX0_split_60 : decode cX0_split 60 = .ok (.ifCond .ne 6, 3) := by decide +kernel
theorem dX0_split_63 : decode cX0_split 63 = .ok (.bipush (-13), 2) := by decide +kernel
theorem dX0_split_65 : decode cX0_split 65 = .ok (.ireturn, 1) := by decide +kernel
theorem dX0_split_66 : decode cX0_split 66 = .ok (.aload_n 0, 1) := by decide +kernel
theorem dX0_split_67 : decode cX0_split 67 = .ok (.getfield 26, 3) := by decide +kernel
theorem dX0_split_70 : decode cX0_split 70 = .ok (.iconst 2, 1) := by decide +kernel
theorem dX0_split_71 : decode cX0_split 71 = .ok (.invokevirtual 98, 3) := by decide +kernel
theorem dX0_split_74 : decode cX0_split 74 = .ok (.ifCond .ne 6, 3) := by decide +kernel
theorem dX0_split_77 : decode cX0_split 77 = .ok (.bipush (-14), 2) := by decide +kernel
theorem dX0_split_79 : decode cX0_split 79 = .ok (.ireturn, 1) := by decide +kernel
theorem dX0_split_80 : decode cX0_split 80 = .ok (.aload_n 0, 1) := by decide +kernel
theorem dX0_split_81 : decode cX0_split 81 = .ok (.getfield 26, 3) := by decide +kernel
theorem dX0_split_84 : decode cX0_split 84 = .ok (.getfield 123, 3) := by decide +kernel
theorem dX0_split_87 : decode cX0_split 87 = .ok (.iload_n 1, 1) := by decide +kernel
theorem dX0_split_88 : decode cX0_split 88 = .ok (.iaload, 1) := by decide +kernel
theorem dX0_split_89 : decode cX0_split 89 = .ok (.istore 4, 2) := by decide +kernel
theorem dX0_split_91 : decode cX0_split 91 = .ok (.aload_n 0, 1) := by decide +kernel
theorem dX0_split_92 : decode cX0_split 92 = .ok (.getfield 26, 3) := by decide +kernel
theorem dX0_split_95 : decode cX0_split 95 = .ok (.getfield 221, 3) := by decide +kernel
theorem dX0_split_98 : decode cX0_split 98 = .ok (.iload_n 1, 1) := by decide +kernel
theorem dX0_split_99 : decode cX0_split 99 = .ok (.iaload, 1) := by decide +kernel
theorem dX0_split_100 : decode cX0_split 100 = .ok (.istore 5, 2) := by decide +kernel
theorem dX0_split_102 : decode cX0_split 102 = .ok (.aload_n 0, 1) := by decide +kernel
theorem dX0_split_103 : decode cX0_split 103 = .ok (.getfield 26, 3) := by decide +kernel
theorem dX0_split_106 : decode cX0_split 106 = .ok (.iload 4, 2) := by decide +kernel
theorem dX0_split_108 : decode cX0_split 108 = .ok (.iload 5, 2) := by decide +kernel
theorem dX0_split_110 : decode cX0_split 110 = .ok (.aload_n 0, 1) := by decide +kernel
theorem dX0_split_111 : decode cX0_split 111 = .ok (.getfield 26, 3) := by decide +kernel
theorem dX0_split_114 : decode cX0_split 114 = .ok (.getfield 215, 3) := by decide +kernel
theorem dX0_split_117 : decode cX0_split 117 = .ok (.iload_n 1, 1) := by decide +kernel
theorem dX0_split_118 : decode cX0_split 118 = .ok (.iaload, 1) := by decide +kernel
theorem dX0_split_119 : decode cX0_split 119 = .ok (.iload_n 2, 1) := by decide +kernel
theorem dX0_split_120 : decode cX0_split 120 = .ok (.iconst 1, 1) := by decide +kernel
theorem dX0_split_121 : decode cX0_split 121 = .ok (.isub, 1) := by decide +kernel
theorem dX0_split_122 : decode cX0_split 122 = .ok (.invokevirtual 105, 3) := by decide +kernel
theorem dX0_split_125 : decode cX0_split 125 = .ok (.istore 6, 2) := by decide +kernel
theorem dX0_split_127 : decode cX0_split 127 = .ok (.aload_n 0, 1) := by decide +kernel
theorem dX0_split_128 : decode cX0_split 128 = .ok (.getfield 26, 3) := by decide +kernel
theorem dX0_split_131 : decode cX0_split 131 = .ok (.iload 4, 2) := by decide +kernel
theorem dX0_split_133 : decode cX0_split 133 = .ok (.iload 5, 2) := by decide +kernel
theorem dX0_split_135 : decode cX0_split 135 = .ok (.iload_n 2, 1) := by decide +kernel
theorem dX0_split_136 : decode cX0_split 136 = .ok (.aload_n 0, 1) := by decide +kernel
theorem dX0_split_137 : decode cX0_split 137 = .ok (.getfield 26, 3) := by decide +kernel
theorem dX0_split_140 : decode cX0_split 140 = .ok (.getfield 218, 3) := by decide +kernel
theorem dX0_split_143 : decode cX0_split 143 = .ok (.iload_n 1, 1) := by decide +kernel
theorem dX0_split_144 : decode cX0_split 144 = .ok (.iaload, 1) := by decide +kernel
theorem dX0_split_145 : decode cX0_split 145 = .ok (.invokevirtual 105, 3) := by decide +kernel
theorem dX0_split_148 : decode cX0_split 148 = .ok (.istore 7, 2) := by decide +kernel
theorem dX0_split_150 : decode cX0_split 150 = .ok (.aload_n 0, 1) := by decide +kernel
theorem dX0_split_151 : decode cX0_split 151 = .ok (.getfield 26, 3) := by decide +kernel
theorem dX0_split_154 : decode cX0_split 154 = .ok (.getfield 115, 3) := by decide +kernel
theorem dX0_split_157 : decode cX0_split 157 = .ok (.iload_n 1, 1) := by decide +kernel
theorem dX0_split_158 : decode cX0_split 158 = .ok (.iconst 0, 1) := by decide +kernel
theorem dX0_split_159 : decode cX0_split 159 = .ok (.bastore, 1) := by decide +kernel
theorem dX0_split_160 : decode cX0_split 160 = .ok (.aload_n 0, 1) := by decide +kernel
theorem dX0_split_161 : decode cX0_split 161 = .ok (.iload_n 3, 1) := by decide +kernel
theorem dX0_split_162 : decode cX0_split 162 = .ok (.putfield 48, 3) := by decide +kernel
theorem dX0_split_165 : decode cX0_split 165 = .ok (.aload_n 0, 1) := by decide +kernel
theorem dX0_split_166 : decode cX0_split 166 = .ok (.iload_n 1, 1) := by decide +kernel
theorem dX0_split_167 : decode cX0_split 167 = .ok (.iload 6, 2) := by decide +kernel
theorem dX0_split_169 : decode cX0_split 169 = .ok (.iload 7, 2) := by decide +kernel
theorem dX0_split_171 : decode cX0_split 171 = .ok (.invokevirtual 224, 3) := by decide +kernel
theorem dX0_split_174 : decode cX0_split 174 = .ok (.ireturn, 1) := by decide +kernel
theorem dX0_isLiveOf_0 : decode cX0_isLiveOf 0 = .ok (.aload_n 0, 1) := by decide +kernel
theorem dX0_isLiveOf_1 : decode cX0_isLiveOf 1 = .ok (.getfield 33, 3) := by decide +kernel
theorem dX0_isLiveOf_4 : decode cX0_isLiveOf 4 = .ok (.getfield 180, 3) := by decide +kernel
theorem dX0_isLiveOf_7 : decode cX0_isLiveOf 7 = .ok (.iload_n 1, 1) := by decide +kernel
theorem dX0_isLiveOf_8 : decode cX0_isLiveOf 8 = .ok (.baload, 1) := by decide +kernel
theorem dX0_isLiveOf_9 : decode cX0_isLiveOf 9 = .ok (.ifCond .eq 28, 3) := by decide +kernel
theorem dX0_isLiveOf_12 : decode cX0_isLiveOf 12 = .ok (.aload_n 0, 1) := by decide +kernel
theorem dX0_isLiveOf_13 : decode cX0_isLiveOf 13 = .ok (.getfield 26, 3) := by decide +kernel
theorem dX0_isLiveOf_16 : decode cX0_isLiveOf 16 = .ok (.getfield 123, 3) := by decide +kernel
theorem dX0_isLiveOf_19 : decode cX0_isLiveOf 19 = .ok (.aload_n 0, 1) := by decide +kernel
theorem dX0_isLiveOf_20 : decode cX0_isLiveOf 20 = .ok (.getfield 33, 3) := by decide +kernel
theorem dX0_isLiveOf_23 : decode cX0_isLiveOf 23 = .ok (.getfield 181, 3) := by decide +kernel
theorem dX0_isLiveOf_26 : decode cX0_isLiveOf 26 = .ok (.iload_n 1, 1) := by decide +kernel
theorem dX0_isLiveOf_27 : decode cX0_isLiveOf 27 = .ok (.iaload, 1) := by decide +kernel
theorem dX0_isLiveOf_28 : decode cX0_isLiveOf 28 = .ok (.iaload, 1) := by decide +kernel
theorem dX0_isLiveOf_29 : decode cX0_isLiveOf 29 = .ok (.iload_n 2, 1) := by decide +kernel
theorem dX0_isLiveOf_30 : decode cX0_isLiveOf 30 = .ok (.if_icmp .ne 7, 3) := by decide +kernel
theorem dX0_isLiveOf_33 : decode cX0_isLiveOf 33 = .ok (.iconst 1, 1) := by decide +kernel
theorem dX0_isLiveOf_34 : decode cX0_isLiveOf 34 = .ok (.goto 4, 3) := by decide +kernel
theorem dX0_isLiveOf_37 : decode cX0_isLiveOf 37 = .ok (.iconst 0, 1) := by decide +kernel
theorem dX0_isLiveOf_38 : decode cX0_isLiveOf 38 = .ok (.ireturn, 1) := by decide +kernel
theorem dX0_howManyLiveOf_0 : decode cX0_howManyLiveOf 0 = .ok (.iconst 0, 1) := by decide +kernel
theorem dX0_howManyLiveOf_1 : decode cX0_howManyLiveOf 1 = .ok (.istore_n 2, 1) := by decide +kernel
theorem dX0_howManyLiveOf_2 : decode cX0_howManyLiveOf 2 = .ok (.iconst 0, 1) := by decide +kernel
theorem dX0_howManyLiveOf_3 : decode cX0_howManyLiveOf 3 = .ok (.istore_n 3, 1) := by decide +kernel
theorem dX0_howManyLiveOf_4 : decode cX0_howManyLiveOf 4 = .ok (.iload_n 3, 1) := by decide +kernel
theorem dX0_howManyLiveOf_5 : decode cX0_howManyLiveOf 5 = .ok (.aload_n 0, 1) := by decide +kernel
theorem dX0_howManyLiveOf_6 : decode cX0_howManyLiveOf 6 = .ok (.getfield 33, 3) := by decide +kernel
theorem dX0_howManyLiveOf_9 : decode cX0_howManyLiveOf 9 = .ok (.getfield 170, 3) := by decide +kernel
theorem dX0_howManyLiveOf_12 : decode cX0_howManyLiveOf 12 = .ok (.if_icmp .ge 21, 3) := by decide +kernel
theorem dX0_howManyLiveOf_15 : decode cX0_howManyLiveOf 15 = .ok (.aload_n 0, 1) := by decide +kernel
theorem dX0_howManyLiveOf_16 : decode cX0_howManyLiveOf 16 = .ok (.iload_n 3, 1) := by decide +kernel
theorem dX0_howManyLiveOf_17 : decode cX0_howManyLiveOf 17 = .ok (.iload_n 1, 1) := by decide +kernel
theorem dX0_howManyLiveOf_18 : decode cX0_howManyLiveOf 18 = .ok (.invokevirtual 173, 3) := by decide +kernel
theorem dX0_howManyLiveOf_21 : decode cX0_howManyLiveOf 21 = .ok (.ifCond .eq 6, 3) := by decide +kernel
theorem dX0_howManyLiveOf_24 : decode cX0_howManyLiveOf 24 = .ok (.iinc 2 1, 3) := by decide +kernel
theorem dX0_howManyLiveOf_27 : decode cX0_howManyLiveOf 27 = .ok (.iinc 3 1, 3) := by decide +kernel
theorem dX0_howManyLiveOf_30 : decode cX0_howManyLiveOf 30 = .ok (.goto (-26), 3) := by decide +kernel
theorem dX0_howManyLiveOf_33 : decode cX0_howManyLiveOf 33 = .ok (.iload_n 2, 1) := by decide +kernel
theorem dX0_howManyLiveOf_34 : decode cX0_howManyLiveOf 34 = .ok (.ireturn, 1) := by decide +kernel
theorem dX0_join_0 : decode cX0_join 0 = .ok (.aload_n 0, 1) := by decide +kernel
theorem dX0_join_1 : decode cX0_join 1 = .ok (.getfield 19, 3) := by decide +kernel
theorem dX0_join_4 : decode cX0_join 4 = .ok (.iload_n 1, 1) := by decide +kernel
theorem dX0_join_5 : decode cX0_join 5 = .ok (.invokevirtual 82, 3) := by decide +kernel
theorem dX0_join_8 : decode cX0_join 8 = .ok (.ifCond .eq 14, 3) := by decide +kernel
theorem dX0_join_11 : decode cX0_join 11 = .ok (.aload_n 0, 1) := by decide +kernel
theorem dX0_join_12 : decode cX0_join 12 = .ok (.getfield 19, 3) := by decide +kernel
theorem dX0_join_15 : decode cX0_join 15 = .ok (.iload_n 2, 1) := by decide +kernel
theorem dX0_join_16 : decode cX0_join 16 = .ok (.invokevirtual 82, 3) := by decide +kernel
theorem dX0_join_19 : decode cX0_join 19 = .ok (.ifCond .ne 6, 3) := by decide +kernel
theorem dX0_join_22 : decode cX0_join 22 = .ok (.bipush (-11), 2) := by decide +kernel
theorem dX0_join_24 : decode cX0_join 24 = .ok (.ireturn, 1) := by decide +kernel
theorem dX0_join_25 : decode cX0_join 25 = .ok (.aload_n 0, 1) := by decide +kernel
theorem dX0_join_26 : decode cX0_join 26 = .ok (.iload_n 3, 1) := by decide +kernel
theorem dX0_join_27 : decode cX0_join 27 = .ok (.invokevirtual 92, 3) := by decide +kernel
theorem dX0_join_30 : decode cX0_join 30 = .ok (.ifCond .ne 6, 3) := by decide +kernel
theorem dX0_join_33 : decode cX0_join 33 = .ok (.bipush (-12), 2) := by decide +kernel
theorem dX0_join_35 : decode cX0_join 35 = .ok (.ireturn, 1) := by decide +kernel
theorem dX0_join_36 : decode cX0_join 36 = .ok (.iload_n 1, 1) := by decide +kernel
theorem dX0_join_37 : decode cX0_join 37 = .ok (.iload_n 2, 1) := by decide +kernel
theorem dX0_join_38 : decode cX0_join 38 = .ok (.if_icmp .eq 25, 3) := by decide +kernel
theorem dX0_join_41 : decode cX0_join 41 = .ok (.aload_n 0, 1) := by decide +kernel
theorem dX0_join_42 : decode cX0_join 42 = .ok (.getfield 19, 3) := by decide +kernel
theorem dX0_join_45 : decode cX0_join 45 = .ok (.iload_n 1, 1) := by decide +kernel
theorem dX0_join_46 : decode cX0_join 46 = .ok (.invokevirtual 95, 3) := by decide +kernel
theorem dX0_join_49 : decode cX0_join 49 = .ok (.ifCond .ne 14, 3) := by decide +kernel
theorem dX0_join_52 : decode cX0_join 52 = .ok (.aload_n 0, 1) := by decide +kernel
theorem dX0_join_53 : decode cX0_join 53 = .ok (.getfield 19, 3) := by decide +kernel
theorem dX0_join_56 : decode cX0_join 56 = .ok (.iload_n 2, 1) := by decide +kernel
theorem dX0_join_57 : decode cX0_join 57 = .ok (.invokevirtual 95, 3) := by decide +kernel
theorem dX0_join_60 : decode cX0_join 60 = .ok (.ifCond .eq 6, 3) := by decide +kernel
theorem dX0_join_63 : decode cX0_join 63 = .ok (.bipush (-13), 2) := by decide +kernel
theorem dX0_join_65 : decode cX0_join 65 = .ok (.ireturn, 1) := by decide +kernel
theorem dX0_join_66 : decode cX0_join 66 = .ok (.aload_n 0, 1) := by decide +kernel
theorem dX0_join_67 : decode cX0_join 67 = .ok (.getfield 26, 3) := by decide +kernel
theorem dX0_join_70 : decode cX0_join 70 = .ok (.iload_n 1, 1) := by decide +kernel
theorem dX0_join_71 : decode cX0_join 71 = .ok (.iload_n 2, 1) := by decide +kernel
theorem dX0_join_72 : decode cX0_join 72 = .ok (.invokevirtual 230, 3) := by decide +kernel
theorem dX0_join_75 : decode cX0_join 75 = .ok (.istore 4, 2) := by decide +kernel
theorem dX0_join_77 : decode cX0_join 77 = .ok (.iload 4, 2) := by decide +kernel
theorem dX0_join_79 : decode cX0_join 79 = .ok (.iconst (-1), 1) := by decide +kernel
theorem dX0_join_80 : decode cX0_join 80 = .ok (.if_icmp .eq 10, 3) := by decide +kernel
theorem dX0_join_83 : decode cX0_join 83 = .ok (.sipush (-200), 3) := by decide +kernel
theorem dX0_join_86 : decode cX0_join 86 = .ok (.iload 4, 2) := by decide +kernel
theorem dX0_join_88 : decode cX0_join 88 = .ok (.isub, 1) := by decide +kernel
theorem dX0_join_89 : decode cX0_join 89 = .ok (.ireturn, 1) := by decide +kernel
theorem dX0_join_90 : decode cX0_join 90 = .ok (.aload_n 0, 1) := by decide +kernel
theorem dX0_join_91 : decode cX0_join 91 = .ok (.iload_n 1, 1) := by decide +kernel
theorem dX0_join_92 : decode cX0_join 92 = .ok (.invokevirtual 233, 3) := by decide +kernel
theorem dX0_join_95 : decode cX0_join 95 = .ok (.istore 5, 2) := by decide +kernel
theorem dX0_join_97 : decode cX0_join 97 = .ok (.aload_n 0, 1) := by decide +kernel
theorem dX0_join_98 : decode cX0_join 98 = .ok (.getfield 26, 3) := by decide +kernel
theorem dX0_join_101 : decode cX0_join 101 = .ok (.iload_n 1, 1) := by decide +kernel
theorem dX0_join_102 : decode cX0_join 102 = .ok (.iload_n 2, 1) := by decide +kernel
theorem dX0_join_103 : decode cX0_join 103 = .ok (.invokevirtual 236, 3) := by decide +kernel
theorem dX0_join_106 : decode cX0_join 106 = .ok (.aload_n 0, 1) := by decide +kernel
theorem dX0_join_107 : decode cX0_join 107 = .ok (.getfield 19, 3) := by decide +kernel
theorem dX0_join_110 : decode cX0_join 110 = .ok (.iload_n 1, 1) := by decide +kernel
theorem dX0_join_111 : decode cX0_join 111 = .ok (.iload_n 2, 1) := by decide +kernel
theorem dX0_join_112 : decode cX0_join 112 = .ok (.iload_n 3, 1) := by decide +kernel
theorem dX0_join_113 : decode cX0_join 113 = .ok (.invokevirtual 157, 3) := by decide +kernel
theorem dX0_join_116 : decode cX0_join 116 = .ok (.aload_n 0, 1) := by decide +kernel
theorem dX0_join_117 : decode cX0_join 117 = .ok (.iload_n 3, 1) := by decide +kernel
theorem dX0_join_118 : decode cX0_join 118 = .ok (.putfield 48, 3) := by decide +kernel
theorem dX0_join_121 : decode cX0_join 121 = .ok (.iload 5, 2) := by decide +kernel
theorem dX0_join_123 : decode cX0_join 123 = .ok (.ireturn, 1) := by decide +kernel
theorem dX0_renumber_0 : decode cX0_renumber 0 = .ok (.aload_n 0, 1) := by decide +kernel
theorem dX0_renumber_1 : decode cX0_renumber 1 = .ok (.getfield 33, 3) := by decide +kernel
theorem dX0_renumber_4 : decode cX0_renumber 4 = .ok (.iload_n 1, 1) := by decide +kernel
theorem dX0_renumber_5 : decode cX0_renumber 5 = .ok (.invokevirtual 179, 3) := by decide +kernel
theorem dX0_renumber_8 : decode cX0_renumber 8 = .ok (.ifCond .ne 6, 3) := by decide +kernel
theorem dX0_renumber_11 : decode cX0_renumber 11 = .ok (.bipush (-11), 2) := by decide +kernel
theorem dX0_renumber_13 : decode cX0_renumber 13 = .ok (.ireturn, 1) := by decide +kernel
theorem dX0_renumber_14 : decode cX0_renumber 14 = .ok (.aload_n 0, 1) := by decide +kernel
theorem dX0_renumber_15 : decode cX0_renumber 15 = .ok (.getfield 33, 3) := by decide +kernel
theorem dX0_renumber_18 : decode cX0_renumber 18 = .ok (.getfield 181, 3) := by decide +kernel
theorem dX0_renumber_21 : decode cX0_renumber 21 = .ok (.iload_n 1, 1) := by decide +kernel
theorem dX0_renumber_22 : decode cX0_renumber 22 = .ok (.iaload, 1) := by decide +kernel
theorem dX0_renumber_23 : decode cX0_renumber 23 = .ok (.istore 4, 2) := by decide +kernel
theorem dX0_renumber_25 : decode cX0_renumber 25 = .ok (.aload_n 0, 1) := by decide +kernel
theorem dX0_renumber_26 : decode cX0_renumber 26 = .ok (.iload_n 3, 1) := by decide +kernel
theorem dX0_renumber_27 : decode cX0_renumber 27 = .ok (.invokevirtual 92, 3) := by decide +kernel
theorem dX0_renumber_30 : decode cX0_renumber 30 = .ok (.ifCond .eq 16, 3) := by decide +kernel
theorem dX0_renumber_33 : decode cX0_renumber 33 = .ok (.aload_n 0, 1) := by decide +kernel
theorem dX0_renumber_34 : decode cX0_renumber 34 = .ok (.getfield 26, 3) := by decide +kernel
theorem dX0_renumber_37 : decode cX0_renumber 37 = .ok (.iload 4, 2) := by decide +kernel
theorem dX0_renumber_39 : decode cX0_renumber 39 = .ok (.iload_n 2, 1) := by decide +kernel
theorem dX0_renumber_40 : decode cX0_renumber 40 = .ok (.invokevirtual 108, 3) := by decide +kernel
theorem dX0_renumber_43 : decode cX0_renumber 43 = .ok (.ifCond .ne 6, 3) := by decide +kernel
theorem dX0_renumber_46 : decode cX0_renumber 46 = .ok (.bipush (-12), 2) := by decide +kernel
theorem dX0_renumber_48 : decode cX0_renumber 48 = .ok (.ireturn, 1) := by decide +kernel
theorem dX0_renumber_49 : decode cX0_renumber 49 = .ok (.aload_n 0, 1) := by decide +kernel
theorem dX0_renumber_50 : decode cX0_renumber 50 = .ok (.getfield 33, 3) := by decide +kernel
theorem dX0_renumber_53 : decode cX0_renumber 53 = .ok (.getfield 180, 3) := by decide +kernel
theorem dX0_renumber_56 : decode cX0_renumber 56 = .ok (.iload_n 1, 1) := by decide +kernel
theorem dX0_renumber_57 : decode cX0_renumber 57 = .ok (.baload, 1) := by decide +kernel
theorem dX0_renumber_58 : decode cX0_renumber 58 = .ok (.ifCond .eq 22, 3) := by decide +kernel
theorem dX0_renumber_61 : decode cX0_renumber 61 = .ok (.aload_n 0, 1) := by decide +kernel
theorem dX0_renumber_62 : decode cX0_renumber 62 = .ok (.iload 4, 2) := by decide +kernel
theorem dX0_renumber_64 : decode cX0_renumber 64 = .ok (.iload_n 2, 1) := by decide +kernel
theorem dX0_renumber_65 : decode cX0_renumber 65 = .ok (.aload_n 0, 1) := by decide +kernel
theorem dX0_renumber_66 : decode cX0_renumber 66 = .ok (.getfield 33, 3) := by decide +kernel
theorem dX0_renumber_69 : decode cX0_renumber 69 = .ok (.getfield 193, 3) := by decide +kernel
theorem dX0_renumber_72 : decode cX0_renumber 72 = .ok (.iload_n 1, 1) := by decide +kernel
theorem dX0_renumber_73 : decode cX0_renumber 73 = .ok (.iaload, 1) := by decide +kernel
theorem dX0_renumber_74 : decode cX0_renumber 74 = .ok (.invokevirtual 118, 3) := by decide +kernel
theorem dX0_renumber_77 : decode cX0_renumber 77 = .ok (.ifCond .eq 6, 3) := by decide +kernel
theorem dX0_renumber_80 : decode cX0_renumber 80 = .ok (.bipush (-13), 2) := by decide +kernel
theorem dX0_renumber_82 : decode cX0_renumber 82 = .ok (.ireturn, 1) := by decide +kernel
theorem dX0_renumber_83 : decode cX0_renumber 83 = .ok (.aload_n 0, 1) := by decide +kernel
theorem dX0_renumber_84 : decode cX0_renumber 84 = .ok (.getfield 40, 3) := by decide +kernel
theorem dX0_renumber_87 : decode cX0_renumber 87 = .ok (.invokevirtual 122, 3) := by decide +kernel
theorem dX0_renumber_90 : decode cX0_renumber 90 = .ok (.ifCond .eq 6, 3) := by decide +kernel
theorem dX0_renumber_93 : decode cX0_renumber 93 = .ok (.bipush (-14), 2) := by decide +kernel
theorem dX0_renumber_95 : decode cX0_renumber 95 = .ok (.ireturn, 1) := by decide +kernel
theorem dX0_renumber_96 : decode cX0_renumber 96 = .ok (.aload_n 0, 1) := by decide +kernel
theorem dX0_renumber_97 : decode cX0_renumber 97 = .ok (.getfield 40, 3) := by decide +kernel
theorem dX0_renumber_100 : decode cX0_renumber 100 = .ok (.aload_n 0, 1) := by decide +kernel
theorem dX0_renumber_101 : decode cX0_renumber 101 = .ok (.getfield 33, 3) := by decide +kernel
theorem dX0_renumber_104 : decode cX0_renumber 104 = .ok (.getfield 130, 3) := by decide +kernel
theorem dX0_renumber_107 : decode cX0_renumber 107 = .ok (.iload_n 1, 1) := by decide +kernel
theorem dX0_renumber_108 : decode cX0_renumber 108 = .ok (.iaload, 1) := by decide +kernel
theorem dX0_renumber_109 : decode cX0_renumber 109 = .ok (.iload_n 3, 1) := by decide +kernel
theorem dX0_renumber_110 : decode cX0_renumber 110 = .ok (.invokevirtual 239, 3) := by decide +kernel
theorem dX0_renumber_113 : decode cX0_renumber 113 = .ok (.aload_n 0, 1) := by decide +kernel
theorem dX0_renumber_114 : decode cX0_renumber 114 = .ok (.getfield 40, 3) := by decide +kernel
theorem dX0_renumber_117 : decode cX0_renumber 117 = .ok (.getfield 240, 3) := by decide +kernel
theorem dX0_renumber_120 : decode cX0_renumber 120 = .ok (.aload_n 0, 1) := by decide +kernel
theorem dX0_renumber_121 : decode cX0_renumber 121 = .ok (.getfield 33, 3) := by decide +kernel
theorem dX0_renumber_124 : decode cX0_renumber 124 = .ok (.getfield 130, 3) := by decide +kernel
theorem dX0_renumber_127 : decode cX0_renumber 127 = .ok (.iload_n 1, 1) := by decide +kernel
theorem dX0_renumber_128 : decode cX0_renumber 128 = .ok (.iaload, 1) := by decide +kernel
theorem dX0_renumber_129 : decode cX0_renumber 129 = .ok (.iconst 1, 1) := by decide +kernel
theorem dX0_renumber_130 : decode cX0_renumber 130 = .ok (.bastore, 1) := by decide +kernel
theorem dX0_renumber_131 : decode cX0_renumber 131 = .ok (.aload_n 0, 1) := by decide +kernel
theorem dX0_renumber_132 : decode cX0_renumber 132 = .ok (.getfield 33, 3) := by decide +kernel
theorem dX0_renumber_135 : decode cX0_renumber 135 = .ok (.getfield 130, 3) := by decide +kernel
theorem dX0_renumber_138 : decode cX0_renumber 138 = .ok (.iload_n 1, 1) := by decide +kernel
theorem dX0_renumber_139 : decode cX0_renumber 139 = .ok (.aload_n 0, 1) := by decide +kernel
theorem dX0_renumber_140 : decode cX0_renumber 140 = .ok (.getfield 40, 3) := by decide +kernel
theorem dX0_renumber_143 : decode cX0_renumber 143 = .ok (.iload_n 1, 1) := by decide +kernel
theorem dX0_renumber_144 : decode cX0_renumber 144 = .ok (.iload_n 2, 1) := by decide +kernel
theorem dX0_renumber_145 : decode cX0_renumber 145 = .ok (.iload_n 3, 1) := by decide +kernel
theorem dX0_renumber_146 : decode cX0_renumber 146 = .ok (.invokevirtual 133, 3) := by decide +kernel
theorem dX0_renumber_149 : decode cX0_renumber 149 = .ok (.iastore, 1) := by decide +kernel
theorem dX0_renumber_150 : decode cX0_renumber 150 = .ok (.aload_n 0, 1) := by decide +kernel
theorem dX0_renumber_151 : decode cX0_renumber 151 = .ok (.iload_n 3, 1) := by decide +kernel
theorem dX0_renumber_152 : decode cX0_renumber 152 = .ok (.putfield 48, 3) := by decide +kernel
theorem dX0_renumber_155 : decode cX0_renumber 155 = .ok (.iconst 1, 1) := by decide +kernel
theorem dX0_renumber_156 : decode cX0_renumber 156 = .ok (.ireturn, 1) := by decide +kernel
theorem dX0_remove_0 : decode cX0_remove 0 = .ok (.aload_n 0, 1) := by decide +kernel
theorem dX0_remove_1 : decode cX0_remove 1 = .ok (.getfield 33, 3) := by decide +kernel
theorem dX0_remove_4 : decode cX0_remove 4 = .ok (.iload_n 1, 1) := by decide +kernel
theorem dX0_remove_5 : decode cX0_remove 5 = .ok (.invokevirtual 179, 3) := by decide +kernel
theorem dX0_remove_8 : decode cX0_remove 8 = .ok (.ifCond .ne 6, 3) := by decide +kernel
theorem dX0_remove_11 : decode cX0_remove 11 = .ok (.bipush (-11), 2) := by decide +kernel
theorem dX0_remove_13 : decode cX0_remove 13 = .ok (.ireturn, 1) := by decide +kernel
theorem dX0_remove_14 : decode cX0_remove 14 = .ok (.aload_n 0, 1) := by decide +kernel
theorem dX0_remove_15 : decode cX0_remove 15 = .ok (.iload_n 2, 1) := by decide +kernel
theorem dX0_remove_16 : decode cX0_remove 16 = .ok (.invokevirtual 92, 3) := by decide +kernel
theorem dX0_remove_19 : decode cX0_remove 19 = .ok (.ifCond .ne 6, 3) := by decide +kernel
theorem dX0_remove_22 : decode cX0_remove 22 = .ok (.bipush (-12), 2) := by decide +kernel
theorem dX0_remove_24 : decode cX0_remove 24 = .ok (.ireturn, 1) := by decide +kernel
theorem dX0_remove_25 : decode cX0_remove 25 = .ok (.aload_n 0, 1) := by decide +kernel
theorem dX0_remove_26 : decode cX0_remove 26 = .ok (.getfield 33, 3) := by decide +kernel
theorem dX0_remove_29 : decode cX0_remove 29 = .ok (.getfield 180, 3) := by decide +kernel
theorem dX0_remove_32 : decode cX0_remove 32 = .ok (.iload_n 1, 1) := by decide +kernel
theorem dX0_remove_33 : decode cX0_remove 33 = .ok (.baload, 1) := by decide +kernel
theorem dX0_remove_34 : decode cX0_remove 34 = .ok (.ifCond .ne 6, 3) := by decide +kernel
theorem dX0_remove_37 : decode cX0_remove 37 = .ok (.bipush (-13), 2) := by decide +kernel
theorem dX0_remove_39 : decode cX0_remove 39 = .ok (.ireturn, 1) := by decide +kernel
theorem dX0_remove_40 : decode cX0_remove 40 = .ok (.aload_n 0, 1) := by decide +kernel
theorem dX0_remove_41 : decode cX0_remove 41 = .ok (.iload_n 1, 1) := by decide +kernel
theorem dX0_remove_42 : decode cX0_remove 42 = .ok (.iload_n 2, 1) := by decide +kernel
theorem dX0_remove_43 : decode cX0_remove 43 = .ok (.invokevirtual 211, 3) := by decide +kernel
theorem dX0_remove_46 : decode cX0_remove 46 = .ok (.aload_n 0, 1) := by decide +kernel
theorem dX0_remove_47 : decode cX0_remove 47 = .ok (.iload_n 2, 1) := by decide +kernel
theorem dX0_remove_48 : decode cX0_remove 48 = .ok (.putfield 48, 3) := by decide +kernel
theorem dX0_remove_51 : decode cX0_remove 51 = .ok (.iconst 1, 1) := by decide +kernel
theorem dX0_remove_52 : decode cX0_remove 52 = .ok (.ireturn, 1) := by decide +kernel
theorem dX0_change_0 : decode cX0_change 0 = .ok (.iload_n 1, 1) := by decide +kernel
theorem dX0_change_1 : decode cX0_change 1 = .ok (.tableswitch 78 0 4 #[35, 43, 52, 61, 70], 35) := by decide +kernel
theorem dX0_change_36 : decode cX0_change 36 = .ok (.aload_n 0, 1) := by decide +kernel
theorem dX0_change_37 : decode cX0_change 37 = .ok (.iload_n 2, 1) := by decide +kernel
theorem dX0_change_38 : decode cX0_change 38 = .ok (.iload 4, 2) := by decide +kernel
theorem dX0_change_40 : decode cX0_change 40 = .ok (.invokevirtual 136, 3) := by decide +kernel
theorem dX0_change_43 : decode cX0_change 43 = .ok (.ireturn, 1) := by decide +kernel
theorem dX0_change_44 : decode cX0_change 44 = .ok (.aload_n 0, 1) := by decide +kernel
theorem dX0_change_45 : decode cX0_change 45 = .ok (.iload_n 2, 1) := by decide +kernel
theorem dX0_change_46 : decode cX0_change 46 = .ok (.iload_n 3, 1) := by decide +kernel
theorem dX0_change_47 : decode cX0_change 47 = .ok (.iload 4, 2) := by decide +kernel
theorem dX0_change_49 : decode cX0_change 49 = .ok (.invokevirtual 139, 3) := by decide +kernel
theorem dX0_change_52 : decode cX0_change 52 = .ok (.ireturn, 1) := by decide +kernel
theorem dX0_change_53 : decode cX0_change 53 = .ok (.aload_n 0, 1) := by decide +kernel
theorem dX0_change_54 : decode cX0_change 54 = .ok (.iload_n 2, 1) := by decide +kernel
theorem dX0_change_55 : decode cX0_change 55 = .ok (.iload_n 3, 1) := by decide +kernel
theorem dX0_change_56 : decode cX0_change 56 = .ok (.iload 4, 2) := by decide +kernel
theorem dX0_change_58 : decode cX0_change 58 = .ok (.invokevirtual 142, 3) := by decide +kernel
theorem dX0_change_61 : decode cX0_change 61 = .ok (.ireturn, 1) := by decide +kernel
theorem dX0_change_62 : decode cX0_change 62 = .ok (.aload_n 0, 1) := by decide +kernel
theorem dX0_change_63 : decode cX0_change 63 = .ok (.iload_n 2, 1) := by decide +kernel
theorem dX0_change_64 : decode cX0_change 64 = .ok (.iload_n 3, 1) := by decide +kernel
theorem dX0_change_65 : decode cX0_change 65 = .ok (.iload 4, 2) := by decide +kernel
theorem dX0_change_67 : decode cX0_change 67 = .ok (.invokevirtual 145, 3) := by decide +kernel
theorem dX0_change_70 : decode cX0_change 70 = .ok (.ireturn, 1) := by decide +kernel
theorem dX0_change_71 : decode cX0_change 71 = .ok (.aload_n 0, 1) := by decide +kernel
theorem dX0_change_72 : decode cX0_change 72 = .ok (.iload_n 2, 1) := by decide +kernel
theorem dX0_change_73 : decode cX0_change 73 = .ok (.iload 4, 2) := by decide +kernel
theorem dX0_change_75 : decode cX0_change 75 = .ok (.invokevirtual 148, 3) := by decide +kernel
theorem dX0_change_78 : decode cX0_change 78 = .ok (.ireturn, 1) := by decide +kernel
theorem dX0_change_79 : decode cX0_change 79 = .ok (.bipush (-12), 2) := by decide +kernel
theorem dX0_change_81 : decode cX0_change 81 = .ok (.ireturn, 1) := by decide +kernel
theorem dX0_alias_0 : decode cX0_alias 0 = .ok (.aload_n 0, 1) := by decide +kernel
theorem dX0_alias_1 : decode cX0_alias 1 = .ok (.getfield 19, 3) := by decide +kernel
theorem dX0_alias_4 : decode cX0_alias 4 = .ok (.iload_n 1, 1) := by decide +kernel
theorem dX0_alias_5 : decode cX0_alias 5 = .ok (.invokevirtual 82, 3) := by decide +kernel
theorem dX0_alias_8 : decode cX0_alias 8 = .ok (.ifCond .eq 14, 3) := by decide +kernel
theorem dX0_alias_11 : decode cX0_alias 11 = .ok (.aload_n 0, 1) := by decide +kernel
theorem dX0_alias_12 : decode cX0_alias 12 = .ok (.getfield 19, 3) := by decide +kernel
theorem dX0_alias_15 : decode cX0_alias 15 = .ok (.iload_n 2, 1) := by decide +kernel
theorem dX0_alias_16 : decode cX0_alias 16 = .ok (.invokevirtual 82, 3) := by decide +kernel
theorem dX0_alias_19 : decode cX0_alias 19 = .ok (.ifCond .ne 6, 3) := by decide +kernel
theorem dX0_alias_22 : decode cX0_alias 22 = .ok (.bipush (-11), 2) := by decide +kernel
theorem dX0_alias_24 : decode cX0_alias 24 = .ok (.ireturn, 1) := by decide +kernel
theorem dX0_alias_25 : decode cX0_alias 25 = .ok (.aload_n 0, 1) := by decide +kernel
theorem dX0_alias_26 : decode cX0_alias 26 = .ok (.iload_n 3, 1) := by decide +kernel
theorem dX0_alias_27 : decode cX0_alias 27 = .ok (.invokevirtual 92, 3) := by decide +kernel
theorem dX0_alias_30 : decode cX0_alias 30 = .ok (.ifCond .ne 6, 3) := by decide +kernel
theorem dX0_alias_33 : decode cX0_alias 33 = .ok (.bipush (-12), 2) := by decide +kernel
theorem dX0_alias_35 : decode cX0_alias 35 = .ok (.ireturn, 1) := by decide +kernel
theorem dX0_alias_36 : decode cX0_alias 36 = .ok (.aload_n 0, 1) := by decide +kernel
theorem dX0_alias_37 : decode cX0_alias 37 = .ok (.getfield 19, 3) := by decide +kernel
theorem dX0_alias_40 : decode cX0_alias 40 = .ok (.iload_n 1, 1) := by decide +kernel
theorem dX0_alias_41 : decode cX0_alias 41 = .ok (.invokevirtual 95, 3) := by decide +kernel
theorem dX0_alias_44 : decode cX0_alias 44 = .ok (.ifCond .ne 14, 3) := by decide +kernel
theorem dX0_alias_47 : decode cX0_alias 47 = .ok (.aload_n 0, 1) := by decide +kernel
theorem dX0_alias_48 : decode cX0_alias 48 = .ok (.getfield 26, 3) := by decide +kernel
theorem dX0_alias_51 : decode cX0_alias 51 = .ok (.iload_n 1, 1) := by decide +kernel
theorem dX0_alias_52 : decode cX0_alias 52 = .ok (.invokevirtual 151, 3) := by decide +kernel
theorem dX0_alias_55 : decode cX0_alias 55 = .ok (.ifCond .eq 6, 3) := by decide +kernel
theorem dX0_alias_58 : decode cX0_alias 58 = .ok (.bipush (-13), 2) := by decide +kernel
theorem dX0_alias_60 : decode cX0_alias 60 = .ok (.ireturn, 1) := by decide +kernel
theorem dX0_alias_61 : decode cX0_alias 61 = .ok (.aload_n 0, 1) := by decide +kernel
theorem dX0_alias_62 : decode cX0_alias 62 = .ok (.getfield 19, 3) := by decide +kernel
theorem dX0_alias_65 : decode cX0_alias 65 = .ok (.iload_n 2, 1) := by decide +kernel
theorem dX0_alias_66 : decode cX0_alias 66 = .ok (.iload_n 3, 1) := by decide +kernel
theorem dX0_alias_67 : decode cX0_alias 67 = .ok (.invokevirtual 154, 3) := by decide +kernel
theorem dX0_alias_70 : decode cX0_alias 70 = .ok (.iload_n 1, 1) := by decide +kernel
theorem dX0_alias_71 : decode cX0_alias 71 = .ok (.if_icmp .ne 5, 3) := by decide +kernel
theorem dX0_alias_74 : decode cX0_alias 74 = .ok (.iconst 0, 1) := by decide +kernel
theorem dX0_alias_75 : decode cX0_alias 75 = .ok (.ireturn, 1) := by decide +kernel
theorem dX0_alias_76 : decode cX0_alias 76 = .ok (.aload_n 0, 1) := by decide +kernel
theorem dX0_alias_77 : decode cX0_alias 77 = .ok (.getfield 19, 3) := by decide +kernel
theorem dX0_alias_80 : decode cX0_alias 80 = .ok (.iload_n 1, 1) := by decide +kernel
theorem dX0_alias_81 : decode cX0_alias 81 = .ok (.iload_n 2, 1) := by decide +kernel
theorem dX0_alias_82 : decode cX0_alias 82 = .ok (.iload_n 3, 1) := by decide +kernel
theorem dX0_alias_83 : decode cX0_alias 83 = .ok (.invokevirtual 157, 3) := by decide +kernel
theorem dX0_alias_86 : decode cX0_alias 86 = .ok (.aload_n 0, 1) := by decide +kernel
theorem dX0_alias_87 : decode cX0_alias 87 = .ok (.iload_n 3, 1) := by decide +kernel
theorem dX0_alias_88 : decode cX0_alias 88 = .ok (.putfield 48, 3) := by decide +kernel
theorem dX0_alias_91 : decode cX0_alias 91 = .ok (.iconst 1, 1) := by decide +kernel
theorem dX0_alias_92 : decode cX0_alias 92 = .ok (.ireturn, 1) := by decide +kernel
theorem dX0_isDay_0 : decode cX0_isDay 0 = .ok (.iload_n 0, 1) := by decide +kernel
theorem dX0_isDay_1 : decode cX0_isDay 1 = .ok (.iconst 0, 1) := by decide +kernel
theorem dX0_isDay_2 : decode cX0_isDay 2 = .ok (.ldc_w 268, 3) := by decide +kernel
theorem dX0_isDay_5 : decode cX0_isDay 5 = .ok (.invokestatic 53, 3) := by decide +kernel
theorem dX0_isDay_8 : decode cX0_isDay 8 = .ok (.ireturn, 1) := by decide +kernel
theorem dX0_isStayAt_0 : decode cX0_isStayAt 0 = .ok (.aload_n 0, 1) := by decide +kernel
theorem dX0_isStayAt_1 : decode cX0_isStayAt 1 = .ok (.getfield 40, 3) := by decide +kernel
theorem dX0_isStayAt_4 : decode cX0_isStayAt 4 = .ok (.getfield 251, 3) := by decide +kernel
theorem dX0_isStayAt_7 : decode cX0_isStayAt 7 = .ok (.iload_n 1, 1) := by decide +kernel
theorem dX0_isStayAt_8 : decode cX0_isStayAt 8 = .ok (.iaload, 1) := by decide +kernel
theorem dX0_isStayAt_9 : decode cX0_isStayAt 9 = .ok (.istore 6, 2) := by decide +kernel
theorem dX0_isStayAt_11 : decode cX0_isStayAt 11 = .ok (.aload_n 0, 1) := by decide +kernel
theorem dX0_isStayAt_12 : decode cX0_isStayAt 12 = .ok (.getfield 40, 3) := by decide +kernel
theorem dX0_isStayAt_15 : decode cX0_isStayAt 15 = .ok (.getfield 199, 3) := by decide +kernel
theorem dX0_isStayAt_18 : decode cX0_isStayAt 18 = .ok (.iload_n 1, 1) := by decide +kernel
theorem dX0_isStayAt_19 : decode cX0_isStayAt 19 = .ok (.iaload, 1) := by decide +kernel
theorem dX0_isStayAt_20 : decode cX0_isStayAt 20 = .ok (.iload_n 3, 1) := by decide +kernel
theorem dX0_isStayAt_21 : decode cX0_isStayAt 21 = .ok (.if_icmp .ne 45, 3) := by decide +kernel
theorem dX0_isStayAt_24 : decode cX0_isStayAt 24 = .ok (.aload_n 0, 1) := by decide +kernel
theorem dX0_isStayAt_25 : decode cX0_isStayAt 25 = .ok (.getfield 33, 3) := by decide +kernel
theorem dX0_isStayAt_28 : decode cX0_isStayAt 28 = .ok (.getfield 193, 3) := by decide +kernel
theorem dX0_isStayAt_31 : decode cX0_isStayAt 31 = .ok (.iload 6, 2) := by decide +kernel
theorem dX0_isStayAt_33 : decode cX0_isStayAt 33 = .ok (.iaload, 1) := by decide +kernel
theorem dX0_isStayAt_34 : decode cX0_isStayAt 34 = .ok (.iload 4, 2) := by decide +kernel
theorem dX0_isStayAt_36 : decode cX0_isStayAt 36 = .ok (.if_icmp .ne 30, 3) := by decide +kernel
theorem dX0_isStayAt_39 : decode cX0_isStayAt 39 = .ok (.aload_n 0, 1) := by decide +kernel
theorem dX0_isStayAt_40 : decode cX0_isStayAt 40 = .ok (.getfield 19, 3) := by decide +kernel
theorem dX0_isStayAt_43 : decode cX0_isStayAt 43 = .ok (.aload_n 0, 1) := by decide +kernel
theorem dX0_isStayAt_44 : decode cX0_isStayAt 44 = .ok (.getfield 33, 3) := by decide +kernel
theorem dX0_isStayAt_47 : decode cX0_isStayAt 47 = .ok (.getfield 202, 3) := by decide +kernel
theorem dX0_isStayAt_50 : decode cX0_isStayAt 50 = .ok (.iload 6, 2) := by decide +kernel
theorem dX0_isStayAt_52 : decode cX0_isStayAt 52 = .ok (.iaload, 1) := by decide +kernel
theorem dX0_isStayAt_53 : decode cX0_isStayAt 53 = .ok (.iload 5, 2) := by decide +kernel
theorem dX0_isStayAt_55 : decode cX0_isStayAt 55 = .ok (.invokevirtual 154, 3) := by decide +kernel
theorem dX0_isStayAt_58 : decode cX0_isStayAt 58 = .ok (.iload_n 2, 1) := by decide +kernel
theorem dX0_isStayAt_59 : decode cX0_isStayAt 59 = .ok (.if_icmp .ne 7, 3) := by decide +kernel
theorem dX0_isStayAt_62 : decode cX0_isStayAt 62 = .ok (.iconst 1, 1) := by decide +kernel
theorem dX0_isStayAt_63 : decode cX0_isStayAt 63 = .ok (.goto 4, 3) := by decide +kernel
theorem dX0_isStayAt_66 : decode cX0_isStayAt 66 = .ok (.iconst 0, 1) := by decide +kernel
theorem dX0_isStayAt_67 : decode cX0_isStayAt 67 = .ok (.ireturn, 1) := by decide +kernel
theorem dX0_lyingAt_0 : decode cX0_lyingAt 0 = .ok (.iconst 0, 1) := by decide +kernel
theorem dX0_lyingAt_1 : decode cX0_lyingAt 1 = .ok (.istore 5, 2) := by decide +kernel
theorem dX0_lyingAt_3 : decode cX0_lyingAt 3 = .ok (.iload 5, 2) := by decide +kernel
theorem dX0_lyingAt_5 : decode cX0_lyingAt 5 = .ok (.aload_n 0, 1) := by decide +kernel
theorem dX0_lyingAt_6 : decode cX0_lyingAt 6 = .ok (.getfield 40, 3) := by decide +kernel
theorem dX0_lyingAt_9 : decode cX0_lyingAt 9 = .ok (.getfield 243, 3) := by decide +kernel
theorem dX0_lyingAt_12 : decode cX0_lyingAt 12 = .ok (.if_icmp .ge 48, 3) := by decide +kernel
theorem dX0_lyingAt_15 : decode cX0_lyingAt 15 = .ok (.aload_n 0, 1) := by decide +kernel
theorem dX0_lyingAt_16 : decode cX0_lyingAt 16 = .ok (.getfield 40, 3) := by decide +kernel
theorem dX0_lyingAt_19 : decode cX0_lyingAt 19 = .ok (.iload 5, 2) := by decide +kernel
theorem dX0_lyingAt_21 : decode cX0_lyingAt 21 = .ok (.iload 4, 2) := by decide +kernel
theorem dX0_lyingAt_23 : decode cX0_lyingAt 23 = .ok (.invokevirtual 244, 3) := by decide +kernel
theorem dX0_lyingAt_26 : decode cX0_lyingAt 26 = .ok (.ifCond .eq 28, 3) := by decide +kernel
theorem dX0_lyingAt_29 : decode cX0_lyingAt 29 = .ok (.aload_n 0, 1) := by decide +kernel
theorem dX0_lyingAt_30 : decode cX0_lyingAt 30 = .ok (.iload 5, 2) := by decide +kernel
theorem dX0_lyingAt_32 : decode cX0_lyingAt 32 = .ok (.iload_n 1, 1) := by decide +kernel
theorem dX0_lyingAt_33 : decode cX0_lyingAt 33 = .ok (.iload_n 2, 1) := by decide +kernel
theorem dX0_lyingAt_34 : decode cX0_lyingAt 34 = .ok (.iload_n 3, 1) := by decide +kernel
theorem dX0_lyingAt_35 : decode cX0_lyingAt 35 = .ok (.iload 4, 2) := by decide +kernel
theorem dX0_lyingAt_37 : decode cX0_lyingAt 37 = .ok (.invokevirtual 247, 3) := by decide +kernel
theorem dX0_lyingAt_40 : decode cX0_lyingAt 40 = .ok (.ifCond .eq 14, 3) := by decide +kernel
theorem dX0_lyingAt_43 : decode cX0_lyingAt 43 = .ok (.aload_n 0, 1) := by decide +kernel
theorem dX0_lyingAt_44 : decode cX0_lyingAt 44 = .ok (.getfield 40, 3) := by decide +kernel
theorem dX0_lyingAt_47 : decode cX0_lyingAt 47 = .ok (.getfield 251, 3) := by decide +kernel
theorem dX0_lyingAt_50 : decode cX0_lyingAt 50 = .ok (.iload 5, 2) := by decide +kernel
theorem dX0_lyingAt_52 : decode cX0_lyingAt 52 = .ok (.iaload, 1) := by decide +kernel
theorem dX0_lyingAt_53 : decode cX0_lyingAt 53 = .ok (.ireturn, 1) := by decide +kernel
theorem dX0_lyingAt_54 : decode cX0_lyingAt 54 = .ok (.iinc 5 1, 3) := by decide +kernel
theorem dX0_lyingAt_57 : decode cX0_lyingAt 57 = .ok (.goto (-54), 3) := by decide +kernel
theorem dX0_lyingAt_60 : decode cX0_lyingAt 60 = .ok (.iconst (-1), 1) := by decide +kernel
theorem dX0_lyingAt_61 : decode cX0_lyingAt 61 = .ok (.ireturn, 1) := by decide +kernel
theorem dX0_lastToLeave_0 : decode cX0_lastToLeave 0 = .ok (.iconst (-1), 1) := by decide +kernel
theorem dX0_lastToLeave_1 : decode cX0_lastToLeave 1 = .ok (.istore 5, 2) := by decide +kernel
theorem dX0_lastToLeave_3 : decode cX0_lastToLeave 3 = .ok (.iconst 0, 1) := by decide +kernel
theorem dX0_lastToLeave_4 : decode cX0_lastToLeave 4 = .ok (.istore 6, 2) := by decide +kernel
theorem dX0_lastToLeave_6 : decode cX0_lastToLeave 6 = .ok (.iload 6, 2) := by decide +kernel
theorem dX0_lastToLeave_8 : decode cX0_lastToLeave 8 = .ok (.aload_n 0, 1) := by decide +kernel
theorem dX0_lastToLeave_9 : decode cX0_lastToLeave 9 = .ok (.getfield 40, 3) := by decide +kernel
theorem dX0_lastToLeave_12 : decode cX0_lastToLeave 12 = .ok (.getfield 243, 3) := by decide +kernel
theorem dX0_lastToLeave_15 : decode cX0_lastToLeave 15 = .ok (.if_icmp .ge 61, 3) := by decide +kernel
theorem dX0_lastToLeave_18 : decode cX0_lastToLeave 18 = .ok (.aload_n 0, 1) := by decide +kernel
theorem dX0_lastToLeave_19 : decode cX0_lastToLeave 19 = .ok (.getfield 40, 3) := by decide +kernel
theorem dX0_lastToLeave_22 : decode cX0_lastToLeave 22 = .ok (.iload 6, 2) := by decide +kernel
theorem dX0_lastToLeave_24 : decode cX0_lastToLeave 24 = .ok (.iload 4, 2) := by decide +kernel
theorem dX0_lastToLeave_26 : decode cX0_lastToLeave 26 = .ok (.invokevirtual 254, 3) := by decide +kernel
theorem dX0_lastToLeave_29 : decode cX0_lastToLeave 29 = .ok (.ifCond .eq 41, 3) := by decide +kernel
theorem dX0_lastToLeave_32 : decode cX0_lastToLeave 32 = .ok (.aload_n 0, 1) := by decide +kernel
theorem dX0_lastToLeave_33 : decode cX0_lastToLeave 33 = .ok (.iload 6, 2) := by decide +kernel
theorem dX0_lastToLeave_35 : decode cX0_lastToLeave 35 = .ok (.iload_n 1, 1) := by decide +kernel
theorem dX0_lastToLeave_36 : decode cX0_lastToLeave 36 = .ok (.iload_n 2, 1) := by decide +kernel
theorem dX0_lastToLeave_37 : decode cX0_lastToLeave 37 = .ok (.iload_n 3, 1) := by decide +kernel
theorem dX0_lastToLeave_38 : decode cX0_lastToLeave 38 = .ok (.iload 4, 2) := by decide +kernel
theorem dX0_lastToLeave_40 : decode cX0_lastToLeave 40 = .ok (.invokevirtual 247, 3) := by decide +kernel
theorem dX0_lastToLeave_43 : decode cX0_lastToLeave 43 = .ok (.ifCond .eq 27, 3) := by decide +kernel
theorem dX0_lastToLeave_46 : decode cX0_lastToLeave 46 = .ok (.iload 5, 2) := by decide +kernel
theorem dX0_lastToLeave_48 : decode cX0_lastToLeave 48 = .ok (.iconst (-1), 1) := by decide +kernel
theorem dX0_lastToLeave_49 : decode cX0_lastToLeave 49 = .ok (.if_icmp .eq 17, 3) := by decide +kernel
theorem dX0_lastToLeave_52 : decode cX0_lastToLeave 52 = .ok (.aload_n 0, 1) := by decide +kernel
theorem dX0_lastToLeave_53 : decode cX0_lastToLeave 53 = .ok (.getfield 40, 3) := by decide +kernel
theorem dX0_lastToLeave_56 : decode cX0_lastToLeave 56 = .ok (.iload 6, 2) := by decide +kernel
theorem dX0_lastToLeave_58 : decode cX0_lastToLeave 58 = .ok (.iload 5, 2) := by decide +kernel
theorem dX0_lastToLeave_60 : decode cX0_lastToLeave 60 = .ok (.invokevirtual 257, 3) := by decide +kernel
theorem dX0_lastToLeave_63 : decode cX0_lastToLeave 63 = .ok (.ifCond .eq 7, 3) := by decide +kernel
theorem dX0_lastToLeave_66 : decode cX0_lastToLeave 66 = .ok (.iload 6, 2) := by decide +kernel
theorem dX0_lastToLeave_68 : decode cX0_lastToLeave 68 = .ok (.istore 5, 2) := by decide +kernel
theorem dX0_lastToLeave_70 : decode cX0_lastToLeave 70 = .ok (.iinc 6 1, 3) := by decide +kernel
theorem dX0_lastToLeave_73 : decode cX0_lastToLeave 73 = .ok (.goto (-67), 3) := by decide +kernel
theorem dX0_lastToLeave_76 : decode cX0_lastToLeave 76 = .ok (.iload 5, 2) := by decide +kernel
theorem dX0_lastToLeave_78 : decode cX0_lastToLeave 78 = .ok (.iconst (-1), 1) := by decide +kernel
theorem dX0_lastToLeave_79 : decode cX0_lastToLeave 79 = .ok (.if_icmp .ne 7, 3) := by decide +kernel
theorem dX0_lastToLeave_82 : decode cX0_lastToLeave 82 = .ok (.iconst (-1), 1) := by decide +kernel
theorem dX0_lastToLeave_83 : decode cX0_lastToLeave 83 = .ok (.goto 13, 3) := by decide +kernel
theorem dX0_lastToLeave_86 : decode cX0_lastToLeave 86 = .ok (.aload_n 0, 1) := by decide +kernel
theorem dX0_lastToLeave_87 : decode cX0_lastToLeave 87 = .ok (.getfield 40, 3) := by decide +kernel
theorem dX0_lastToLeave_90 : decode cX0_lastToLeave 90 = .ok (.getfield 251, 3) := by decide +kernel
theorem dX0_lastToLeave_93 : decode cX0_lastToLeave 93 = .ok (.iload 5, 2) := by decide +kernel
theorem dX0_lastToLeave_95 : decode cX0_lastToLeave 95 = .ok (.iaload, 1) := by decide +kernel
theorem dX0_lastToLeave_96 : decode cX0_lastToLeave 96 = .ok (.ireturn, 1) := by decide +kernel
theorem dX0_at_0 : decode cX0_at 0 = .ok (.aload_n 0, 1) := by decide +kernel
theorem dX0_at_1 : decode cX0_at 1 = .ok (.getfield 19, 3) := by decide +kernel
theorem dX0_at_4 : decode cX0_at 4 = .ok (.iload_n 1, 1) := by decide +kernel
theorem dX0_at_5 : decode cX0_at 5 = .ok (.invokevirtual 82, 3) := by decide +kernel
theorem dX0_at_8 : decode cX0_at 8 = .ok (.ifCond .ne 6, 3) := by decide +kernel
theorem dX0_at_11 : decode cX0_at 11 = .ok (.bipush (-11), 2) := by decide +kernel
theorem dX0_at_13 : decode cX0_at 13 = .ok (.ireturn, 1) := by decide +kernel
theorem dX0_at_14 : decode cX0_at 14 = .ok (.iload_n 2, 1) := by decide +kernel
theorem dX0_at_15 : decode cX0_at 15 = .ok (.invokestatic 83, 3) := by decide +kernel
theorem dX0_at_18 : decode cX0_at 18 = .ok (.ifCond .eq 18, 3) := by decide +kernel
theorem dX0_at_21 : decode cX0_at 21 = .ok (.iload_n 3, 1) := by decide +kernel
theorem dX0_at_22 : decode cX0_at 22 = .ok (.invokestatic 112, 3) := by decide +kernel
theorem dX0_at_25 : decode cX0_at 25 = .ok (.ifCond .eq 11, 3) := by decide +kernel
theorem dX0_at_28 : decode cX0_at 28 = .ok (.iload 4, 2) := by decide +kernel
theorem dX0_at_30 : decode cX0_at 30 = .ok (.invokestatic 161, 3) := by decide +kernel
theorem dX0_at_33 : decode cX0_at 33 = .ok (.ifCond .ne 6, 3) := by decide +kernel
theorem dX0_at_36 : decode cX0_at 36 = .ok (.bipush (-12), 2) := by decide +kernel
theorem dX0_at_38 : decode cX0_at 38 = .ok (.ireturn, 1) := by decide +kernel
theorem dX0_at_39 : decode cX0_at 39 = .ok (.aload_n 0, 1) := by decide +kernel
theorem dX0_at_40 : decode cX0_at 40 = .ok (.getfield 19, 3) := by decide +kernel
theorem dX0_at_43 : decode cX0_at 43 = .ok (.iload_n 1, 1) := by decide +kernel
theorem dX0_at_44 : decode cX0_at 44 = .ok (.iload 4, 2) := by decide +kernel
theorem dX0_at_46 : decode cX0_at 46 = .ok (.invokevirtual 154, 3) := by decide +kernel
theorem dX0_at_49 : decode cX0_at 49 = .ok (.istore 5, 2) := by decide +kernel
theorem dX0_at_51 : decode cX0_at 51 = .ok (.aload_n 0, 1) := by decide +kernel
theorem dX0_at_52 : decode cX0_at 52 = .ok (.iload 5, 2) := by decide +kernel
theorem dX0_at_54 : decode cX0_at 54 = .ok (.iload_n 2, 1) := by decide +kernel
theorem dX0_at_55 : decode cX0_at 55 = .ok (.iload_n 3, 1) := by decide +kernel
theorem dX0_at_56 : decode cX0_at 56 = .ok (.iload 4, 2) := by decide +kernel
theorem dX0_at_58 : decode cX0_at 58 = .ok (.invokevirtual 164, 3) := by decide +kernel
theorem dX0_at_61 : decode cX0_at 61 = .ok (.istore 6, 2) := by decide +kernel
theorem dX0_at_63 : decode cX0_at 63 = .ok (.iload 6, 2) := by decide +kernel
theorem dX0_at_65 : decode cX0_at 65 = .ok (.iconst (-1), 1) := by decide +kernel
theorem dX0_at_66 : decode cX0_at 66 = .ok (.if_icmp .eq 8, 3) := by decide +kernel
theorem dX0_at_69 : decode cX0_at 69 = .ok (.iload 6, 2) := by decide +kernel
theorem dX0_at_71 : decode cX0_at 71 = .ok (.goto 13, 3) := by decide +kernel
theorem dX0_at_74 : decode cX0_at 74 = .ok (.aload_n 0, 1) := by decide +kernel
theorem dX0_at_75 : decode cX0_at 75 = .ok (.iload 5, 2) := by decide +kernel
theorem dX0_at_77 : decode cX0_at 77 = .ok (.iload_n 2, 1) := by decide +kernel
theorem dX0_at_78 : decode cX0_at 78 = .ok (.iload_n 3, 1) := by decide +kernel
theorem dX0_at_79 : decode cX0_at 79 = .ok (.iload 4, 2) := by decide +kernel
theorem dX0_at_81 : decode cX0_at 81 = .ok (.invokevirtual 167, 3) := by decide +kernel
theorem dX0_at_84 : decode cX0_at 84 = .ok (.ireturn, 1) := by decide +kernel
theorem dX0_isNearer_0 : decode cX0_isNearer 0 = .ok (.aload_n 0, 1) := by decide +kernel
theorem dX0_isNearer_1 : decode cX0_isNearer 1 = .ok (.iload_n 1, 1) := by decide +kernel
theorem dX0_isNearer_2 : decode cX0_isNearer 2 = .ok (.invokevirtual 227, 3) := by decide +kernel
theorem dX0_isNearer_5 : decode cX0_isNearer 5 = .ok (.iload_n 3, 1) := by decide +kernel
theorem dX0_isNearer_6 : decode cX0_isNearer 6 = .ok (.isub, 1) := by decide +kernel
theorem dX0_isNearer_7 : decode cX0_isNearer 7 = .ok (.invokestatic 260, 3) := by decide +kernel
theorem dX0_isNearer_10 : decode cX0_isNearer 10 = .ok (.istore 4, 2) := by decide +kernel
theorem dX0_isNearer_12 : decode cX0_isNearer 12 = .ok (.aload_n 0, 1) := by decide +kernel
theorem dX0_isNearer_13 : decode cX0_isNearer 13 = .ok (.iload_n 2, 1) := by decide +kernel
theorem dX0_isNearer_14 : decode cX0_isNearer 14 = .ok (.invokevirtual 227, 3) := by decide +kernel
theorem dX0_isNearer_17 : decode cX0_isNearer 17 = .ok (.iload_n 3, 1) := by decide +kernel
theorem dX0_isNearer_18 : decode cX0_isNearer 18 = .ok (.isub, 1) := by decide +kernel
theorem dX0_isNearer_19 : decode cX0_isNearer 19 = .ok (.invokestatic 260, 3) := by decide +kernel
theorem dX0_isNearer_22 : decode cX0_isNearer 22 = .ok (.istore 5, 2) := by decide +kernel
theorem dX0_isNearer_24 : decode cX0_isNearer 24 = .ok (.iload 4, 2) := by decide +kernel
theorem dX0_isNearer_26 : decode cX0_isNearer 26 = .ok (.iload 5, 2) := by decide +kernel
theorem dX0_isNearer_28 : decode cX0_isNearer 28 = .ok (.if_icmp .eq 16, 3) := by decide +kernel
theorem dX0_isNearer_31 : decode cX0_isNearer 31 = .ok (.iload 4, 2) := by decide +kernel
theorem dX0_isNearer_33 : decode cX0_isNearer 33 = .ok (.iload 5, 2) := by decide +kernel
theorem dX0_isNearer_35 : decode cX0_isNearer 35 = .ok (.if_icmp .ge 7, 3) := by decide +kernel
theorem dX0_isNearer_38 : decode cX0_isNearer 38 = .ok (.iconst 1, 1) := by decide +kernel
theorem dX0_isNearer_39 : decode cX0_isNearer 39 = .ok (.goto 4, 3) := by decide +kernel
theorem dX0_isNearer_42 : decode cX0_isNearer 42 = .ok (.iconst 0, 1) := by decide +kernel
theorem dX0_isNearer_43 : decode cX0_isNearer 43 = .ok (.ireturn, 1) := by decide +kernel
theorem dX0_isNearer_44 : decode cX0_isNearer 44 = .ok (.aload_n 0, 1) := by decide +kernel
theorem dX0_isNearer_45 : decode cX0_isNearer 45 = .ok (.iload_n 1, 1) := by decide +kernel
theorem dX0_isNearer_46 : decode cX0_isNearer 46 = .ok (.invokevirtual 227, 3) := by decide +kernel
theorem dX0_isNearer_49 : decode cX0_isNearer 49 = .ok (.aload_n 0, 1) := by decide +kernel
theorem dX0_isNearer_50 : decode cX0_isNearer 50 = .ok (.iload_n 2, 1) := by decide +kernel
theorem dX0_isNearer_51 : decode cX0_isNearer 51 = .ok (.invokevirtual 227, 3) := by decide +kernel
theorem dX0_isNearer_54 : decode cX0_isNearer 54 = .ok (.if_icmp .eq 22, 3) := by decide +kernel
theorem dX0_isNearer_57 : decode cX0_isNearer 57 = .ok (.aload_n 0, 1) := by decide +kernel
theorem dX0_isNearer_58 : decode cX0_isNearer 58 = .ok (.iload_n 1, 1) := by decide +kernel
theorem dX0_isNearer_59 : decode cX0_isNearer 59 = .ok (.invokevirtual 227, 3) := by decide +kernel
theorem dX0_isNearer_62 : decode cX0_isNearer 62 = .ok (.aload_n 0, 1) := by decide +kernel
theorem dX0_isNearer_63 : decode cX0_isNearer 63 = .ok (.iload_n 2, 1) := by decide +kernel
theorem dX0_isNearer_64 : decode cX0_isNearer 64 = .ok (.invokevirtual 227, 3) := by decide +kernel
theorem dX0_isNearer_67 : decode cX0_isNearer 67 = .ok (.if_icmp .ge 7, 3) := by decide +kernel
theorem dX0_isNearer_70 : decode cX0_isNearer 70 = .ok (.iconst 1, 1) := by decide +kernel
theorem dX0_isNearer_71 : decode cX0_isNearer 71 = .ok (.goto 4, 3) := by decide +kernel
theorem dX0_isNearer_74 : decode cX0_isNearer 74 = .ok (.iconst 0, 1) := by decide +kernel
theorem dX0_isNearer_75 : decode cX0_isNearer 75 = .ok (.ireturn, 1) := by decide +kernel
theorem dX0_isNearer_76 : decode cX0_isNearer 76 = .ok (.aload_n 0, 1) := by decide +kernel
theorem dX0_isNearer_77 : decode cX0_isNearer 77 = .ok (.getfield 33, 3) := by decide +kernel
theorem dX0_isNearer_80 : decode cX0_isNearer 80 = .ok (.getfield 193, 3) := by decide +kernel
theorem dX0_isNearer_83 : decode cX0_isNearer 83 = .ok (.iload_n 1, 1) := by decide +kernel
theorem dX0_isNearer_84 : decode cX0_isNearer 84 = .ok (.iaload, 1) := by decide +kernel
theorem dX0_isNearer_85 : decode cX0_isNearer 85 = .ok (.aload_n 0, 1) := by decide +kernel
theorem dX0_isNearer_86 : decode cX0_isNearer 86 = .ok (.getfield 33, 3) := by decide +kernel
theorem dX0_isNearer_89 : decode cX0_isNearer 89 = .ok (.getfield 193, 3) := by decide +kernel
theorem dX0_isNearer_92 : decode cX0_isNearer 92 = .ok (.iload_n 2, 1) := by decide +kernel
theorem dX0_isNearer_93 : decode cX0_isNearer 93 = .ok (.iaload, 1) := by decide +kernel
theorem dX0_isNearer_94 : decode cX0_isNearer 94 = .ok (.if_icmp .ge 7, 3) := by decide +kernel
theorem dX0_isNearer_97 : decode cX0_isNearer 97 = .ok (.iconst 1, 1) := by decide +kernel
theorem dX0_isNearer_98 : decode cX0_isNearer 98 = .ok (.goto 4, 3) := by decide +kernel
theorem dX0_isNearer_101 : decode cX0_isNearer 101 = .ok (.iconst 0, 1) := by decide +kernel
theorem dX0_isNearer_102 : decode cX0_isNearer 102 = .ok (.ireturn, 1) := by decide +kernel
theorem dX0_near_0 : decode cX0_near 0 = .ok (.aload_n 0, 1) := by decide +kernel
theorem dX0_near_1 : decode cX0_near 1 = .ok (.getfield 19, 3) := by decide +kernel
theorem dX0_near_4 : decode cX0_near 4 = .ok (.iload_n 1, 1) := by decide +kernel
theorem dX0_near_5 : decode cX0_near 5 = .ok (.invokevirtual 82, 3) := by decide +kernel
theorem dX0_near_8 : decode cX0_near 8 = .ok (.ifCond .ne 6, 3) := by decide +kernel
theorem dX0_near_11 : decode cX0_near 11 = .ok (.bipush (-11), 2) := by decide +kernel
theorem dX0_near_13 : decode cX0_near 13 = .ok (.ireturn, 1) := by decide +kernel
theorem dX0_near_14 : decode cX0_near 14 = .ok (.iload_n 2, 1) := by decide +kernel
theorem dX0_near_15 : decode cX0_near 15 = .ok (.invokestatic 83, 3) := by decide +kernel
theorem dX0_near_18 : decode cX0_near 18 = .ok (.ifCond .ne 6, 3) := by decide +kernel
theorem dX0_near_21 : decode cX0_near 21 = .ok (.bipush (-12), 2) := by decide +kernel
theorem dX0_near_23 : decode cX0_near 23 = .ok (.ireturn, 1) := by decide +kernel
theorem dX0_near_24 : decode cX0_near 24 = .ok (.aload_n 0, 1) := by decide +kernel
theorem dX0_near_25 : decode cX0_near 25 = .ok (.getfield 19, 3) := by decide +kernel
theorem dX0_near_28 : decode cX0_near 28 = .ok (.iload_n 1, 1) := by decide +kernel
theorem dX0_near_29 : decode cX0_near 29 = .ok (.aload_n 0, 1) := by decide +kernel
theorem dX0_near_30 : decode cX0_near 30 = .ok (.getfield 48, 3) := by decide +kernel
theorem dX0_near_33 : decode cX0_near 33 = .ok (.invokevirtual 154, 3) := by decide +kernel
theorem dX0_near_36 : decode cX0_near 36 = .ok (.istore_n 3, 1) := by decide +kernel
theorem dX0_near_37 : decode cX0_near 37 = .ok (.iconst (-1), 1) := by decide +kernel
theorem dX0_near_38 : decode cX0_near 38 = .ok (.istore 4, 2) := by decide +kernel
theorem dX0_near_40 : decode cX0_near 40 = .ok (.iconst 0, 1) := by decide +kernel
theorem dX0_near_41 : decode cX0_near 41 = .ok (.istore 5, 2) := by decide +kernel
theorem dX0_near_43 : decode cX0_near 43 = .ok (.iload 5, 2) := by decide +kernel
theorem dX0_near_45 : decode cX0_near 45 = .ok (.aload_n 0, 1) := by decide +kernel
theorem dX0_near_46 : decode cX0_near 46 = .ok (.getfield 33, 3) := by decide +kernel
theorem dX0_near_49 : decode cX0_near 49 = .ok (.getfield 170, 3) := by decide +kernel
theorem dX0_near_52 : decode cX0_near 52 = .ok (.if_icmp .ge 41, 3) := by decide +kernel
theorem dX0_near_55 : decode cX0_near 55 = .ok (.aload_n 0, 1) := by decide +kernel
theorem dX0_near_56 : decode cX0_near 56 = .ok (.iload 5, 2) := by decide +kernel
theorem dX0_near_58 : decode cX0_near 58 = .ok (.iload_n 3, 1) := by decide +kernel
theorem dX0_near_59 : decode cX0_near 59 = .ok (.invokevirtual 173, 3) := by decide +kernel
theorem dX0_near_62 : decode cX0_near 62 = .ok (.ifCond .eq 25, 3) := by decide +kernel
theorem dX0_near_65 : decode cX0_near 65 = .ok (.iload 4, 2) := by decide +kernel
theorem dX0_near_67 : decode cX0_near 67 = .ok (.iconst (-1), 1) := by decide +kernel
theorem dX0_near_68 : decode cX0_near 68 = .ok (.if_icmp .eq 15, 3) := by decide +kernel
theorem dX0_near_71 : decode cX0_near 71 = .ok (.aload_n 0, 1) := by decide +kernel
theorem dX0_near_72 : decode cX0_near 72 = .ok (.iload 5, 2) := by decide +kernel
theorem dX0_near_74 : decode cX0_near 74 = .ok (.iload 4, 2) := by decide +kernel
theorem dX0_near_76 : decode cX0_near 76 = .ok (.iload_n 2, 1) := by decide +kernel
theorem dX0_near_77 : decode cX0_near 77 = .ok (.invokevirtual 176, 3) := by decide +kernel
theorem dX0_near_80 : decode cX0_near 80 = .ok (.ifCond .eq 7, 3) := by decide +kernel
theorem dX0_near_83 : decode cX0_near 83 = .ok (.iload 5, 2) := by decide +kernel
theorem dX0_near_85 : decode cX0_near 85 = .ok (.istore 4, 2) := by decide +kernel
theorem dX0_near_87 : decode cX0_near 87 = .ok (.iinc 5 1, 3) := by decide +kernel
theorem dX0_near_90 : decode cX0_near 90 = .ok (.goto (-47), 3) := by decide +kernel
theorem dX0_near_93 : decode cX0_near 93 = .ok (.iload 4, 2) := by decide +kernel
theorem dX0_near_95 : decode cX0_near 95 = .ok (.ireturn, 1) := by decide +kernel
theorem dX0_isEarlierOnRound_0 : decode cX0_isEarlierOnRound 0 = .ok (.aload_n 0, 1) := by decide +kernel
theorem dX0_isEarlierOnRound_1 : decode cX0_isEarlierOnRound 1 = .ok (.iload_n 1, 1) := by decide +kernel
theorem dX0_isEarlierOnRound_2 : decode cX0_isEarlierOnRound 2 = .ok (.invokevirtual 227, 3) := by decide +kernel
theorem dX0_isEarlierOnRound_5 : decode cX0_isEarlierOnRound 5 = .ok (.istore_n 3, 1) := by decide +kernel
theorem dX0_isEarlierOnRound_6 : decode cX0_isEarlierOnRound 6 = .ok (.aload_n 0, 1) := by decide +kernel
theorem dX0_isEarlierOnRound_7 : decode cX0_isEarlierOnRound 7 = .ok (.iload_n 2, 1) := by decide +kernel
theorem dX0_isEarlierOnRound_8 : decode cX0_isEarlierOnRound 8 = .ok (.invokevirtual 227, 3) := by decide +kernel
theorem dX0_isEarlierOnRound_11 : decode cX0_isEarlierOnRound 11 = .ok (.istore 4, 2) := by decide +kernel
theorem dX0_isEarlierOnRound_13 : decode cX0_isEarlierOnRound 13 = .ok (.iload_n 3, 1) := by decide +kernel
theorem dX0_isEarlierOnRound_14 : decode cX0_isEarlierOnRound 14 = .ok (.iload 4, 2) := by decide +kernel
theorem dX0_isEarlierOnRound_16 : decode cX0_isEarlierOnRound 16 = .ok (.if_icmp .ne 30, 3) := by decide +kernel
theorem dX0_isEarlierOnRound_19 : decode cX0_isEarlierOnRound 19 = .ok (.aload_n 0, 1) := by decide +kernel
theorem dX0_isEarlierOnRound_20 : decode cX0_isEarlierOnRound 20 = .ok (.getfield 33, 3) := by decide +kernel
theorem dX0_isEarlierOnRound_23 : decode cX0_isEarlierOnRound 23 = .ok (.getfield 193, 3) := by decide +kernel
theorem dX0_isEarlierOnRound_26 : decode cX0_isEarlierOnRound 26 = .ok (.iload_n 1, 1) := by decide +kernel
theorem dX0_isEarlierOnRound_27 : decode cX0_isEarlierOnRound 27 = .ok (.iaload, 1) := by decide +kernel
theorem dX0_isEarlierOnRound_28 : decode cX0_isEarlierOnRound 28 = .ok (.aload_n 0, 1) := by decide +kernel
theorem dX0_isEarlierOnRound_29 : decode cX0_isEarlierOnRound 29 = .ok (.getfield 33, 3) := by decide +kernel
theorem dX0_isEarlierOnRound_32 : decode cX0_isEarlierOnRound 32 = .ok (.getfield 193, 3) := by decide +kernel
theorem dX0_isEarlierOnRound_35 : decode cX0_isEarlierOnRound 35 = .ok (.iload_n 2, 1) := by decide +kernel
theorem dX0_isEarlierOnRound_36 : decode cX0_isEarlierOnRound 36 = .ok (.iaload, 1) := by decide +kernel
theorem dX0_isEarlierOnRound_37 : decode cX0_isEarlierOnRound 37 = .ok (.if_icmp .ge 7, 3) := by decide +kernel
theorem dX0_isEarlierOnRound_40 : decode cX0_isEarlierOnRound 40 = .ok (.iconst 1, 1) := by decide +kernel
theorem dX0_isEarlierOnRound_41 : decode cX0_isEarlierOnRound 41 = .ok (.goto 4, 3) := by decide +kernel
theorem dX0_isEarlierOnRound_44 : decode cX0_isEarlierOnRound 44 = .ok (.iconst 0, 1) := by decide +kernel
theorem dX0_isEarlierOnRound_45 : decode cX0_isEarlierOnRound 45 = .ok (.ireturn, 1) := by decide +kernel
theorem dX0_isEarlierOnRound_46 : decode cX0_isEarlierOnRound 46 = .ok (.iload_n 3, 1) := by decide +kernel
theorem dX0_isEarlierOnRound_47 : decode cX0_isEarlierOnRound 47 = .ok (.invokestatic 265, 3) := by decide +kernel
theorem dX0_isEarlierOnRound_50 : decode cX0_isEarlierOnRound 50 = .ok (.iload 4, 2) := by decide +kernel
theorem dX0_isEarlierOnRound_52 : decode cX0_isEarlierOnRound 52 = .ok (.invokestatic 265, 3) := by decide +kernel
theorem dX0_isEarlierOnRound_55 : decode cX0_isEarlierOnRound 55 = .ok (.if_icmp .eq 8, 3) := by decide +kernel
theorem dX0_isEarlierOnRound_58 : decode cX0_isEarlierOnRound 58 = .ok (.iload_n 3, 1) := by decide +kernel
theorem dX0_isEarlierOnRound_59 : decode cX0_isEarlierOnRound 59 = .ok (.invokestatic 265, 3) := by decide +kernel
theorem dX0_isEarlierOnRound_62 : decode cX0_isEarlierOnRound 62 = .ok (.ireturn, 1) := by decide +kernel
theorem dX0_isEarlierOnRound_63 : decode cX0_isEarlierOnRound 63 = .ok (.iload_n 3, 1) := by decide +kernel
theorem dX0_isEarlierOnRound_64 : decode cX0_isEarlierOnRound 64 = .ok (.invokestatic 265, 3) := by decide +kernel
theorem dX0_isEarlierOnRound_67 : decode cX0_isEarlierOnRound 67 = .ok (.ifCond .eq 17, 3) := by decide +kernel
theorem dX0_isEarlierOnRound_70 : decode cX0_isEarlierOnRound 70 = .ok (.iload_n 3, 1) := by decide +kernel
theorem dX0_isEarlierOnRound_71 : decode cX0_isEarlierOnRound 71 = .ok (.iload 4, 2) := by decide +kernel
theorem dX0_isEarlierOnRound_73 : decode cX0_isEarlierOnRound 73 = .ok (.if_icmp .ge 7, 3) := by decide +kernel
theorem dX0_isEarlierOnRound_76 : decode cX0_isEarlierOnRound 76 = .ok (.iconst 1, 1) := by decide +kernel
theorem dX0_isEarlierOnRound_77 : decode cX0_isEarlierOnRound 77 = .ok (.goto 18, 3) := by decide +kernel
theorem dX0_isEarlierOnRound_80 : decode cX0_isEarlierOnRound 80 = .ok (.iconst 0, 1) := by decide +kernel
theorem dX0_isEarlierOnRound_81 : decode cX0_isEarlierOnRound 81 = .ok (.goto 14, 3) := by decide +kernel
theorem dX0_isEarlierOnRound_84 : decode cX0_isEarlierOnRound 84 = .ok (.iload_n 3, 1) := by decide +kernel
theorem dX0_isEarlierOnRound_85 : decode cX0_isEarlierOnRound 85 = .ok (.iload 4, 2) := by decide +kernel
theorem dX0_isEarlierOnRound_87 : decode cX0_isEarlierOnRound 87 = .ok (.if_icmp .le 7, 3) := by decide +kernel
theorem dX0_isEarlierOnRound_90 : decode cX0_isEarlierOnRound 90 = .ok (.iconst 1, 1) := by decide +kernel
theorem dX0_isEarlierOnRound_91 : decode cX0_isEarlierOnRound 91 = .ok (.goto 4, 3) := by decide +kernel
theorem dX0_isEarlierOnRound_94 : decode cX0_isEarlierOnRound 94 = .ok (.iconst 0, 1) := by decide +kernel
theorem dX0_isEarlierOnRound_95 : decode cX0_isEarlierOnRound 95 = .ok (.ireturn, 1) := by decide +kernel
theorem dX0_order_0 : decode cX0_order 0 = .ok (.aload_n 0, 1) := by decide +kernel
theorem dX0_order_1 : decode cX0_order 1 = .ok (.getfield 33, 3) := by decide +kernel
theorem dX0_order_4 : decode cX0_order 4 = .ok (.iload_n 1, 1) := by decide +kernel
theorem dX0_order_5 : decode cX0_order 5 = .ok (.invokevirtual 179, 3) := by decide +kernel
theorem dX0_order_8 : decode cX0_order 8 = .ok (.ifCond .ne 6, 3) := by decide +kernel
theorem dX0_order_11 : decode cX0_order 11 = .ok (.bipush (-11), 2) := by decide +kernel
theorem dX0_order_13 : decode cX0_order 13 = .ok (.ireturn, 1) := by decide +kernel
theorem dX0_order_14 : decode cX0_order 14 = .ok (.aload_n 0, 1) := by decide +kernel
theorem dX0_order_15 : decode cX0_order 15 = .ok (.getfield 33, 3) := by decide +kernel
theorem dX0_order_18 : decode cX0_order 18 = .ok (.getfield 180, 3) := by decide +kernel
theorem dX0_order_21 : decode cX0_order 21 = .ok (.iload_n 1, 1) := by decide +kernel
theorem dX0_order_22 : decode cX0_order 22 = .ok (.baload, 1) := by decide +kernel
theorem dX0_order_23 : decode cX0_order 23 = .ok (.ifCond .ne 6, 3) := by decide +kernel
theorem dX0_order_26 : decode cX0_order 26 = .ok (.bipush (-13), 2) := by decide +kernel
theorem dX0_order_28 : decode cX0_order 28 = .ok (.ireturn, 1) := by decide +kernel
theorem dX0_order_29 : decode cX0_order 29 = .ok (.aload_n 0, 1) := by decide +kernel
theorem dX0_order_30 : decode cX0_order 30 = .ok (.getfield 26, 3) := by decide +kernel
theorem dX0_order_33 : decode cX0_order 33 = .ok (.getfield 123, 3) := by decide +kernel
theorem dX0_order_36 : decode cX0_order 36 = .ok (.aload_n 0, 1) := by decide +kernel
theorem dX0_order_37 : decode cX0_order 37 = .ok (.getfield 33, 3) := by decide +kernel
theorem dX0_order_40 : decode cX0_order 40 = .ok (.getfield 181, 3) := by decide +kernel
theorem dX0_order_43 : decode cX0_order 43 = .ok (.iload_n 1, 1) := by decide +kernel
theorem dX0_order_44 : decode cX0_order 44 = .ok (.iaload, 1) := by decide +kernel
theorem dX0_order_45 : decode cX0_order 45 = .ok (.iaload, 1) := by decide +kernel
theorem dX0_order_46 : decode cX0_order 46 = .ok (.istore_n 2, 1) := by decide +kernel
theorem dX0_order_47 : decode cX0_order 47 = .ok (.iconst 0, 1) := by decide +kernel
theorem dX0_order_48 : decode cX0_order 48 = .ok (.istore_n 3, 1) := by decide +kernel
theorem dX0_order_49 : decode cX0_order 49 = .ok (.iconst 0, 1) := by decide +kernel
theorem dX0_order_50 : decode cX0_order 50 = .ok (.istore 4, 2) := by decide +kernel
theorem dX0_order_52 : decode cX0_order 52 = .ok (.iload 4, 2) := by decide +kernel
theorem dX0_order_54 : decode cX0_order 54 = .ok (.aload_n 0, 1) := by decide +kernel
theorem dX0_order_55 : decode cX0_order 55 = .ok (.getfield 33, 3) := by decide +kernel
theorem dX0_order_58 : decode cX0_order 58 = .ok (.getfield 170, 3) := by decide +kernel
theorem dX0_order_61 : decode cX0_order 61 = .ok (.if_icmp .ge 32, 3) := by decide +kernel
theorem dX0_order_64 : decode cX0_order 64 = .ok (.aload_n 0, 1) := by decide +kernel
theorem dX0_order_65 : decode cX0_order 65 = .ok (.iload 4, 2) := by decide +kernel
theorem dX0_order_67 : decode cX0_order 67 = .ok (.iload_n 2, 1) := by decide +kernel
theorem dX0_order_68 : decode cX0_order 68 = .ok (.invokevirtual 173, 3) := by decide +kernel
theorem dX0_order_71 : decode cX0_order 71 = .ok (.ifCond .eq 16, 3) := by decide +kernel
theorem dX0_order_74 : decode cX0_order 74 = .ok (.aload_n 0, 1) := by decide +kernel
theorem dX0_order_75 : decode cX0_order 75 = .ok (.iload 4, 2) := by decide +kernel
theorem dX0_order_77 : decode cX0_order 77 = .ok (.iload_n 1, 1) := by decide +kernel
theorem dX0_order_78 : decode cX0_order 78 = .ok (.invokevirtual 184, 3) := by decide +kernel
theorem dX0_order_81 : decode cX0_order 81 = .ok (.ifCond .eq 6, 3) := by decide +kernel
theorem dX0_order_84 : decode cX0_order 84 = .ok (.iinc 3 1, 3) := by decide +kernel
theorem dX0_order_87 : decode cX0_order 87 = .ok (.iinc 4 1, 3) := by decide +kernel
theorem dX0_order_90 : decode cX0_order 90 = .ok (.goto (-38), 3) := by decide +kernel
theorem dX0_order_93 : decode cX0_order 93 = .ok (.iload_n 3, 1) := by decide +kernel
theorem dX0_order_94 : decode cX0_order 94 = .ok (.ireturn, 1) := by decide +kernel
theorem dX0_housesWithPoint_0 : decode cX0_housesWithPoint 0 = .ok (.iconst 0, 1) := by decide +kernel
theorem dX0_housesWithPoint_1 : decode cX0_housesWithPoint 1 = .ok (.istore_n 2, 1) := by decide +kernel
theorem dX0_housesWithPoint_2 : decode cX0_housesWithPoint 2 = .ok (.iconst 0, 1) := by decide +kernel
theorem dX0_housesWithPoint_3 : decode cX0_housesWithPoint 3 = .ok (.istore_n 3, 1) := by decide +kernel
theorem dX0_housesWithPoint_4 : decode cX0_housesWithPoint 4 = .ok (.iload_n 3, 1) := by decide +kernel
theorem dX0_housesWithPoint_5 : decode cX0_housesWithPoint 5 = .ok (.aload_n 0, 1) := by decide +kernel
theorem dX0_housesWithPoint_6 : decode cX0_housesWithPoint 6 = .ok (.getfield 33, 3) := by decide +kernel
theorem dX0_housesWithPoint_9 : decode cX0_housesWithPoint 9 = .ok (.getfield 170, 3) := by decide +kernel
theorem dX0_housesWithPoint_12 : decode cX0_housesWithPoint 12 = .ok (.if_icmp .ge 45, 3) := by decide +kernel
theorem dX0_housesWithPoint_15 : decode cX0_housesWithPoint 15 = .ok (.aload_n 0, 1) := by decide +kernel
theorem dX0_housesWithPoint_16 : decode cX0_housesWithPoint 16 = .ok (.iload_n 3, 1) := by decide +kernel
theorem dX0_housesWithPoint_17 : decode cX0_housesWithPoint 17 = .ok (.iload_n 1, 1) := by decide +kernel
theorem dX0_housesWithPoint_18 : decode cX0_housesWithPoint 18 = .ok (.invokevirtual 173, 3) := by decide +kernel
theorem dX0_housesWithPoint_21 : decode cX0_housesWithPoint 21 = .ok (.ifCond .eq 30, 3) := by decide +kernel
theorem dX0_housesWithPoint_24 : decode cX0_housesWithPoint 24 = .ok (.aload_n 0, 1) := by decide +kernel
theorem dX0_housesWithPoint_25 : decode cX0_housesWithPoint 25 = .ok (.getfield 44, 3) := by decide +kernel
theorem dX0_housesWithPoint_28 : decode cX0_housesWithPoint 28 = .ok (.aload_n 0, 1) := by decide +kernel
theorem dX0_housesWithPoint_29 : decode cX0_housesWithPoint 29 = .ok (.iload_n 3, 1) := by decide +kernel
theorem dX0_housesWithPoint_30 : decode cX0_housesWithPoint 30 = .ok (.invokevirtual 227, 3) := by decide +kernel
theorem dX0_housesWithPoint_33 : decode cX0_housesWithPoint 33 = .ok (.baload, 1) := by decide +kernel
theorem dX0_housesWithPoint_34 : decode cX0_housesWithPoint 34 = .ok (.ifCond .ne 17, 3) := by decide +kernel
theorem dX0_housesWithPoint_37 : decode cX0_housesWithPoint 37 = .ok (.aload_n 0, 1) := by decide +kernel
theorem dX0_housesWithPoint_38 : decode cX0_housesWithPoint 38 = .ok (.getfield 44, 3) := by decide +kernel
theorem dX0_housesWithPoint_41 : decode cX0_housesWithPoint 41 = .ok (.aload_n 0, 1) := by decide +kernel
theorem dX0_housesWithPoint_42 : decode cX0_housesWithPoint 42 = .ok (.iload_n 3, 1) := by decide +kernel
theorem dX0_housesWithPoint_43 : decode cX0_housesWithPoint 43 = .ok (.invokevirtual 227, 3) := by decide +kernel
theorem dX0_housesWithPoint_46 : decode cX0_housesWithPoint 46 = .ok (.iconst 1, 1) := by decide +kernel
theorem dX0_housesWithPoint_47 : decode cX0_housesWithPoint 47 = .ok (.bastore, 1) := by decide +kernel
theorem dX0_housesWithPoint_48 : decode cX0_housesWithPoint 48 = .ok (.iinc 2 1, 3) := by decide +kernel
theorem dX0_housesWithPoint_51 : decode cX0_housesWithPoint 51 = .ok (.iinc 3 1, 3) := by decide +kernel
theorem dX0_housesWithPoint_54 : decode cX0_housesWithPoint 54 = .ok (.goto (-50), 3) := by decide +kernel
theorem dX0_housesWithPoint_57 : decode cX0_housesWithPoint 57 = .ok (.iconst 0, 1) := by decide +kernel
theorem dX0_housesWithPoint_58 : decode cX0_housesWithPoint 58 = .ok (.istore_n 3, 1) := by decide +kernel
theorem dX0_housesWithPoint_59 : decode cX0_housesWithPoint 59 = .ok (.iload_n 3, 1) := by decide +kernel
theorem dX0_housesWithPoint_60 : decode cX0_housesWithPoint 60 = .ok (.aload_n 0, 1) := by decide +kernel
theorem dX0_housesWithPoint_61 : decode cX0_housesWithPoint 61 = .ok (.getfield 33, 3) := by decide +kernel
theorem dX0_housesWithPoint_64 : decode cX0_housesWithPoint 64 = .ok (.getfield 170, 3) := by decide +kernel
theorem dX0_housesWithPoint_67 : decode cX0_housesWithPoint 67 = .ok (.if_icmp .ge 20, 3) := by decide +kernel
theorem dX0_housesWithPoint_70 : decode cX0_housesWithPoint 70 = .ok (.aload_n 0, 1) := by decide +kernel
theorem dX0_housesWithPoint_71 : decode cX0_housesWithPoint 71 = .ok (.getfield 44, 3) := by decide +kernel
theorem dX0_housesWithPoint_74 : decode cX0_housesWithPoint 74 = .ok (.aload_n 0, 1) := by decide +kernel
theorem dX0_housesWithPoint_75 : decode cX0_housesWithPoint 75 = .ok (.iload_n 3, 1) := by decide +kernel
theorem dX0_housesWithPoint_76 : decode cX0_housesWithPoint 76 = .ok (.invokevirtual 227, 3) := by decide +kernel
theorem dX0_housesWithPoint_79 : decode cX0_housesWithPoint 79 = .ok (.iconst 0, 1) := by decide +kernel
theorem dX0_housesWithPoint_80 : decode cX0_housesWithPoint 80 = .ok (.bastore, 1) := by decide +kernel
theorem dX0_housesWithPoint_81 : decode cX0_housesWithPoint 81 = .ok (.iinc 3 1, 3) := by decide +kernel
theorem dX0_housesWithPoint_84 : decode cX0_housesWithPoint 84 = .ok (.goto (-25), 3) := by decide +kernel
theorem dX0_housesWithPoint_87 : decode cX0_housesWithPoint 87 = .ok (.iload_n 2, 1) := by decide +kernel
theorem dX0_housesWithPoint_88 : decode cX0_housesWithPoint 88 = .ok (.ireturn, 1) := by decide +kernel
theorem dX0_holes_0 : decode cX0_holes 0 = .ok (.aload_n 0, 1) := by decide +kernel
theorem dX0_holes_1 : decode cX0_holes 1 = .ok (.getfield 19, 3) := by decide +kernel
theorem dX0_holes_4 : decode cX0_holes 4 = .ok (.iload_n 1, 1) := by decide +kernel
theorem dX0_holes_5 : decode cX0_holes 5 = .ok (.invokevirtual 82, 3) := by decide +kernel
theorem dX0_holes_8 : decode cX0_holes 8 = .ok (.ifCond .ne 6, 3) := by decide +kernel
theorem dX0_holes_11 : decode cX0_holes 11 = .ok (.bipush (-11), 2) := by decide +kernel
theorem dX0_holes_13 : decode cX0_holes 13 = .ok (.ireturn, 1) := by decide +kernel
theorem dX0_holes_14 : decode cX0_holes 14 = .ok (.aload_n 0, 1) := by decide +kernel
theorem dX0_holes_15 : decode cX0_holes 15 = .ok (.getfield 19, 3) := by decide +kernel
theorem dX0_holes_18 : decode cX0_holes 18 = .ok (.iload_n 1, 1) := by decide +kernel
theorem dX0_holes_19 : decode cX0_holes 19 = .ok (.aload_n 0, 1) := by decide +kernel
theorem dX0_holes_20 : decode cX0_holes 20 = .ok (.getfield 48, 3) := by decide +kernel
theorem dX0_holes_23 : decode cX0_holes 23 = .ok (.invokevirtual 154, 3) := by decide +kernel
theorem dX0_holes_26 : decode cX0_holes 26 = .ok (.istore_n 2, 1) := by decide +kernel
theorem dX0_holes_27 : decode cX0_holes 27 = .ok (.aload_n 0, 1) := by decide +kernel
theorem dX0_holes_28 : decode cX0_holes 28 = .ok (.getfield 26, 3) := by decide +kernel
theorem dX0_holes_31 : decode cX0_holes 31 = .ok (.iload_n 2, 1) := by decide +kernel
theorem dX0_holes_32 : decode cX0_holes 32 = .ok (.invokevirtual 187, 3) := by decide +kernel
theorem dX0_holes_35 : decode cX0_holes 35 = .ok (.aload_n 0, 1) := by decide +kernel
theorem dX0_holes_36 : decode cX0_holes 36 = .ok (.iload_n 2, 1) := by decide +kernel
theorem dX0_holes_37 : decode cX0_holes 37 = .ok (.invokevirtual 190, 3) := by decide +kernel
theorem dX0_holes_40 : decode cX0_holes 40 = .ok (.isub, 1) := by decide +kernel
theorem dX0_holes_41 : decode cX0_holes 41 = .ok (.ireturn, 1) := by decide +kernel
theorem dX0_where_0 : decode cX0_where 0 = .ok (.aload_n 0, 1) := by decide +kernel
theorem dX0_where_1 : decode cX0_where 1 = .ok (.getfield 33, 3) := by decide +kernel
theorem dX0_where_4 : decode cX0_where 4 = .ok (.iload_n 1, 1) := by decide +kernel
theorem dX0_where_5 : decode cX0_where 5 = .ok (.invokevirtual 179, 3) := by decide +kernel
theorem dX0_where_8 : decode cX0_where 8 = .ok (.ifCond .ne 6, 3) := by decide +kernel
theorem dX0_where_11 : decode cX0_where 11 = .ok (.bipush (-11), 2) := by decide +kernel
theorem dX0_where_13 : decode cX0_where 13 = .ok (.ireturn, 1) := by decide +kernel
theorem dX0_where_14 : decode cX0_where 14 = .ok (.iload_n 2, 1) := by decide +kernel
theorem dX0_where_15 : decode cX0_where 15 = .ok (.iconst 0, 1) := by decide +kernel
theorem dX0_where_16 : decode cX0_where 16 = .ok (.iconst 3, 1) := by decide +kernel
theorem dX0_where_17 : decode cX0_where 17 = .ok (.invokestatic 53, 3) := by decide +kernel
theorem dX0_where_20 : decode cX0_where 20 = .ok (.ifCond .eq 10, 3) := by decide +kernel
theorem dX0_where_23 : decode cX0_where 23 = .ok (.iload_n 3, 1) := by decide +kernel
theorem dX0_where_24 : decode cX0_where 24 = .ok (.invokestatic 161, 3) := by decide +kernel
theorem dX0_where_27 : decode cX0_where 27 = .ok (.ifCond .ne 6, 3) := by decide +kernel
theorem dX0_where_30 : decode cX0_where 30 = .ok (.bipush (-12), 2) := by decide +kernel
theorem dX0_where_32 : decode cX0_where 32 = .ok (.ireturn, 1) := by decide +kernel
theorem dX0_where_33 : decode cX0_where 33 = .ok (.iload_n 2, 1) := by decide +kernel
theorem dX0_where_34 : decode cX0_where 34 = .ok (.iconst 2, 1) := by decide +kernel
theorem dX0_where_35 : decode cX0_where 35 = .ok (.if_icmp .ne 13, 3) := by decide +kernel
theorem dX0_where_38 : decode cX0_where 38 = .ok (.aload_n 0, 1) := by decide +kernel
theorem dX0_where_39 : decode cX0_where 39 = .ok (.getfield 33, 3) := by decide +kernel
theorem dX0_where_42 : decode cX0_where 42 = .ok (.getfield 193, 3) := by decide +kernel
theorem dX0_where_45 : decode cX0_where 45 = .ok (.iload_n 1, 1) := by decide +kernel
theorem dX0_where_46 : decode cX0_where 46 = .ok (.iaload, 1) := by decide +kernel
theorem dX0_where_47 : decode cX0_where 47 = .ok (.ireturn, 1) := by decide +kernel
theorem dX0_where_48 : decode cX0_where 48 = .ok (.iload_n 2, 1) := by decide +kernel
theorem dX0_where_49 : decode cX0_where 49 = .ok (.iconst 3, 1) := by decide +kernel
theorem dX0_where_50 : decode cX0_where 50 = .ok (.if_icmp .ne 13, 3) := by decide +kernel
theorem dX0_where_53 : decode cX0_where 53 = .ok (.aload_n 0, 1) := by decide +kernel
theorem dX0_where_54 : decode cX0_where 54 = .ok (.getfield 33, 3) := by decide +kernel
theorem dX0_where_57 : decode cX0_where 57 = .ok (.getfield 181, 3) := by decide +kernel
theorem dX0_where_60 : decode cX0_where 60 = .ok (.iload_n 1, 1) := by decide +kernel
theorem dX0_where_61 : decode cX0_where 61 = .ok (.iaload, 1) := by decide +kernel
theorem dX0_where_62 : decode cX0_where 62 = .ok (.ireturn, 1) := by decide +kernel
theorem dX0_where_63 : decode cX0_where 63 = .ok (.aload_n 0, 1) := by decide +kernel
theorem dX0_where_64 : decode cX0_where 64 = .ok (.getfield 40, 3) := by decide +kernel
theorem dX0_where_67 : decode cX0_where 67 = .ok (.iload_n 1, 1) := by decide +kernel
theorem dX0_where_68 : decode cX0_where 68 = .ok (.iload_n 3, 1) := by decide +kernel
theorem dX0_where_69 : decode cX0_where 69 = .ok (.invokevirtual 196, 3) := by decide +kernel
theorem dX0_where_72 : decode cX0_where 72 = .ok (.istore 4, 2) := by decide +kernel
theorem dX0_where_74 : decode cX0_where 74 = .ok (.iload 4, 2) := by decide +kernel
theorem dX0_where_76 : decode cX0_where 76 = .ok (.iconst (-1), 1) := by decide +kernel
theorem dX0_where_77 : decode cX0_where 77 = .ok (.if_icmp .ne 5, 3) := by decide +kernel
theorem dX0_where_80 : decode cX0_where 80 = .ok (.iconst (-1), 1) := by decide +kernel
theorem dX0_where_81 : decode cX0_where 81 = .ok (.ireturn, 1) := by decide +kernel
theorem dX0_where_82 : decode cX0_where 82 = .ok (.iload_n 2, 1) := by decide +kernel
theorem dX0_where_83 : decode cX0_where 83 = .ok (.iconst 1, 1) := by decide +kernel
theorem dX0_where_84 : decode cX0_where 84 = .ok (.if_icmp .ne 16, 3) := by decide +kernel
theorem dX0_where_87 : decode cX0_where 87 = .ok (.aload_n 0, 1) := by decide +kernel
theorem dX0_where_88 : decode cX0_where 88 = .ok (.getfield 40, 3) := by decide +kernel
theorem dX0_where_91 : decode cX0_where 91 = .ok (.getfield 199, 3) := by decide +kernel
theorem dX0_where_94 : decode cX0_where 94 = .ok (.iload 4, 2) := by decide +kernel
theorem dX0_where_96 : decode cX0_where 96 = .ok (.iaload, 1) := by decide +kernel
theorem dX0_where_97 : decode cX0_where 97 = .ok (.goto 20, 3) := by decide +kernel
theorem dX0_where_100 : decode cX0_where 100 = .ok (.aload_n 0, 1) := by decide +kernel
theorem dX0_where_101 : decode cX0_where 101 = .ok (.getfield 19, 3) := by decide +kernel
theorem dX0_where_104 : decode cX0_where 104 = .ok (.aload_n 0, 1) := by decide +kernel
theorem dX0_where_105 : decode cX0_where 105 = .ok (.getfield 33, 3) := by decide +kernel
theorem dX0_where_108 : decode cX0_where 108 = .ok (.getfield 202, 3) := by decide +kernel
theorem dX0_where_111 : decode cX0_where 111 = .ok (.iload_n 1, 1) := by decide +kernel
theorem dX0_where_112 : decode cX0_where 112 = .ok (.iaload, 1) := by decide +kernel
theorem dX0_where_113 : decode cX0_where 113 = .ok (.iload_n 3, 1) := by decide +kernel
theorem dX0_where_114 : decode cX0_where 114 = .ok (.invokevirtual 154, 3) := by decide +kernel
theorem dX0_where_117 : decode cX0_where 117 = .ok (.ireturn, 1) := by decide +kernel
theorem dX0_howManyTrue_0 : decode cX0_howManyTrue 0 = .ok (.iconst 0, 1) := by decide +kernel
theorem dX0_howManyTrue_1 : decode cX0_howManyTrue 1 = .ok (.istore_n 1, 1) := by decide +kernel
theorem dX0_howManyTrue_2 : decode cX0_howManyTrue 2 = .ok (.iconst 0, 1) := by decide +kernel
theorem dX0_howManyTrue_3 : decode cX0_howManyTrue 3 = .ok (.istore_n 2, 1) := by decide +kernel
theorem dX0_howManyTrue_4 : decode cX0_howManyTrue 4 = .ok (.iload_n 2, 1) := by decide +kernel
theorem dX0_howManyTrue_5 : decode cX0_howManyTrue 5 = .ok (.aload_n 0, 1) := by decide +kernel
theorem dX0_howManyTrue_6 : decode cX0_howManyTrue 6 = .ok (.arraylength, 1) := by decide +kernel
theorem dX0_howManyTrue_7 : decode cX0_howManyTrue 7 = .ok (.if_icmp .ge 18, 3) := by decide +kernel
theorem dX0_howManyTrue_10 : decode cX0_howManyTrue 10 = .ok (.aload_n 0, 1) := by decide +kernel
theorem dX0_howManyTrue_11 : decode cX0_howManyTrue 11 = .ok (.iload_n 2, 1) := by decide +kernel
theorem dX0_howManyTrue_12 : decode cX0_howManyTrue 12 = .ok (.baload, 1) := by decide +kernel
theorem dX0_howManyTrue_13 : decode cX0_howManyTrue 13 = .ok (.ifCond .eq 6, 3) := by decide +kernel
theorem dX0_howManyTrue_16 : decode cX0_howManyTrue 16 = .ok (.iinc 1 1, 3) := by decide +kernel
theorem dX0_howManyTrue_19 : decode cX0_howManyTrue 19 = .ok (.iinc 2 1, 3) := by decide +kernel
theorem dX0_howManyTrue_22 : decode cX0_howManyTrue 22 = .ok (.goto (-18), 3) := by decide +kernel
theorem dX0_howManyTrue_25 : decode cX0_howManyTrue 25 = .ok (.iload_n 1, 1) := by decide +kernel
theorem dX0_howManyTrue_26 : decode cX0_howManyTrue 26 = .ok (.ireturn, 1) := by decide +kernel
theorem dX0_count_0 : decode cX0_count 0 = .ok (.iload_n 1, 1) := by decide +kernel
theorem dX0_count_1 : decode cX0_count 1 = .ok (.tableswitch 78 0 4 #[35, 43, 51, 62, 73], 35) := by decide +kernel
theorem dX0_count_36 : decode cX0_count 36 = .ok (.aload_n 0, 1) := by decide +kernel
theorem dX0_count_37 : decode cX0_count 37 = .ok (.getfield 12, 3) := by decide +kernel
theorem dX0_count_40 : decode cX0_count 40 = .ok (.getfield 205, 3) := by decide +kernel
theorem dX0_count_43 : decode cX0_count 43 = .ok (.ireturn, 1) := by decide +kernel
theorem dX0_count_44 : decode cX0_count 44 = .ok (.aload_n 0, 1) := by decide +kernel
theorem dX0_count_45 : decode cX0_count 45 = .ok (.getfield 19, 3) := by decide +kernel
theorem dX0_count_48 : decode cX0_count 48 = .ok (.getfield 206, 3) := by decide +kernel
theorem dX0_count_51 : decode cX0_count 51 = .ok (.ireturn, 1) := by decide +kernel
theorem dX0_count_52 : decode cX0_count 52 = .ok (.aload_n 0, 1) := by decide +kernel
theorem dX0_count_53 : decode cX0_count 53 = .ok (.getfield 26, 3) := by decide +kernel
theorem dX0_count_56 : decode cX0_count 56 = .ok (.getfield 115, 3) := by decide +kernel
theorem dX0_count_59 : decode cX0_count 59 = .ok (.invokestatic 207, 3) := by decide +kernel
theorem dX0_count_62 : decode cX0_count 62 = .ok (.ireturn, 1) := by decide +kernel
theorem dX0_count_63 : decode cX0_count 63 = .ok (.aload_n 0, 1) := by decide +kernel
theorem dX0_count_64 : decode cX0_count 64 = .ok (.getfield 33, 3) := by decide +kernel
theorem dX0_count_67 : decode cX0_count 67 = .ok (.getfield 180, 3) := by decide +kernel
theorem dX0_count_70 : decode cX0_count 70 = .ok (.invokestatic 207, 3) := by decide +kernel
theorem dX0_count_73 : decode cX0_count 73 = .ok (.ireturn, 1) := by decide +kernel
theorem dX0_count_74 : decode cX0_count 74 = .ok (.aload_n 0, 1) := by decide +kernel
theorem dX0_count_75 : decode cX0_count 75 = .ok (.getfield 48, 3) := by decide +kernel
theorem dX0_count_78 : decode cX0_count 78 = .ok (.ireturn, 1) := by decide +kernel
theorem dX0_count_79 : decode cX0_count 79 = .ok (.bipush (-12), 2) := by decide +kernel
theorem dX0_count_81 : decode cX0_count 81 = .ok (.ireturn, 1) := by decide +kernel
