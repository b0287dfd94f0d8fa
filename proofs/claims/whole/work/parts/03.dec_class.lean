theorem dX0_init_0 : decode cX0_init 0 = .ok (.aload_n 0, 1) := by decide +kernel
theorem dX0_init_1 : decode cX0_init 1 = .ok (.invokespecial 3, 3) := by decide +kernel
theorem dX0_init_4 : decode cX0_init 4 = .ok (.aload_n 0, 1) := by decide +kernel
theorem dX0_init_5 : decode cX0_init 5 = .ok (.iconst 0, 1) := by decide +kernel
theorem dX0_init_6 : decode cX0_init 6 = .ok (.putfield 9, 3) := by decide +kernel
theorem dX0_init_9 : decode cX0_init 9 = .ok (.aload_n 0, 1) := by decide +kernel
theorem dX0_init_10 : decode cX0_init 10 = .ok (.iconst 0, 1) := by decide +kernel
theorem dX0_init_11 : decode cX0_init 11 = .ok (.putfield 15, 3) := by decide +kernel
theorem dX0_init_14 : decode cX0_init 14 = .ok (.aload_n 0, 1) := by decide +kernel
theorem dX0_init_15 : decode cX0_init 15 = .ok (.bipush 40, 2) := by decide +kernel
theorem dX0_init_17 : decode cX0_init 17 = .ok (.newarray .int, 2) := by decide +kernel
theorem dX0_init_19 : decode cX0_init 19 = .ok (.putfield 18, 3) := by decide +kernel
theorem dX0_init_22 : decode cX0_init 22 = .ok (.return_, 1) := by decide +kernel
theorem dX0_isMissing_0 : decode cX0_isMissing 0 = .ok (.aload_n 0, 1) := by decide +kernel
theorem dX0_isMissing_1 : decode cX0_isMissing 1 = .ok (.getfield 9, 3) := by decide +kernel
theorem dX0_isMissing_4 : decode cX0_isMissing 4 = .ok (.ifCond .ne 7, 3) := by decide +kernel
theorem dX0_isMissing_7 : decode cX0_isMissing 7 = .ok (.iconst 1, 1) := by decide +kernel
theorem dX0_isMissing_8 : decode cX0_isMissing 8 = .ok (.goto 4, 3) := by decide +kernel
theorem dX0_isMissing_11 : decode cX0_isMissing 11 = .ok (.iconst 0, 1) := by decide +kernel
theorem dX0_isMissing_12 : decode cX0_isMissing 12 = .ok (.ireturn, 1) := by decide +kernel
theorem dX0_begin_0 : decode cX0_begin 0 = .ok (.aload_n 0, 1) := by decide +kernel
theorem dX0_begin_1 : decode cX0_begin 1 = .ok (.iload_n 1, 1) := by decide +kernel
theorem dX0_begin_2 : decode cX0_begin 2 = .ok (.putfield 9, 3) := by decide +kernel
theorem dX0_begin_5 : decode cX0_begin 5 = .ok (.aload_n 0, 1) := by decide +kernel
theorem dX0_begin_6 : decode cX0_begin 6 = .ok (.iload_n 1, 1) := by decide +kernel
theorem dX0_begin_7 : decode cX0_begin 7 = .ok (.ifCond .ne 7, 3) := by decide +kernel
theorem dX0_begin_10 : decode cX0_begin 10 = .ok (.iconst 0, 1) := by decide +kernel
theorem dX0_begin_11 : decode cX0_begin 11 = .ok (.goto 4, 3) := by decide +kernel
theorem dX0_begin_14 : decode cX0_begin 14 = .ok (.iload_n 2, 1) := by decide +kernel
theorem dX0_begin_15 : decode cX0_begin 15 = .ok (.putfield 15, 3) := by decide +kernel
theorem dX0_begin_18 : decode cX0_begin 18 = .ok (.iconst 0, 1) := by decide +kernel
theorem dX0_begin_19 : decode cX0_begin 19 = .ok (.istore_n 3, 1) := by decide +kernel
theorem dX0_begin_20 : decode cX0_begin 20 = .ok (.iload_n 3, 1) := by decide +kernel
theorem dX0_begin_21 : decode cX0_begin 21 = .ok (.bipush 40, 2) := by decide +kernel
theorem dX0_begin_23 : decode cX0_begin 23 = .ok (.if_icmp .ge 16, 3) := by decide +kernel
theorem dX0_begin_26 : decode cX0_begin 26 = .ok (.aload_n 0, 1) := by decide +kernel
theorem dX0_begin_27 : decode cX0_begin 27 = .ok (.getfield 18, 3) := by decide +kernel
theorem dX0_begin_30 : decode cX0_begin 30 = .ok (.iload_n 3, 1) := by decide +kernel
theorem dX0_begin_31 : decode cX0_begin 31 = .ok (.iconst 0, 1) := by decide +kernel
theorem dX0_begin_32 : decode cX0_begin 32 = .ok (.iastore, 1) := by decide +kernel
theorem dX0_begin_33 : decode cX0_begin 33 = .ok (.iinc 3 1, 3) := by decide +kernel
theorem dX0_begin_36 : decode cX0_begin 36 = .ok (.goto (-16), 3) := by decide +kernel
theorem dX0_begin_39 : decode cX0_begin 39 = .ok (.return_, 1) := by decide +kernel
theorem dX0_put_0 : decode cX0_put 0 = .ok (.aload_n 0, 1) := by decide +kernel
theorem dX0_put_1 : decode cX0_put 1 = .ok (.getfield 9, 3) := by decide +kernel
theorem dX0_put_4 : decode cX0_put 4 = .ok (.bipush 8, 2) := by decide +kernel
theorem dX0_put_6 : decode cX0_put 6 = .ok (.if_icmp .ne 14, 3) := by decide +kernel
theorem dX0_put_9 : decode cX0_put 9 = .ok (.aload_n 0, 1) := by decide +kernel
theorem dX0_put_10 : decode cX0_put 10 = .ok (.getfield 18, 3) := by decide +kernel
theorem dX0_put_13 : decode cX0_put 13 = .ok (.iload_n 1, 1) := by decide +kernel
theorem dX0_put_14 : decode cX0_put 14 = .ok (.iload_n 2, 1) := by decide +kernel
theorem dX0_put_15 : decode cX0_put 15 = .ok (.i2b, 1) := by decide +kernel
theorem dX0_put_16 : decode cX0_put 16 = .ok (.iastore, 1) := by decide +kernel
theorem dX0_put_17 : decode cX0_put 17 = .ok (.goto 30, 3) := by decide +kernel
theorem dX0_put_20 : decode cX0_put 20 = .ok (.aload_n 0, 1) := by decide +kernel
theorem dX0_put_21 : decode cX0_put 21 = .ok (.getfield 9, 3) := by decide +kernel
theorem dX0_put_24 : decode cX0_put 24 = .ok (.bipush 16, 2) := by decide +kernel
theorem dX0_put_26 : decode cX0_put 26 = .ok (.if_icmp .ne 14, 3) := by decide +kernel
theorem dX0_put_29 : decode cX0_put 29 = .ok (.aload_n 0, 1) := by decide +kernel
theorem dX0_put_30 : decode cX0_put 30 = .ok (.getfield 18, 3) := by decide +kernel
theorem dX0_put_33 : decode cX0_put 33 = .ok (.iload_n 1, 1) := by decide +kernel
theorem dX0_put_34 : decode cX0_put 34 = .ok (.iload_n 2, 1) := by decide +kernel
theorem dX0_put_35 : decode cX0_put 35 = .ok (.i2s, 1) := by decide +kernel
theorem dX0_put_36 : decode cX0_put 36 = .ok (.iastore, 1) := by decide +kernel
theorem dX0_put_37 : decode cX0_put 37 = .ok (.goto 10, 3) := by decide +kernel
theorem dX0_put_40 : decode cX0_put 40 = .ok (.aload_n 0, 1) := by decide +kernel
theorem dX0_put_41 : decode cX0_put 41 = .ok (.getfield 18, 3) := by decide +kernel
theorem dX0_put_44 : decode cX0_put 44 = .ok (.iload_n 1, 1) := by decide +kernel
theorem dX0_put_45 : decode cX0_put 45 = .ok (.iload_n 2, 1) := by decide +kernel
theorem dX0_put_46 : decode cX0_put 46 = .ok (.iastore, 1) := by decide +kernel
theorem dX0_put_47 : decode cX0_put 47 = .ok (.return_, 1) := by decide +kernel
theorem dX0_has_0 : decode cX0_has 0 = .ok (.iload_n 1, 1) := by decide +kernel
theorem dX0_has_1 : decode cX0_has 1 = .ok (.ifCond .lt 29, 3) := by decide +kernel
theorem dX0_has_4 : decode cX0_has 4 = .ok (.iload_n 2, 1) := by decide +kernel
theorem dX0_has_5 : decode cX0_has 5 = .ok (.ifCond .lt 25, 3) := by decide +kernel
theorem dX0_has_8 : decode cX0_has 8 = .ok (.iload_n 1, 1) := by decide +kernel
theorem dX0_has_9 : decode cX0_has 9 = .ok (.aload_n 0, 1) := by decide +kernel
theorem dX0_has_10 : decode cX0_has 10 = .ok (.getfield 15, 3) := by decide +kernel
theorem dX0_has_13 : decode cX0_has 13 = .ok (.if_icmp .gt 17, 3) := by decide +kernel
theorem dX0_has_16 : decode cX0_has 16 = .ok (.iload_n 2, 1) := by decide +kernel
theorem dX0_has_17 : decode cX0_has 17 = .ok (.aload_n 0, 1) := by decide +kernel
theorem dX0_has_18 : decode cX0_has 18 = .ok (.getfield 15, 3) := by decide +kernel
theorem dX0_has_21 : decode cX0_has 21 = .ok (.iload_n 1, 1) := by decide +kernel
theorem dX0_has_22 : decode cX0_has 22 = .ok (.isub, 1) := by decide +kernel
theorem dX0_has_23 : decode cX0_has 23 = .ok (.if_icmp .gt 7, 3) := by decide +kernel
theorem dX0_has_26 : decode cX0_has 26 = .ok (.iconst 1, 1) := by decide +kernel
theorem dX0_has_27 : decode cX0_has 27 = .ok (.goto 4, 3) := by decide +kernel
theorem dX0_has_30 : decode cX0_has 30 = .ok (.iconst 0, 1) := by decide +kernel
theorem dX0_has_31 : decode cX0_has 31 = .ok (.ireturn, 1) := by decide +kernel
theorem dX1_init_0 : decode cX1_init 0 = .ok (.aload_n 0, 1) := by decide +kernel
theorem dX1_init_1 : decode cX1_init 1 = .ok (.invokespecial 3, 3) := by decide +kernel
theorem dX1_init_4 : decode cX1_init 4 = .ok (.aload_n 0, 1) := by decide +kernel
theorem dX1_init_5 : decode cX1_init 5 = .ok (.bipush 120, 2) := by decide +kernel
theorem dX1_init_7 : decode cX1_init 7 = .ok (.newarray .int, 2) := by decide +kernel
theorem dX1_init_9 : decode cX1_init 9 = .ok (.putfield 9, 3) := by decide +kernel
theorem dX1_init_12 : decode cX1_init 12 = .ok (.aload_n 0, 1) := by decide +kernel
theorem dX1_init_13 : decode cX1_init 13 = .ok (.iconst 0, 1) := by decide +kernel
theorem dX1_init_14 : decode cX1_init 14 = .ok (.putfield 15, 3) := by decide +kernel
theorem dX1_init_17 : decode cX1_init 17 = .ok (.aload_n 0, 1) := by decide +kernel
theorem dX1_init_18 : decode cX1_init 18 = .ok (.iconst (-1), 1) := by decide +kernel
theorem dX1_init_19 : decode cX1_init 19 = .ok (.putfield 19, 3) := by decide +kernel
theorem dX1_init_22 : decode cX1_init 22 = .ok (.aload_n 0, 1) := by decide +kernel
theorem dX1_init_23 : decode cX1_init 23 = .ok (.iconst 3, 1) := by decide +kernel
theorem dX1_init_24 : decode cX1_init 24 = .ok (.putfield 22, 3) := by decide +kernel
theorem dX1_init_27 : decode cX1_init 27 = .ok (.aload_n 0, 1) := by decide +kernel
theorem dX1_init_28 : decode cX1_init 28 = .ok (.iconst 0, 1) := by decide +kernel
theorem dX1_init_29 : decode cX1_init 29 = .ok (.putfield 25, 3) := by decide +kernel
theorem dX1_init_32 : decode cX1_init 32 = .ok (.aload_n 0, 1) := by decide +kernel
theorem dX1_init_33 : decode cX1_init 33 = .ok (.iconst 0, 1) := by decide +kernel
theorem dX1_init_34 : decode cX1_init 34 = .ok (.putfield 28, 3) := by decide +kernel
theorem dX1_init_37 : decode cX1_init 37 = .ok (.aload_n 0, 1) := by decide +kernel
theorem dX1_init_38 : decode cX1_init 38 = .ok (.iconst 0, 1) := by decide +kernel
theorem dX1_init_39 : decode cX1_init 39 = .ok (.putfield 31, 3) := by decide +kernel
theorem dX1_init_42 : decode cX1_init 42 = .ok (.return_, 1) := by decide +kernel
theorem dX1_append_0 : decode cX1_append 0 = .ok (.aload_n 0, 1) := by decide +kernel
theorem dX1_append_1 : decode cX1_append 1 = .ok (.getfield 9, 3) := by decide +kernel
theorem dX1_append_4 : decode cX1_append 4 = .ok (.aload_n 0, 1) := by decide +kernel
theorem dX1_append_5 : decode cX1_append 5 = .ok (.getfield 15, 3) := by decide +kernel
theorem dX1_append_8 : decode cX1_append 8 = .ok (.iload_n 1, 1) := by decide +kernel
theorem dX1_append_9 : decode cX1_append 9 = .ok (.sipush 255, 3) := by decide +kernel
theorem dX1_append_12 : decode cX1_append 12 = .ok (.iand, 1) := by decide +kernel
theorem dX1_append_13 : decode cX1_append 13 = .ok (.iastore, 1) := by decide +kernel
theorem dX1_append_14 : decode cX1_append 14 = .ok (.aload_n 0, 1) := by decide +kernel
theorem dX1_append_15 : decode cX1_append 15 = .ok (.dup, 1) := by decide +kernel
theorem dX1_append_16 : decode cX1_append 16 = .ok (.getfield 15, 3) := by decide +kernel
theorem dX1_append_19 : decode cX1_append 19 = .ok (.iconst 1, 1) := by decide +kernel
theorem dX1_append_20 : decode cX1_append 20 = .ok (.iadd, 1) := by decide +kernel
theorem dX1_append_21 : decode cX1_append 21 = .ok (.putfield 15, 3) := by decide +kernel
theorem dX1_append_24 : decode cX1_append 24 = .ok (.return_, 1) := by decide +kernel
theorem dX1_tellTo_0 : decode cX1_tellTo 0 = .ok (.aload_n 0, 1) := by decide +kernel
theorem dX1_tellTo_1 : decode cX1_tellTo 1 = .ok (.iconst (-1), 1) := by decide +kernel
theorem dX1_tellTo_2 : decode cX1_tellTo 2 = .ok (.putfield 19, 3) := by decide +kernel
theorem dX1_tellTo_5 : decode cX1_tellTo 5 = .ok (.aload_n 0, 1) := by decide +kernel
theorem dX1_tellTo_6 : decode cX1_tellTo 6 = .ok (.iconst 0, 1) := by decide +kernel
theorem dX1_tellTo_7 : decode cX1_tellTo 7 = .ok (.putfield 28, 3) := by decide +kernel
theorem dX1_tellTo_10 : decode cX1_tellTo 10 = .ok (.aload_n 0, 1) := by decide +kernel
theorem dX1_tellTo_11 : decode cX1_tellTo 11 = .ok (.invokevirtual 34, 3) := by decide +kernel
theorem dX1_tellTo_14 : decode cX1_tellTo 14 = .ok (.iconst 0, 1) := by decide +kernel
theorem dX1_tellTo_15 : decode cX1_tellTo 15 = .ok (.istore_n 2, 1) := by decide +kernel
theorem dX1_tellTo_16 : decode cX1_tellTo 16 = .ok (.iconst 1, 1) := by decide +kernel
theorem dX1_tellTo_17 : decode cX1_tellTo 17 = .ok (.istore_n 3, 1) := by decide +kernel
theorem dX1_tellTo_18 : decode cX1_tellTo 18 = .ok (.iload_n 3, 1) := by decide +kernel
theorem dX1_tellTo_19 : decode cX1_tellTo 19 = .ok (.ifCond .eq 64, 3) := by decide +kernel
theorem dX1_tellTo_22 : decode cX1_tellTo 22 = .ok (.iload_n 2, 1) := by decide +kernel
theorem dX1_tellTo_23 : decode cX1_tellTo 23 = .ok (.bipush 120, 2) := by decide +kernel
theorem dX1_tellTo_25 : decode cX1_tellTo 25 = .ok (.if_icmp .ge 58, 3) := by decide +kernel
theorem dX1_tellTo_28 : decode cX1_tellTo 28 = .ok (.aload_n 0, 1) := by decide +kernel
theorem dX1_tellTo_29 : decode cX1_tellTo 29 = .ok (.aload_n 1, 1) := by decide +kernel
theorem dX1_tellTo_30 : decode cX1_tellTo 30 = .ok (.invokevirtual 37, 3) := by decide +kernel
theorem dX1_tellTo_33 : decode cX1_tellTo 33 = .ok (.iinc 2 1, 3) := by decide +kernel
theorem dX1_tellTo_36 : decode cX1_tellTo 36 = .ok (.aload_n 0, 1) := by decide +kernel
theorem dX1_tellTo_37 : decode cX1_tellTo 37 = .ok (.getfield 19, 3) := by decide +kernel
theorem dX1_tellTo_40 : decode cX1_tellTo 40 = .ok (.ifCond .ge 15, 3) := by decide +kernel
theorem dX1_tellTo_43 : decode cX1_tellTo 43 = .ok (.aload_n 0, 1) := by decide +kernel
theorem dX1_tellTo_44 : decode cX1_tellTo 44 = .ok (.getfield 22, 3) := by decide +kernel
theorem dX1_tellTo_47 : decode cX1_tellTo 47 = .ok (.iconst 2, 1) := by decide +kernel
theorem dX1_tellTo_48 : decode cX1_tellTo 48 = .ok (.if_icmp .ne 7, 3) := by decide +kernel
theorem dX1_tellTo_51 : decode cX1_tellTo 51 = .ok (.iconst 1, 1) := by decide +kernel
theorem dX1_tellTo_52 : decode cX1_tellTo 52 = .ok (.goto 4, 3) := by decide +kernel
theorem dX1_tellTo_55 : decode cX1_tellTo 55 = .ok (.iconst 0, 1) := by decide +kernel
theorem dX1_tellTo_56 : decode cX1_tellTo 56 = .ok (.istore_n 3, 1) := by decide +kernel
theorem dX1_tellTo_57 : decode cX1_tellTo 57 = .ok (.iload_n 3, 1) := by decide +kernel
theorem dX1_tellTo_58 : decode cX1_tellTo 58 = .ok (.ifCond .eq 10, 3) := by decide +kernel
theorem dX1_tellTo_61 : decode cX1_tellTo 61 = .ok (.aload_n 0, 1) := by decide +kernel
theorem dX1_tellTo_62 : decode cX1_tellTo 62 = .ok (.invokevirtual 34, 3) := by decide +kernel
theorem dX1_tellTo_65 : decode cX1_tellTo 65 = .ok (.goto (-47), 3) := by decide +kernel
theorem dX1_tellTo_68 : decode cX1_tellTo 68 = .ok (.aload_n 0, 1) := by decide +kernel
theorem dX1_tellTo_69 : decode cX1_tellTo 69 = .ok (.getfield 22, 3) := by decide +kernel
theorem dX1_tellTo_72 : decode cX1_tellTo 72 = .ok (.iconst 3, 1) := by decide +kernel
theorem dX1_tellTo_73 : decode cX1_tellTo 73 = .ok (.if_icmp .eq (-55), 3) := by decide +kernel
theorem dX1_tellTo_76 : decode cX1_tellTo 76 = .ok (.aload_n 0, 1) := by decide +kernel
theorem dX1_tellTo_77 : decode cX1_tellTo 77 = .ok (.invokevirtual 41, 3) := by decide +kernel
theorem dX1_tellTo_80 : decode cX1_tellTo 80 = .ok (.goto (-62), 3) := by decide +kernel
theorem dX1_tellTo_83 : decode cX1_tellTo 83 = .ok (.iload_n 2, 1) := by decide +kernel
theorem dX1_tellTo_84 : decode cX1_tellTo 84 = .ok (.ireturn, 1) := by decide +kernel
theorem dX1_tellItem_0 : decode cX1_tellItem 0 = .ok (.aload_n 0, 1) := by decide +kernel
theorem dX1_tellItem_1 : decode cX1_tellItem 1 = .ok (.invokevirtual 44, 3) := by decide +kernel
theorem dX1_tellItem_4 : decode cX1_tellItem 4 = .ok (.istore_n 2, 1) := by decide +kernel
theorem dX1_tellItem_5 : decode cX1_tellItem 5 = .ok (.iload_n 2, 1) := by decide +kernel
theorem dX1_tellItem_6 : decode cX1_tellItem 6 = .ok (.ifCond .lt 12, 3) := by decide +kernel
theorem dX1_tellItem_9 : decode cX1_tellItem 9 = .ok (.aload_n 0, 1) := by decide +kernel
theorem dX1_tellItem_10 : decode cX1_tellItem 10 = .ok (.aload_n 1, 1) := by decide +kernel
theorem dX1_tellItem_11 : decode cX1_tellItem 11 = .ok (.iload_n 2, 1) := by decide +kernel
theorem dX1_tellItem_12 : decode cX1_tellItem 12 = .ok (.invokevirtual 48, 3) := by decide +kernel
theorem dX1_tellItem_15 : decode cX1_tellItem 15 = .ok (.goto 63, 3) := by decide +kernel
theorem dX1_tellItem_18 : decode cX1_tellItem 18 = .ok (.aload_n 0, 1) := by decide +kernel
theorem dX1_tellItem_19 : decode cX1_tellItem 19 = .ok (.ldc 52, 2) := by decide +kernel
theorem dX1_tellItem_21 : decode cX1_tellItem 21 = .ok (.invokevirtual 54, 3) := by decide +kernel
theorem dX1_tellItem_24 : decode cX1_tellItem 24 = .ok (.ifCond .eq 11, 3) := by decide +kernel
theorem dX1_tellItem_27 : decode cX1_tellItem 27 = .ok (.aload_n 0, 1) := by decide +kernel
theorem dX1_tellItem_28 : decode cX1_tellItem 28 = .ok (.aload_n 1, 1) := by decide +kernel
theorem dX1_tellItem_29 : decode cX1_tellItem 29 = .ok (.invokevirtual 58, 3) := by decide +kernel
theorem dX1_tellItem_32 : decode cX1_tellItem 32 = .ok (.goto 46, 3) := by decide +kernel
theorem dX1_tellItem_35 : decode cX1_tellItem 35 = .ok (.aload_n 0, 1) := by decide +kernel
theorem dX1_tellItem_36 : decode cX1_tellItem 36 = .ok (.ldc 61, 2) := by decide +kernel
theorem dX1_tellItem_38 : decode cX1_tellItem 38 = .ok (.invokevirtual 54, 3) := by decide +kernel
theorem dX1_tellItem_41 : decode cX1_tellItem 41 = .ok (.ifCond .eq 11, 3) := by decide +kernel
theorem dX1_tellItem_44 : decode cX1_tellItem 44 = .ok (.aload_n 0, 1) := by decide +kernel
theorem dX1_tellItem_45 : decode cX1_tellItem 45 = .ok (.aload_n 1, 1) := by decide +kernel
theorem dX1_tellItem_46 : decode cX1_tellItem 46 = .ok (.invokevirtual 63, 3) := by decide +kernel
theorem dX1_tellItem_49 : decode cX1_tellItem 49 = .ok (.goto 29, 3) := by decide +kernel
theorem dX1_tellItem_52 : decode cX1_tellItem 52 = .ok (.aload_n 0, 1) := by decide +kernel
theorem dX1_tellItem_53 : decode cX1_tellItem 53 = .ok (.ldc 66, 2) := by decide +kernel
theorem dX1_tellItem_55 : decode cX1_tellItem 55 = .ok (.invokevirtual 54, 3) := by decide +kernel
theorem dX1_tellItem_58 : decode cX1_tellItem 58 = .ok (.ifCond .eq 16, 3) := by decide +kernel
theorem dX1_tellItem_61 : decode cX1_tellItem 61 = .ok (.aload_n 1, 1) := by decide +kernel
theorem dX1_tellItem_62 : decode cX1_tellItem 62 = .ok (.aload_n 0, 1) := by decide +kernel
theorem dX1_tellItem_63 : decode cX1_tellItem 63 = .ok (.bipush 40, 2) := by decide +kernel
theorem dX1_tellItem_65 : decode cX1_tellItem 65 = .ok (.invokevirtual 68, 3) := by decide +kernel
theorem dX1_tellItem_68 : decode cX1_tellItem 68 = .ok (.putfield 72, 3) := by decide +kernel
theorem dX1_tellItem_71 : decode cX1_tellItem 71 = .ok (.goto 7, 3) := by decide +kernel
theorem dX1_tellItem_74 : decode cX1_tellItem 74 = .ok (.aload_n 0, 1) := by decide +kernel
theorem dX1_tellItem_75 : decode cX1_tellItem 75 = .ok (.invokevirtual 41, 3) := by decide +kernel
theorem dX1_tellItem_78 : decode cX1_tellItem 78 = .ok (.return_, 1) := by decide +kernel
theorem dX1_tellPerson_0 : decode cX1_tellPerson 0 = .ok (.aload_n 1, 1) := by decide +kernel
theorem dX1_tellPerson_1 : decode cX1_tellPerson 1 = .ok (.getfield 76, 3) := by decide +kernel
theorem dX1_tellPerson_4 : decode cX1_tellPerson 4 = .ok (.bipush 8, 2) := by decide +kernel
theorem dX1_tellPerson_6 : decode cX1_tellPerson 6 = .ok (.if_icmp .lt 8, 3) := by decide +kernel
theorem dX1_tellPerson_9 : decode cX1_tellPerson 9 = .ok (.aload_n 0, 1) := by decide +kernel
theorem dX1_tellPerson_10 : decode cX1_tellPerson 10 = .ok (.invokevirtual 41, 3) := by decide +kernel
theorem dX1_tellPerson_13 : decode cX1_tellPerson 13 = .ok (.return_, 1) := by decide +kernel
theorem dX1_tellPerson_14 : decode cX1_tellPerson 14 = .ok (.aload_n 0, 1) := by decide +kernel
theorem dX1_tellPerson_15 : decode cX1_tellPerson 15 = .ok (.invokevirtual 34, 3) := by decide +kernel
theorem dX1_tellPerson_18 : decode cX1_tellPerson 18 = .ok (.aload_n 1, 1) := by decide +kernel
theorem dX1_tellPerson_19 : decode cX1_tellPerson 19 = .ok (.iload_n 2, 1) := by decide +kernel
theorem dX1_tellPerson_20 : decode cX1_tellPerson 20 = .ok (.invokevirtual 79, 3) := by decide +kernel
theorem dX1_tellPerson_23 : decode cX1_tellPerson 23 = .ok (.istore_n 3, 1) := by decide +kernel
theorem dX1_tellPerson_24 : decode cX1_tellPerson 24 = .ok (.aload_n 0, 1) := by decide +kernel
theorem dX1_tellPerson_25 : decode cX1_tellPerson 25 = .ok (.ldc 82, 2) := by decide +kernel
theorem dX1_tellPerson_27 : decode cX1_tellPerson 27 = .ok (.invokevirtual 54, 3) := by decide +kernel
theorem dX1_tellPerson_30 : decode cX1_tellPerson 30 = .ok (.ifCond .eq 15, 3) := by decide +kernel
theorem dX1_tellPerson_33 : decode cX1_tellPerson 33 = .ok (.aload_n 1, 1) := by decide +kernel
theorem dX1_tellPerson_34 : decode cX1_tellPerson 34 = .ok (.getfield 84, 3) := by decide +kernel
theorem dX1_tellPerson_37 : decode cX1_tellPerson 37 = .ok (.iload_n 3, 1) := by decide +kernel
theorem dX1_tellPerson_38 : decode cX1_tellPerson 38 = .ok (.aload_n 0, 1) := by decide +kernel
theorem dX1_tellPerson_39 : decode cX1_tellPerson 39 = .ok (.bipush 9, 2) := by decide +kernel
theorem dX1_tellPerson_41 : decode cX1_tellPerson 41 = .ok (.invokevirtual 68, 3) := by decide +kernel
theorem dX1_tellPerson_44 : decode cX1_tellPerson 44 = .ok (.iastore, 1) := by decide +kernel
theorem dX1_tellPerson_45 : decode cX1_tellPerson 45 = .ok (.aload_n 0, 1) := by decide +kernel
theorem dX1_tellPerson_46 : decode cX1_tellPerson 46 = .ok (.ldc 87, 2) := by decide +kernel
theorem dX1_tellPerson_48 : decode cX1_tellPerson 48 = .ok (.invokevirtual 54, 3) := by decide +kernel
theorem dX1_tellPerson_51 : decode cX1_tellPerson 51 = .ok (.ifCond .eq 15, 3) := by decide +kernel
theorem dX1_tellPerson_54 : decode cX1_tellPerson 54 = .ok (.aload_n 1, 1) := by decide +kernel
theorem dX1_tellPerson_55 : decode cX1_tellPerson 55 = .ok (.getfield 89, 3) := by decide +kernel
theorem dX1_tellPerson_58 : decode cX1_tellPerson 58 = .ok (.iload_n 3, 1) := by decide +kernel
theorem dX1_tellPerson_59 : decode cX1_tellPerson 59 = .ok (.aload_n 0, 1) := by decide +kernel
theorem dX1_tellPerson_60 : decode cX1_tellPerson 60 = .ok (.bipush 99, 2) := by decide +kernel
theorem dX1_tellPerson_62 : decode cX1_tellPerson 62 = .ok (.invokevirtual 68, 3) := by decide +kernel
theorem dX1_tellPerson_65 : decode cX1_tellPerson 65 = .ok (.iastore, 1) := by decide +kernel
theorem dX1_tellPerson_66 : decode cX1_tellPerson 66 = .ok (.aload_n 0, 1) := by decide +kernel
theorem dX1_tellPerson_67 : decode cX1_tellPerson 67 = .ok (.ldc 92, 2) := by decide +kernel
theorem dX1_tellPerson_69 : decode cX1_tellPerson 69 = .ok (.invokevirtual 54, 3) := by decide +kernel
theorem dX1_tellPerson_72 : decode cX1_tellPerson 72 = .ok (.ifCond .eq 16, 3) := by decide +kernel
theorem dX1_tellPerson_75 : decode cX1_tellPerson 75 = .ok (.aload_n 1, 1) := by decide +kernel
theorem dX1_tellPerson_76 : decode cX1_tellPerson 76 = .ok (.getfield 94, 3) := by decide +kernel
theorem dX1_tellPerson_79 : decode cX1_tellPerson 79 = .ok (.iload_n 3, 1) := by decide +kernel
theorem dX1_tellPerson_80 : decode cX1_tellPerson 80 = .ok (.aload_n 0, 1) := by decide +kernel
theorem dX1_tellPerson_81 : decode cX1_tellPerson 81 = .ok (.sipush 9999, 3) := by decide +kernel
theorem dX1_tellPerson_84 : decode cX1_tellPerson 84 = .ok (.invokevirtual 68, 3) := by decide +kernel
theorem dX1_tellPerson_87 : decode cX1_tellPerson 87 = .ok (.iastore, 1) := by decide +kernel
theorem dX1_tellPerson_88 : decode cX1_tellPerson 88 = .ok (.return_, 1) := by decide +kernel
theorem dX1_tellLot_0 : decode cX1_tellLot 0 = .ok (.aload_n 0, 1) := by decide +kernel
theorem dX1_tellLot_1 : decode cX1_tellLot 1 = .ok (.bipush 9, 2) := by decide +kernel
theorem dX1_tellLot_3 : decode cX1_tellLot 3 = .ok (.invokevirtual 68, 3) := by decide +kernel
theorem dX1_tellLot_6 : decode cX1_tellLot 6 = .ok (.istore_n 2, 1) := by decide +kernel
theorem dX1_tellLot_7 : decode cX1_tellLot 7 = .ok (.iload_n 2, 1) := by decide +kernel
theorem dX1_tellLot_8 : decode cX1_tellLot 8 = .ok (.invokestatic 96, 3) := by decide +kernel
theorem dX1_tellLot_11 : decode cX1_tellLot 11 = .ok (.ifCond .ne 4, 3) := by decide +kernel
theorem dX1_tellLot_14 : decode cX1_tellLot 14 = .ok (.return_, 1) := by decide +kernel
theorem dX1_tellLot_15 : decode cX1_tellLot 15 = .ok (.aload_n 0, 1) := by decide +kernel
theorem dX1_tellLot_16 : decode cX1_tellLot 16 = .ok (.ldc 100, 2) := by decide +kernel
theorem dX1_tellLot_18 : decode cX1_tellLot 18 = .ok (.invokevirtual 54, 3) := by decide +kernel
theorem dX1_tellLot_21 : decode cX1_tellLot 21 = .ok (.ifCond .eq 15, 3) := by decide +kernel
theorem dX1_tellLot_24 : decode cX1_tellLot 24 = .ok (.aload_n 1, 1) := by decide +kernel
theorem dX1_tellLot_25 : decode cX1_tellLot 25 = .ok (.getfield 102, 3) := by decide +kernel
theorem dX1_tellLot_28 : decode cX1_tellLot 28 = .ok (.iload_n 2, 1) := by decide +kernel
theorem dX1_tellLot_29 : decode cX1_tellLot 29 = .ok (.aload_n 0, 1) := by decide +kernel
theorem dX1_tellLot_30 : decode cX1_tellLot 30 = .ok (.bipush 99, 2) := by decide +kernel
theorem dX1_tellLot_32 : decode cX1_tellLot 32 = .ok (.invokevirtual 68, 3) := by decide +kernel
theorem dX1_tellLot_35 : decode cX1_tellLot 35 = .ok (.iastore, 1) := by decide +kernel
theorem dX1_tellLot_36 : decode cX1_tellLot 36 = .ok (.aload_n 0, 1) := by decide +kernel
theorem dX1_tellLot_37 : decode cX1_tellLot 37 = .ok (.ldc 104, 2) := by decide +kernel
theorem dX1_tellLot_39 : decode cX1_tellLot 39 = .ok (.invokevirtual 54, 3) := by decide +kernel
theorem dX1_tellLot_42 : decode cX1_tellLot 42 = .ok (.ifCond .eq 15, 3) := by decide +kernel
theorem dX1_tellLot_45 : decode cX1_tellLot 45 = .ok (.aload_n 1, 1) := by decide +kernel
theorem dX1_tellLot_46 : decode cX1_tellLot 46 = .ok (.getfield 106, 3) := by decide +kernel
theorem dX1_tellLot_49 : decode cX1_tellLot 49 = .ok (.iload_n 2, 1) := by decide +kernel
theorem dX1_tellLot_50 : decode cX1_tellLot 50 = .ok (.aload_n 0, 1) := by decide +kernel
theorem dX1_tellLot_51 : decode cX1_tellLot 51 = .ok (.bipush 20, 2) := by decide +kernel
theorem dX1_tellLot_53 : decode cX1_tellLot 53 = .ok (.invokevirtual 68, 3) := by decide +kernel
theorem dX1_tellLot_56 : decode cX1_tellLot 56 = .ok (.iastore, 1) := by decide +kernel
theorem dX1_tellLot_57 : decode cX1_tellLot 57 = .ok (.aload_n 0, 1) := by decide +kernel
theorem dX1_tellLot_58 : decode cX1_tellLot 58 = .ok (.ldc 108, 2) := by decide +kernel
theorem dX1_tellLot_60 : decode cX1_tellLot 60 = .ok (.invokevirtual 54, 3) := by decide +kernel
theorem dX1_tellLot_63 : decode cX1_tellLot 63 = .ok (.ifCond .eq 19, 3) := by decide +kernel
theorem dX1_tellLot_66 : decode cX1_tellLot 66 = .ok (.aload_n 1, 1) := by decide +kernel
theorem dX1_tellLot_67 : decode cX1_tellLot 67 = .ok (.getfield 110, 3) := by decide +kernel
theorem dX1_tellLot_70 : decode cX1_tellLot 70 = .ok (.iload_n 2, 1) := by decide +kernel
theorem dX1_tellLot_71 : decode cX1_tellLot 71 = .ok (.aload_n 0, 1) := by decide +kernel
theorem dX1_tellLot_72 : decode cX1_tellLot 72 = .ok (.aload_n 1, 1) := by decide +kernel
theorem dX1_tellLot_73 : decode cX1_tellLot 73 = .ok (.getfield 76, 3) := by decide +kernel
theorem dX1_tellLot_76 : decode cX1_tellLot 76 = .ok (.iconst 1, 1) := by decide +kernel
theorem dX1_tellLot_77 : decode cX1_tellLot 77 = .ok (.isub, 1) := by decide +kernel
theorem dX1_tellLot_78 : decode cX1_tellLot 78 = .ok (.invokevirtual 68, 3) := by decide +kernel
theorem dX1_tellLot_81 : decode cX1_tellLot 81 = .ok (.iastore, 1) := by decide +kernel
theorem dX1_tellLot_82 : decode cX1_tellLot 82 = .ok (.return_, 1) := by decide +kernel
theorem dX1_tellSun_0 : decode cX1_tellSun 0 = .ok (.aload_n 0, 1) := by decide +kernel
theorem dX1_tellSun_1 : decode cX1_tellSun 1 = .ok (.iconst 5, 1) := by decide +kernel
theorem dX1_tellSun_2 : decode cX1_tellSun 2 = .ok (.invokevirtual 68, 3) := by decide +kernel
theorem dX1_tellSun_5 : decode cX1_tellSun 5 = .ok (.istore_n 2, 1) := by decide +kernel
theorem dX1_tellSun_6 : decode cX1_tellSun 6 = .ok (.aload_n 0, 1) := by decide +kernel
theorem dX1_tellSun_7 : decode cX1_tellSun 7 = .ok (.bipush 40, 2) := by decide +kernel
theorem dX1_tellSun_9 : decode cX1_tellSun 9 = .ok (.invokevirtual 68, 3) := by decide +kernel
theorem dX1_tellSun_12 : decode cX1_tellSun 12 = .ok (.istore_n 3, 1) := by decide +kernel
theorem dX1_tellSun_13 : decode cX1_tellSun 13 = .ok (.aload_n 0, 1) := by decide +kernel
theorem dX1_tellSun_14 : decode cX1_tellSun 14 = .ok (.getfield 19, 3) := by decide +kernel
theorem dX1_tellSun_17 : decode cX1_tellSun 17 = .ok (.ifCond .ge 10, 3) := by decide +kernel
theorem dX1_tellSun_20 : decode cX1_tellSun 20 = .ok (.aload_n 1, 1) := by decide +kernel
theorem dX1_tellSun_21 : decode cX1_tellSun 21 = .ok (.getfield 112, 3) := by decide +kernel
theorem dX1_tellSun_24 : decode cX1_tellSun 24 = .ok (.iload_n 2, 1) := by decide +kernel
theorem dX1_tellSun_25 : decode cX1_tellSun 25 = .ok (.iload_n 3, 1) := by decide +kernel
theorem dX1_tellSun_26 : decode cX1_tellSun 26 = .ok (.iastore, 1) := by decide +kernel
theorem dX1_tellSun_27 : decode cX1_tellSun 27 = .ok (.return_, 1) := by decide +kernel
theorem dX1_faultHere_0 : decode cX1_faultHere 0 = .ok (.aload_n 0, 1) := by decide +kernel
theorem dX1_faultHere_1 : decode cX1_faultHere 1 = .ok (.getfield 19, 3) := by decide +kernel
theorem dX1_faultHere_4 : decode cX1_faultHere 4 = .ok (.ifCond .ge 11, 3) := by decide +kernel
theorem dX1_faultHere_7 : decode cX1_faultHere 7 = .ok (.aload_n 0, 1) := by decide +kernel
theorem dX1_faultHere_8 : decode cX1_faultHere 8 = .ok (.aload_n 0, 1) := by decide +kernel
theorem dX1_faultHere_9 : decode cX1_faultHere 9 = .ok (.getfield 25, 3) := by decide +kernel
theorem dX1_faultHere_12 : decode cX1_faultHere 12 = .ok (.putfield 19, 3) := by decide +kernel
theorem dX1_faultHere_15 : decode cX1_faultHere 15 = .ok (.return_, 1) := by decide +kernel
theorem dX1_took_0 : decode cX1_took 0 = .ok (.aload_n 0, 1) := by decide +kernel
theorem dX1_took_1 : decode cX1_took 1 = .ok (.getfield 19, 3) := by decide +kernel
theorem dX1_took_4 : decode cX1_took 4 = .ok (.ifCond .ge 15, 3) := by decide +kernel
theorem dX1_took_7 : decode cX1_took 7 = .ok (.aload_n 0, 1) := by decide +kernel
theorem dX1_took_8 : decode cX1_took 8 = .ok (.aload_n 1, 1) := by decide +kernel
theorem dX1_took_9 : decode cX1_took 9 = .ok (.invokevirtual 115, 3) := by decide +kernel
theorem dX1_took_12 : decode cX1_took 12 = .ok (.ifCond .eq 7, 3) := by decide +kernel
theorem dX1_took_15 : decode cX1_took 15 = .ok (.iconst 1, 1) := by decide +kernel
theorem dX1_took_16 : decode cX1_took 16 = .ok (.goto 4, 3) := by decide +kernel
theorem dX1_took_19 : decode cX1_took 19 = .ok (.iconst 0, 1) := by decide +kernel
theorem dX1_took_20 : decode cX1_took 20 = .ok (.istore_n 2, 1) := by decide +kernel
theorem dX1_took_21 : decode cX1_took 21 = .ok (.iload_n 2, 1) := by decide +kernel
theorem dX1_took_22 : decode cX1_took 22 = .ok (.ifCond .eq 7, 3) := by decide +kernel
theorem dX1_took_25 : decode cX1_took 25 = .ok (.aload_n 0, 1) := by decide +kernel
theorem dX1_took_26 : decode cX1_took 26 = .ok (.invokevirtual 34, 3) := by decide +kernel
theorem dX1_took_29 : decode cX1_took 29 = .ok (.iload_n 2, 1) := by decide +kernel
theorem dX1_took_30 : decode cX1_took 30 = .ok (.ireturn, 1) := by decide +kernel
theorem dX1_takeNumber_0 : decode cX1_takeNumber 0 = .ok (.aload_n 0, 1) := by decide +kernel
theorem dX1_takeNumber_1 : decode cX1_takeNumber 1 = .ok (.getfield 19, 3) := by decide +kernel
theorem dX1_takeNumber_4 : decode cX1_takeNumber 4 = .ok (.ifCond .ge 19, 3) := by decide +kernel
theorem dX1_takeNumber_7 : decode cX1_takeNumber 7 = .ok (.aload_n 0, 1) := by decide +kernel
theorem dX1_takeNumber_8 : decode cX1_takeNumber 8 = .ok (.getfield 22, 3) := by decide +kernel
theorem dX1_takeNumber_11 : decode cX1_takeNumber 11 = .ok (.iconst 1, 1) := by decide +kernel
theorem dX1_takeNumber_12 : decode cX1_takeNumber 12 = .ok (.if_icmp .ne 11, 3) := by decide +kernel
theorem dX1_takeNumber_15 : decode cX1_takeNumber 15 = .ok (.aload_n 0, 1) := by decide +kernel
theorem dX1_takeNumber_16 : decode cX1_takeNumber 16 = .ok (.getfield 31, 3) := by decide +kernel
theorem dX1_takeNumber_19 : decode cX1_takeNumber 19 = .ok (.iload_n 1, 1) := by decide +kernel
theorem dX1_takeNumber_20 : decode cX1_takeNumber 20 = .ok (.if_icmp .le 9, 3) := by decide +kernel
theorem dX1_takeNumber_23 : decode cX1_takeNumber 23 = .ok (.aload_n 0, 1) := by decide +kernel
theorem dX1_takeNumber_24 : decode cX1_takeNumber 24 = .ok (.invokevirtual 41, 3) := by decide +kernel
theorem dX1_takeNumber_27 : decode cX1_takeNumber 27 = .ok (.iconst (-1), 1) := by decide +kernel
theorem dX1_takeNumber_28 : decode cX1_takeNumber 28 = .ok (.ireturn, 1) := by decide +kernel
theorem dX1_takeNumber_29 : decode cX1_takeNumber 29 = .ok (.aload_n 0, 1) := by decide +kernel
theorem dX1_takeNumber_30 : decode cX1_takeNumber 30 = .ok (.getfield 31, 3) := by decide +kernel
theorem dX1_takeNumber_33 : decode cX1_takeNumber 33 = .ok (.istore_n 2, 1) := by decide +kernel
theorem dX1_takeNumber_34 : decode cX1_takeNumber 34 = .ok (.aload_n 0, 1) := by decide +kernel
theorem dX1_takeNumber_35 : decode cX1_takeNumber 35 = .ok (.invokevirtual 34, 3) := by decide +kernel
theorem dX1_takeNumber_38 : decode cX1_takeNumber 38 = .ok (.iload_n 2, 1) := by decide +kernel
theorem dX1_takeNumber_39 : decode cX1_takeNumber 39 = .ok (.ireturn, 1) := by decide +kernel
theorem dX1_kindOfWord_0 : decode cX1_kindOfWord 0 = .ok (.aload_n 0, 1) := by decide +kernel
theorem dX1_kindOfWord_1 : decode cX1_kindOfWord 1 = .ok (.ldc 118, 2) := by decide +kernel
theorem dX1_kindOfWord_3 : decode cX1_kindOfWord 3 = .ok (.invokevirtual 115, 3) := by decide +kernel
theorem dX1_kindOfWord_6 : decode cX1_kindOfWord 6 = .ok (.ifCond .eq 5, 3) := by decide +kernel
theorem dX1_kindOfWord_9 : decode cX1_kindOfWord 9 = .ok (.iconst 0, 1) := by decide +kernel
theorem dX1_kindOfWord_10 : decode cX1_kindOfWord 10 = .ok (.ireturn, 1) := by decide +kernel
theorem dX1_kindOfWord_11 : decode cX1_kindOfWord 11 = .ok (.aload_n 0, 1) := by decide +kernel
theorem dX1_kindOfWord_12 : decode cX1_kindOfWord 12 = .ok (.ldc 120, 2) := by decide +kernel
theorem dX1_kindOfWord_14 : decode cX1_kindOfWord 14 = .ok (.invokevirtual 115, 3) := by decide +kernel
theorem dX1_kindOfWord_17 : decode cX1_kindOfWord 17 = .ok (.ifCond .eq 5, 3) := by decide +kernel
theorem dX1_kindOfWord_20 : decode cX1_kindOfWord 20 = .ok (.iconst 1, 1) := by decide +kernel
theorem dX1_kindOfWord_21 : decode cX1_kindOfWord 21 = .ok (.ireturn, 1) := by decide +kernel
theorem dX1_kindOfWord_22 : decode cX1_kindOfWord 22 = .ok (.aload_n 0, 1) := by decide +kernel
theorem dX1_kindOfWord_23 : decode cX1_kindOfWord 23 = .ok (.ldc 122, 2) := by decide +kernel
theorem dX1_kindOfWord_25 : decode cX1_kindOfWord 25 = .ok (.invokevirtual 115, 3) := by decide +kernel
theorem dX1_kindOfWord_28 : decode cX1_kindOfWord 28 = .ok (.ifCond .eq 5, 3) := by decide +kernel
theorem dX1_kindOfWord_31 : decode cX1_kindOfWord 31 = .ok (.iconst 2, 1) := by decide +kernel
theorem dX1_kindOfWord_32 : decode cX1_kindOfWord 32 = .ok (.ireturn, 1) := by decide +kernel
theorem dX1_kindOfWord_33 : decode cX1_kindOfWord 33 = .ok (.aload_n 0, 1) := by decide +kernel
theorem dX1_kindOfWord_34 : decode cX1_kindOfWord 34 = .ok (.ldc 124, 2) := by decide +kernel
theorem dX1_kindOfWord_36 : decode cX1_kindOfWord 36 = .ok (.invokevirtual 115, 3) := by decide +kernel
theorem dX1_kindOfWord_39 : decode cX1_kindOfWord 39 = .ok (.ifCond .eq 5, 3) := by decide +kernel
theorem dX1_kindOfWord_42 : decode cX1_kindOfWord 42 = .ok (.iconst 3, 1) := by decide +kernel
theorem dX1_kindOfWord_43 : decode cX1_kindOfWord 43 = .ok (.ireturn, 1) := by decide +kernel
theorem dX1_kindOfWord_44 : decode cX1_kindOfWord 44 = .ok (.aload_n 0, 1) := by decide +kernel
theorem dX1_kindOfWord_45 : decode cX1_kindOfWord 45 = .ok (.ldc 126, 2) := by decide +kernel
theorem dX1_kindOfWord_47 : decode cX1_kindOfWord 47 = .ok (.invokevirtual 115, 3) := by decide +kernel
theorem dX1_kindOfWord_50 : decode cX1_kindOfWord 50 = .ok (.ifCond .eq 5, 3) := by decide +kernel
theorem dX1_kindOfWord_53 : decode cX1_kindOfWord 53 = .ok (.iconst 4, 1) := by decide +kernel
theorem dX1_kindOfWord_54 : decode cX1_kindOfWord 54 = .ok (.ireturn, 1) := by decide +kernel
theorem dX1_kindOfWord_55 : decode cX1_kindOfWord 55 = .ok (.aload_n 0, 1) := by decide +kernel
theorem dX1_kindOfWord_56 : decode cX1_kindOfWord 56 = .ok (.ldc 128, 2) := by decide +kernel
theorem dX1_kindOfWord_58 : decode cX1_kindOfWord 58 = .ok (.invokevirtual 115, 3) := by decide +kernel
theorem dX1_kindOfWord_61 : decode cX1_kindOfWord 61 = .ok (.ifCond .eq 5, 3) := by decide +kernel
theorem dX1_kindOfWord_64 : decode cX1_kindOfWord 64 = .ok (.iconst 5, 1) := by decide +kernel
theorem dX1_kindOfWord_65 : decode cX1_kindOfWord 65 = .ok (.ireturn, 1) := by decide +kernel
theorem dX1_kindOfWord_66 : decode cX1_kindOfWord 66 = .ok (.aload_n 0, 1) := by decide +kernel
theorem dX1_kindOfWord_67 : decode cX1_kindOfWord 67 = .ok (.ldc 130, 2) := by decide +kernel
theorem dX1_kindOfWord_69 : decode cX1_kindOfWord 69 = .ok (.invokevirtual 115, 3) := by decide +kernel
theorem dX1_kindOfWord_72 : decode cX1_kindOfWord 72 = .ok (.ifCond .eq 8, 3) := by decide +kernel
theorem dX1_kindOfWord_75 : decode cX1_kindOfWord 75 = .ok (.bipush 6, 2) := by decide +kernel
theorem dX1_kindOfWord_77 : decode cX1_kindOfWord 77 = .ok (.goto 4, 3) := by decide +kernel
theorem dX1_kindOfWord_80 : decode cX1_kindOfWord 80 = .ok (.iconst (-1), 1) := by decide +kernel
theorem dX1_kindOfWord_81 : decode cX1_kindOfWord 81 = .ok (.ireturn, 1) := by decide +kernel
theorem dX1_isWord_0 : decode cX1_isWord 0 = .ok (.aload_n 0, 1) := by decide +kernel
theorem dX1_isWord_1 : decode cX1_isWord 1 = .ok (.getfield 22, 3) := by decide +kernel
theorem dX1_isWord_4 : decode cX1_isWord 4 = .ok (.ifCond .ne 19, 3) := by decide +kernel
theorem dX1_isWord_7 : decode cX1_isWord 7 = .ok (.aload_n 0, 1) := by decide +kernel
theorem dX1_isWord_8 : decode cX1_isWord 8 = .ok (.getfield 28, 3) := by decide +kernel
theorem dX1_isWord_11 : decode cX1_isWord 11 = .ok (.aload_n 0, 1) := by decide +kernel
theorem dX1_isWord_12 : decode cX1_isWord 12 = .ok (.getfield 25, 3) := by decide +kernel
theorem dX1_isWord_15 : decode cX1_isWord 15 = .ok (.isub, 1) := by decide +kernel
theorem dX1_isWord_16 : decode cX1_isWord 16 = .ok (.aload_n 1, 1) := by decide +kernel
theorem dX1_isWord_17 : decode cX1_isWord 17 = .ok (.invokevirtual 132, 3) := by decide +kernel
theorem dX1_isWord_20 : decode cX1_isWord 20 = .ok (.if_icmp .eq 5, 3) := by decide +kernel
theorem dX1_isWord_23 : decode cX1_isWord 23 = .ok (.iconst 0, 1) := by decide +kernel
theorem dX1_isWord_24 : decode cX1_isWord 24 = .ok (.ireturn, 1) := by decide +kernel
theorem dX1_isWord_25 : decode cX1_isWord 25 = .ok (.iconst 0, 1) := by decide +kernel
theorem dX1_isWord_26 : decode cX1_isWord 26 = .ok (.istore_n 2, 1) := by decide +kernel
theorem dX1_isWord_27 : decode cX1_isWord 27 = .ok (.iload_n 2, 1) := by decide +kernel
theorem dX1_isWord_28 : decode cX1_isWord 28 = .ok (.aload_n 1, 1) := by decide +kernel
theorem dX1_isWord_29 : decode cX1_isWord 29 = .ok (.invokevirtual 132, 3) := by decide +kernel
theorem dX1_isWord_32 : decode cX1_isWord 32 = .ok (.if_icmp .ge 30, 3) := by decide +kernel
theorem dX1_isWord_35 : decode cX1_isWord 35 = .ok (.aload_n 0, 1) := by decide +kernel
theorem dX1_isWord_36 : decode cX1_isWord 36 = .ok (.getfield 9, 3) := by decide +kernel
theorem dX1_isWord_39 : decode cX1_isWord 39 = .ok (.aload_n 0, 1) := by decide +kernel
theorem dX1_isWord_40 : decode cX1_isWord 40 = .ok (.getfield 25, 3) := by decide +kernel
theorem dX1_isWord_43 : decode cX1_isWord 43 = .ok (.iload_n 2, 1) := by decide +kernel
theorem dX1_isWord_44 : decode cX1_isWord 44 = .ok (.iadd, 1) := by decide +kernel
theorem dX1_isWord_45 : decode cX1_isWord 45 = .ok (.iaload, 1) := by decide +kernel
theorem dX1_isWord_46 : decode cX1_isWord 46 = .ok (.aload_n 1, 1) := by decide +kernel
theorem dX1_isWord_47 : decode cX1_isWord 47 = .ok (.iload_n 2, 1) := by decide +kernel
theorem dX1_isWord_48 : decode cX1_isWord 48 = .ok (.invokevirtual 136, 3) := by decide +kernel
theorem dX1_isWord_51 : decode cX1_isWord 51 = .ok (.if_icmp .eq 5, 3) := by decide +kernel
theorem dX1_isWord_54 : decode cX1_isWord 54 = .ok (.iconst 0, 1) := by decide +kernel
theorem dX1_isWord_55 : decode cX1_isWord 55 = .ok (.ireturn, 1) := by decide +kernel
theorem dX1_isWord_56 : decode cX1_isWord 56 = .ok (.iinc 2 1, 3) := by decide +kernel
theorem dX1_isWord_59 : decode cX1_isWord 59 = .ok (.goto (-32), 3) := by decide +kernel
theorem dX1_isWord_62 : decode cX1_isWord 62 = .ok (.iconst 1, 1) := by decide +kernel
theorem dX1_isWord_63 : decode cX1_isWord 63 = .ok (.ireturn, 1) := by decide +kernel
theorem dX1_nextToken_0 : decode cX1_nextToken 0 = .ok (.aload_n 0, 1) := by decide +kernel
theorem dX1_nextToken_1 : decode cX1_nextToken 1 = .ok (.aload_n 0, 1) := by decide +kernel
theorem dX1_nextToken_2 : decode cX1_nextToken 2 = .ok (.getfield 28, 3) := by decide +kernel
theorem dX1_nextToken_5 : decode cX1_nextToken 5 = .ok (.putfield 25, 3) := by decide +kernel
theorem dX1_nextToken_8 : decode cX1_nextToken 8 = .ok (.aload_n 0, 1) := by decide +kernel
theorem dX1_nextToken_9 : decode cX1_nextToken 9 = .ok (.getfield 25, 3) := by decide +kernel
theorem dX1_nextToken_12 : decode cX1_nextToken 12 = .ok (.aload_n 0, 1) := by decide +kernel
theorem dX1_nextToken_13 : decode cX1_nextToken 13 = .ok (.getfield 15, 3) := by decide +kernel
theorem dX1_nextToken_16 : decode cX1_nextToken 16 = .ok (.if_icmp .ge 30, 3) := by decide +kernel
theorem dX1_nextToken_19 : decode cX1_nextToken 19 = .ok (.aload_n 0, 1) := by decide +kernel
theorem dX1_nextToken_20 : decode cX1_nextToken 20 = .ok (.getfield 9, 3) := by decide +kernel
theorem dX1_nextToken_23 : decode cX1_nextToken 23 = .ok (.aload_n 0, 1) := by decide +kernel
theorem dX1_nextToken_24 : decode cX1_nextToken 24 = .ok (.getfield 25, 3) := by decide +kernel
theorem dX1_nextToken_27 : decode cX1_nextToken 27 = .ok (.iaload, 1) := by decide +kernel
theorem dX1_nextToken_28 : decode cX1_nextToken 28 = .ok (.bipush 32, 2) := by decide +kernel
theorem dX1_nextToken_30 : decode cX1_nextToken 30 = .ok (.if_icmp .ne 16, 3) := by decide +kernel
theorem dX1_nextToken_33 : decode cX1_nextToken 33 = .ok (.aload_n 0, 1) := by decide +kernel
theorem dX1_nextToken_34 : decode cX1_nextToken 34 = .ok (.dup, 1) := by decide +kernel
theorem dX1_nextToken_35 : decode cX1_nextToken 35 = .ok (.getfield 25, 3) := by decide +kernel
theorem dX1_nextToken_38 : decode cX1_nextToken 38 = .ok (.iconst 1, 1) := by decide +kernel
theorem dX1_nextToken_39 : decode cX1_nextToken 39 = .ok (.iadd, 1) := by decide +kernel
theorem dX1_nextToken_40 : decode cX1_nextToken 40 = .ok (.putfield 25, 3) := by decide +kernel
theorem dX1_nextToken_43 : decode cX1_nextToken 43 = .ok (.goto (-35), 3) := by decide +kernel
theorem dX1_nextToken_46 : decode cX1_nextToken 46 = .ok (.aload_n 0, 1) := by decide +kernel
theorem dX1_nextToken_47 : decode cX1_nextToken 47 = .ok (.aload_n 0, 1) := by decide +kernel
theorem dX1_nextToken_48 : decode cX1_nextToken 48 = .ok (.getfield 25, 3) := by decide +kernel
theorem dX1_nextToken_51 : decode cX1_nextToken 51 = .ok (.putfield 28, 3) := by decide +kernel
theorem dX1_nextToken_54 : decode cX1_nextToken 54 = .ok (.aload_n 0, 1) := by decide +kernel
theorem dX1_nextToken_55 : decode cX1_nextToken 55 = .ok (.getfield 25, 3) := by decide +kernel
theorem dX1_nextToken_58 : decode cX1_nextToken 58 = .ok (.aload_n 0, 1) := by decide +kernel
theorem dX1_nextToken_59 : decode cX1_nextToken 59 = .ok (.getfield 15, 3) := by decide +kernel
theorem dX1_nextToken_62 : decode cX1_nextToken 62 = .ok (.if_icmp .lt 11, 3) := by decide +kernel
theorem dX1_nextToken_65 : decode cX1_nextToken 65 = .ok (.aload_n 0, 1) := by decide +kernel
theorem dX1_nextToken_66 : decode cX1_nextToken 66 = .ok (.iconst 3, 1) := by decide +kernel
theorem dX1_nextToken_67 : decode cX1_nextToken 67 = .ok (.putfield 22, 3) := by decide +kernel
theorem dX1_nextToken_70 : decode cX1_nextToken 70 = .ok (.goto 80, 3) := by decide +kernel
theorem dX1_nextToken_73 : decode cX1_nextToken 73 = .ok (.aload_n 0, 1) := by decide +kernel
theorem dX1_nextToken_74 : decode cX1_nextToken 74 = .ok (.getfield 9, 3) := by decide +kernel
theorem dX1_nextToken_77 : decode cX1_nextToken 77 = .ok (.aload_n 0, 1) := by decide +kernel
theorem dX1_nextToken_78 : decode cX1_nextToken 78 = .ok (.getfield 25, 3) := by decide +kernel
theorem dX1_nextToken_81 : decode cX1_nextToken 81 = .ok (.iaload, 1) := by decide +kernel
theorem dX1_nextToken_82 : decode cX1_nextToken 82 = .ok (.invokestatic 140, 3) := by decide +kernel
theorem dX1_nextToken_85 : decode cX1_nextToken 85 = .ok (.ifCond .eq 10, 3) := by decide +kernel
theorem dX1_nextToken_88 : decode cX1_nextToken 88 = .ok (.aload_n 0, 1) := by decide +kernel
theorem dX1_nextToken_89 : decode cX1_nextToken 89 = .ok (.invokevirtual 143, 3) := by decide +kernel
theorem dX1_nextToken_92 : decode cX1_nextToken 92 = .ok (.goto 58, 3) := by decide +kernel
theorem dX1_nextToken_95 : decode cX1_nextToken 95 = .ok (.aload_n 0, 1) := by decide +kernel
theorem dX1_nextToken_96 : decode cX1_nextToken 96 = .ok (.getfield 9, 3) := by decide +kernel
theorem dX1_nextToken_99 : decode cX1_nextToken 99 = .ok (.aload_n 0, 1) := by decide +kernel
theorem dX1_nextToken_100 : decode cX1_nextToken 100 = .ok (.getfield 25, 3) := by decide +kernel
theorem dX1_nextToken_103 : decode cX1_nextToken 103 = .ok (.iaload, 1) := by decide +kernel
theorem dX1_nextToken_104 : decode cX1_nextToken 104 = .ok (.invokestatic 146, 3) := by decide +kernel
theorem dX1_nextToken_107 : decode cX1_nextToken 107 = .ok (.ifCond .eq 10, 3) := by decide +kernel
theorem dX1_nextToken_110 : decode cX1_nextToken 110 = .ok (.aload_n 0, 1) := by decide +kernel
theorem dX1_nextToken_111 : decode cX1_nextToken 111 = .ok (.invokevirtual 149, 3) := by decide +kernel
theorem dX1_nextToken_114 : decode cX1_nextToken 114 = .ok (.goto 36, 3) := by decide +kernel
theorem dX1_nextToken_117 : decode cX1_nextToken 117 = .ok (.aload_n 0, 1) := by decide +kernel
theorem dX1_nextToken_118 : decode cX1_nextToken 118 = .ok (.aload_n 0, 1) := by decide +kernel
theorem dX1_nextToken_119 : decode cX1_nextToken 119 = .ok (.getfield 9, 3) := by decide +kernel
theorem dX1_nextToken_122 : decode cX1_nextToken 122 = .ok (.aload_n 0, 1) := by decide +kernel
theorem dX1_nextToken_123 : decode cX1_nextToken 123 = .ok (.getfield 25, 3) := by decide +kernel
theorem dX1_nextToken_126 : decode cX1_nextToken 126 = .ok (.iaload, 1) := by decide +kernel
theorem dX1_nextToken_127 : decode cX1_nextToken 127 = .ok (.bipush 59, 2) := by decide +kernel
theorem dX1_nextToken_129 : decode cX1_nextToken 129 = .ok (.if_icmp .ne 7, 3) := by decide +kernel
theorem dX1_nextToken_132 : decode cX1_nextToken 132 = .ok (.iconst 2, 1) := by decide +kernel
theorem dX1_nextToken_133 : decode cX1_nextToken 133 = .ok (.goto 4, 3) := by decide +kernel
theorem dX1_nextToken_136 : decode cX1_nextToken 136 = .ok (.iconst 4, 1) := by decide +kernel
theorem dX1_nextToken_137 : decode cX1_nextToken 137 = .ok (.putfield 22, 3) := by decide +kernel
theorem dX1_nextToken_140 : decode cX1_nextToken 140 = .ok (.aload_n 0, 1) := by decide +kernel
theorem dX1_nextToken_141 : decode cX1_nextToken 141 = .ok (.aload_n 0, 1) := by decide +kernel
theorem dX1_nextToken_142 : decode cX1_nextToken 142 = .ok (.getfield 25, 3) := by decide +kernel
theorem dX1_nextToken_145 : decode cX1_nextToken 145 = .ok (.iconst 1, 1) := by decide +kernel
theorem dX1_nextToken_146 : decode cX1_nextToken 146 = .ok (.iadd, 1) := by decide +kernel
theorem dX1_nextToken_147 : decode cX1_nextToken 147 = .ok (.putfield 28, 3) := by decide +kernel
theorem dX1_nextToken_150 : decode cX1_nextToken 150 = .ok (.return_, 1) := by decide +kernel
theorem dX1_readWord_0 : decode cX1_readWord 0 = .ok (.aload_n 0, 1) := by decide +kernel
theorem dX1_readWord_1 : decode cX1_readWord 1 = .ok (.iconst 0, 1) := by decide +kernel
theorem dX1_readWord_2 : decode cX1_readWord 2 = .ok (.putfield 22, 3) := by decide +kernel
theorem dX1_readWord_5 : decode cX1_readWord 5 = .ok (.aload_n 0, 1) := by decide +kernel
theorem dX1_readWord_6 : decode cX1_readWord 6 = .ok (.getfield 28, 3) := by decide +kernel
theorem dX1_readWord_9 : decode cX1_readWord 9 = .ok (.aload_n 0, 1) := by decide +kernel
theorem dX1_readWord_10 : decode cX1_readWord 10 = .ok (.getfield 15, 3) := by decide +kernel
theorem dX1_readWord_13 : decode cX1_readWord 13 = .ok (.if_icmp .ge 31, 3) := by decide +kernel
theorem dX1_readWord_16 : decode cX1_readWord 16 = .ok (.aload_n 0, 1) := by decide +kernel
theorem dX1_readWord_17 : decode cX1_readWord 17 = .ok (.getfield 9, 3) := by decide +kernel
theorem dX1_readWord_20 : decode cX1_readWord 20 = .ok (.aload_n 0, 1) := by decide +kernel
theorem dX1_readWord_21 : decode cX1_readWord 21 = .ok (.getfield 28, 3) := by decide +kernel
theorem dX1_readWord_24 : decode cX1_readWord 24 = .ok (.iaload, 1) := by decide +kernel
theorem dX1_readWord_25 : decode cX1_readWord 25 = .ok (.invokestatic 140, 3) := by decide +kernel
theorem dX1_readWord_28 : decode cX1_readWord 28 = .ok (.ifCond .eq 16, 3) := by decide +kernel
theorem dX1_readWord_31 : decode cX1_readWord 31 = .ok (.aload_n 0, 1) := by decide +kernel
theorem dX1_readWord_32 : decode cX1_readWord 32 = .ok (.dup, 1) := by decide +kernel
theorem dX1_readWord_33 : decode cX1_readWord 33 = .ok (.getfield 28, 3) := by decide +kernel
theorem dX1_readWord_36 : decode cX1_readWord 36 = .ok (.iconst 1, 1) := by decide +kernel
theorem dX1_readWord_37 : decode cX1_readWord 37 = .ok (.iadd, 1) := by decide +kernel
theorem dX1_readWord_38 : decode cX1_readWord 38 = .ok (.putfield 28, 3) := by decide +kernel
theorem dX1_readWord_41 : decode cX1_readWord 41 = .ok (.goto (-36), 3) := by decide +kernel
theorem dX1_readWord_44 : decode cX1_readWord 44 = .ok (.return_, 1) := by decide +kernel
theorem dX1_readNumber_0 : decode cX1_readNumber 0 = .ok (.aload_n 0, 1) := by decide +kernel
theorem dX1_readNumber_1 : decode cX1_readNumber 1 = .ok (.iconst 1, 1) := by decide +kernel
theorem dX1_readNumber_2 : decode cX1_readNumber 2 = .ok (.putfield 22, 3) := by decide +kernel
theorem dX1_readNumber_5 : decode cX1_readNumber 5 = .ok (.aload_n 0, 1) := by decide +kernel
theorem dX1_readNumber_6 : decode cX1_readNumber 6 = .ok (.iconst 0, 1) := by decide +kernel
theorem dX1_readNumber_7 : decode cX1_readNumber 7 = .ok (.putfield 31, 3) := by decide +kernel
theorem dX1_readNumber_10 : decode cX1_readNumber 10 = .ok (.aload_n 0, 1) := by decide +kernel
theorem dX1_readNumber_11 : decode cX1_readNumber 11 = .ok (.getfield 28, 3) := by decide +kernel
theorem dX1_readNumber_14 : decode cX1_readNumber 14 = .ok (.aload_n 0, 1) := by decide +kernel
theorem dX1_readNumber_15 : decode cX1_readNumber 15 = .ok (.getfield 15, 3) := by decide +kernel
theorem dX1_readNumber_18 : decode cX1_readNumber 18 = .ok (.if_icmp .ge 61, 3) := by decide +kernel
theorem dX1_readNumber_21 : decode cX1_readNumber 21 = .ok (.aload_n 0, 1) := by decide +kernel
theorem dX1_readNumber_22 : decode cX1_readNumber 22 = .ok (.getfield 9, 3) := by decide +kernel
theorem dX1_readNumber_25 : decode cX1_readNumber 25 = .ok (.aload_n 0, 1) := by decide +kernel
theorem dX1_readNumber_26 : decode cX1_readNumber 26 = .ok (.getfield 28, 3) := by decide +kernel
theorem dX1_readNumber_29 : decode cX1_readNumber 29 = .ok (.iaload, 1) := by decide +kernel
theorem dX1_readNumber_30 : decode cX1_readNumber 30 = .ok (.invokestatic 146, 3) := by decide +kernel
theorem dX1_readNumber_33 : decode cX1_readNumber 33 = .ok (.ifCond .eq 46, 3) := by decide +kernel
theorem dX1_readNumber_36 : decode cX1_readNumber 36 = .ok (.aload_n 0, 1) := by decide +kernel
theorem dX1_readNumber_37 : decode cX1_readNumber 37 = .ok (.sipush 10000, 3) := by decide +kernel
theorem dX1_readNumber_40 : decode cX1_readNumber 40 = .ok (.aload_n 0, 1) := by decide +kernel
theorem dX1_readNumber_41 : decode cX1_readNumber 41 = .ok (.getfield 31, 3) := by decide +kernel
theorem dX1_readNumber_44 : decode cX1_readNumber 44 = .ok (.bipush 10, 2) := by decide +kernel
theorem dX1_readNumber_46 : decode cX1_readNumber 46 = .ok (.imul, 1) := by decide +kernel
theorem dX1_readNumber_47 : decode cX1_readNumber 47 = .ok (.aload_n 0, 1) := by decide +kernel
theorem dX1_readNumber_48 : decode cX1_readNumber 48 = .ok (.getfield 9, 3) := by decide +kernel
theorem dX1_readNumber_51 : decode cX1_readNumber 51 = .ok (.aload_n 0, 1) := by decide +kernel
theorem dX1_readNumber_52 : decode cX1_readNumber 52 = .ok (.getfield 28, 3) := by decide +kernel
theorem dX1_readNumber_55 : decode cX1_readNumber 55 = .ok (.iaload, 1) := by decide +kernel
theorem dX1_readNumber_56 : decode cX1_readNumber 56 = .ok (.iadd, 1) := by decide +kernel
theorem dX1_readNumber_57 : decode cX1_readNumber 57 = .ok (.bipush 48, 2) := by decide +kernel
theorem dX1_readNumber_59 : decode cX1_readNumber 59 = .ok (.isub, 1) := by decide +kernel
theorem dX1_readNumber_60 : decode cX1_readNumber 60 = .ok (.invokestatic 152, 3) := by decide +kernel
theorem dX1_readNumber_63 : decode cX1_readNumber 63 = .ok (.putfield 31, 3) := by decide +kernel
theorem dX1_readNumber_66 : decode cX1_readNumber 66 = .ok (.aload_n 0, 1) := by decide +kernel
theorem dX1_readNumber_67 : decode cX1_readNumber 67 = .ok (.dup, 1) := by decide +kernel
theorem dX1_readNumber_68 : decode cX1_readNumber 68 = .ok (.getfield 28, 3) := by decide +kernel
theorem dX1_readNumber_71 : decode cX1_readNumber 71 = .ok (.iconst 1, 1) := by decide +kernel
theorem dX1_readNumber_72 : decode cX1_readNumber 72 = .ok (.iadd, 1) := by decide +kernel
theorem dX1_readNumber_73 : decode cX1_readNumber 73 = .ok (.putfield 28, 3) := by decide +kernel
theorem dX1_readNumber_76 : decode cX1_readNumber 76 = .ok (.goto (-66), 3) := by decide +kernel
theorem dX1_readNumber_79 : decode cX1_readNumber 79 = .ok (.return_, 1) := by decide +kernel
theorem dX1_isLetter_0 : decode cX1_isLetter 0 = .ok (.iload_n 0, 1) := by decide +kernel
theorem dX1_isLetter_1 : decode cX1_isLetter 1 = .ok (.bipush 97, 2) := by decide +kernel
theorem dX1_isLetter_3 : decode cX1_isLetter 3 = .ok (.if_icmp .lt 13, 3) := by decide +kernel
theorem dX1_isLetter_6 : decode cX1_isLetter 6 = .ok (.iload_n 0, 1) := by decide +kernel
theorem dX1_isLetter_7 : decode cX1_isLetter 7 = .ok (.bipush 122, 2) := by decide +kernel
theorem dX1_isLetter_9 : decode cX1_isLetter 9 = .ok (.if_icmp .gt 7, 3) := by decide +kernel
theorem dX1_isLetter_12 : decode cX1_isLetter 12 = .ok (.iconst 1, 1) := by decide +kernel
theorem dX1_isLetter_13 : decode cX1_isLetter 13 = .ok (.goto 4, 3) := by decide +kernel
theorem dX1_isLetter_16 : decode cX1_isLetter 16 = .ok (.iconst 0, 1) := by decide +kernel
theorem dX1_isLetter_17 : decode cX1_isLetter 17 = .ok (.ireturn, 1) := by decide +kernel
theorem dX1_isDigit_0 : decode cX1_isDigit 0 = .ok (.iload_n 0, 1) := by decide +kernel
theorem dX1_isDigit_1 : decode cX1_isDigit 1 = .ok (.bipush 48, 2) := by decide +kernel
theorem dX1_isDigit_3 : decode cX1_isDigit 3 = .ok (.if_icmp .lt 13, 3) := by decide +kernel
theorem dX1_isDigit_6 : decode cX1_isDigit 6 = .ok (.iload_n 0, 1) := by decide +kernel
theorem dX1_isDigit_7 : decode cX1_isDigit 7 = .ok (.bipush 57, 2) := by decide +kernel
theorem dX1_isDigit_9 : decode cX1_isDigit 9 = .ok (.if_icmp .gt 7, 3) := by decide +kernel
theorem dX1_isDigit_12 : decode cX1_isDigit 12 = .ok (.iconst 1, 1) := by decide +kernel
theorem dX1_isDigit_13 : decode cX1_isDigit 13 = .ok (.goto 4, 3) := by decide +kernel
theorem dX1_isDigit_16 : decode cX1_isDigit 16 = .ok (.iconst 0, 1) := by decide +kernel
theorem dX1_isDigit_17 : decode cX1_isDigit 17 = .ok (.ireturn, 1) := by decide +kernel
theorem dX2_init_0 : decode cX2_init 0 = .ok (.aload_n 0, 1) := by decide +kernel
theorem dX2_init_1 : decode cX2_init 1 = .ok (.invokespecial 3, 3) := by decide +kernel
theorem dX2_init_4 : decode cX2_init 4 = .ok (.aload_n 0, 1) := by decide +kernel
theorem dX2_init_5 : decode cX2_init 5 = .ok (.bipush 10, 2) := by decide +kernel
theorem dX2_init_7 : decode cX2_init 7 = .ok (.newarray .int, 2) := by decide +kernel
theorem dX2_init_9 : decode cX2_init 9 = .ok (.putfield 9, 3) := by decide +kernel
theorem dX2_init_12 : decode cX2_init 12 = .ok (.aload_n 0, 1) := by decide +kernel
theorem dX2_init_13 : decode cX2_init 13 = .ok (.bipush 10, 2) := by decide +kernel
theorem dX2_init_15 : decode cX2_init 15 = .ok (.newarray .int, 2) := by decide +kernel
theorem dX2_init_17 : decode cX2_init 17 = .ok (.putfield 15, 3) := by decide +kernel
theorem dX2_init_20 : decode cX2_init 20 = .ok (.aload_n 0, 1) := by decide +kernel
theorem dX2_init_21 : decode cX2_init 21 = .ok (.bipush 10, 2) := by decide +kernel
theorem dX2_init_23 : decode cX2_init 23 = .ok (.newarray .int, 2) := by decide +kernel
theorem dX2_init_25 : decode cX2_init 25 = .ok (.putfield 18, 3) := by decide +kernel
theorem dX2_init_28 : decode cX2_init 28 = .ok (.aload_n 0, 1) := by decide +kernel
theorem dX2_init_29 : decode cX2_init 29 = .ok (.bipush 6, 2) := by decide +kernel
theorem dX2_init_31 : decode cX2_init 31 = .ok (.newarray .int, 2) := by decide +kernel
theorem dX2_init_33 : decode cX2_init 33 = .ok (.putfield 21, 3) := by decide +kernel
theorem dX2_init_36 : decode cX2_init 36 = .ok (.aload_n 0, 1) := by decide +kernel
theorem dX2_init_37 : decode cX2_init 37 = .ok (.iconst 5, 1) := by decide +kernel
theorem dX2_init_38 : decode cX2_init 38 = .ok (.putfield 24, 3) := by decide +kernel
theorem dX2_init_41 : decode cX2_init 41 = .ok (.aload_n 0, 1) := by decide +kernel
theorem dX2_init_42 : decode cX2_init 42 = .ok (.iconst 0, 1) := by decide +kernel
theorem dX2_init_43 : decode cX2_init 43 = .ok (.putfield 28, 3) := by decide +kernel
theorem dX2_init_46 : decode cX2_init 46 = .ok (.aload_n 0, 1) := by decide +kernel
theorem dX2_init_47 : decode cX2_init 47 = .ok (.bipush 8, 2) := by decide +kernel
theorem dX2_init_49 : decode cX2_init 49 = .ok (.newarray .int, 2) := by decide +kernel
theorem dX2_init_51 : decode cX2_init 51 = .ok (.putfield 31, 3) := by decide +kernel
theorem dX2_init_54 : decode cX2_init 54 = .ok (.aload_n 0, 1) := by decide +kernel
theorem dX2_init_55 : decode cX2_init 55 = .ok (.bipush 8, 2) := by decide +kernel
theorem dX2_init_57 : decode cX2_init 57 = .ok (.newarray .int, 2) := by decide +kernel
theorem dX2_init_59 : decode cX2_init 59 = .ok (.putfield 34, 3) := by decide +kernel
theorem dX2_init_62 : decode cX2_init 62 = .ok (.aload_n 0, 1) := by decide +kernel
theorem dX2_init_63 : decode cX2_init 63 = .ok (.bipush 8, 2) := by decide +kernel
theorem dX2_init_65 : decode cX2_init 65 = .ok (.newarray .int, 2) := by decide +kernel
theorem dX2_init_67 : decode cX2_init 67 = .ok (.putfield 37, 3) := by decide +kernel
theorem dX2_init_70 : decode cX2_init 70 = .ok (.aload_n 0, 1) := by decide +kernel
theorem dX2_init_71 : decode cX2_init 71 = .ok (.bipush 8, 2) := by decide +kernel
theorem dX2_init_73 : decode cX2_init 73 = .ok (.newarray .int, 2) := by decide +kernel
theorem dX2_init_75 : decode cX2_init 75 = .ok (.putfield 40, 3) := by decide +kernel
theorem dX2_init_78 : decode cX2_init 78 = .ok (.aload_n 0, 1) := by decide +kernel
theorem dX2_init_79 : decode cX2_init 79 = .ok (.bipush 8, 2) := by decide +kernel
theorem dX2_init_81 : decode cX2_init 81 = .ok (.newarray .int, 2) := by decide +kernel
theorem dX2_init_83 : decode cX2_init 83 = .ok (.putfield 43, 3) := by decide +kernel
theorem dX2_init_86 : decode cX2_init 86 = .ok (.aload_n 0, 1) := by decide +kernel
theorem dX2_init_87 : decode cX2_init 87 = .ok (.iconst 0, 1) := by decide +kernel
theorem dX2_init_88 : decode cX2_init 88 = .ok (.putfield 46, 3) := by decide +kernel
theorem dX2_init_91 : decode cX2_init 91 = .ok (.aload_n 0, 1) := by decide +kernel
theorem dX2_init_92 : decode cX2_init 92 = .ok (.iconst 0, 1) := by decide +kernel
theorem dX2_init_93 : decode cX2_init 93 = .ok (.putfield 49, 3) := by decide +kernel
theorem dX2_init_96 : decode cX2_init 96 = .ok (.aload_n 0, 1) := by decide +kernel
theorem dX2_init_97 : decode cX2_init 97 = .ok (.iconst 1, 1) := by decide +kernel
theorem dX2_init_98 : decode cX2_init 98 = .ok (.putfield 52, 3) := by decide +kernel
theorem dX2_init_101 : decode cX2_init 101 = .ok (.aload_n 0, 1) := by decide +kernel
theorem dX2_init_102 : decode cX2_init 102 = .ok (.bipush 10, 2) := by decide +kernel
theorem dX2_init_104 : decode cX2_init 104 = .ok (.newarray .int, 2) := by decide +kernel
theorem dX2_init_106 : decode cX2_init 106 = .ok (.putfield 55, 3) := by decide +kernel
theorem dX2_init_109 : decode cX2_init 109 = .ok (.aload_n 0, 1) := by decide +kernel
theorem dX2_init_110 : decode cX2_init 110 = .ok (.bipush 10, 2) := by decide +kernel
theorem dX2_init_112 : decode cX2_init 112 = .ok (.newarray .int, 2) := by decide +kernel
theorem dX2_init_114 : decode cX2_init 114 = .ok (.putfield 58, 3) := by decide +kernel
theorem dX2_init_117 : decode cX2_init 117 = .ok (.iconst 0, 1) := by decide +kernel
theorem dX2_init_118 : decode cX2_init 118 = .ok (.istore_n 1, 1) := by decide +kernel
theorem dX2_init_119 : decode cX2_init 119 = .ok (.iload_n 1, 1) := by decide +kernel
theorem dX2_init_120 : decode cX2_init 120 = .ok (.bipush 10, 2) := by decide +kernel
theorem dX2_init_122 : decode cX2_init 122 = .ok (.if_icmp .ge 24, 3) := by decide +kernel
theorem dX2_init_125 : decode cX2_init 125 = .ok (.aload_n 0, 1) := by decide +kernel
theorem dX2_init_126 : decode cX2_init 126 = .ok (.getfield 9, 3) := by decide +kernel
theorem dX2_init_129 : decode cX2_init 129 = .ok (.iload_n 1, 1) := by decide +kernel
theorem dX2_init_130 : decode cX2_init 130 = .ok (.bipush 50, 2) := by decide +kernel
theorem dX2_init_132 : decode cX2_init 132 = .ok (.iastore, 1) := by decide +kernel
theorem dX2_init_133 : decode cX2_init 133 = .ok (.aload_n 0, 1) := by decide +kernel
theorem dX2_init_134 : decode cX2_init 134 = .ok (.getfield 18, 3) := by decide +kernel
theorem dX2_init_137 : decode cX2_init 137 = .ok (.iload_n 1, 1) := by decide +kernel
theorem dX2_init_138 : decode cX2_init 138 = .ok (.iconst (-1), 1) := by decide +kernel
theorem dX2_init_139 : decode cX2_init 139 = .ok (.iastore, 1) := by decide +kernel
theorem dX2_init_140 : decode cX2_init 140 = .ok (.iinc 1 1, 3) := by decide +kernel
theorem dX2_init_143 : decode cX2_init 143 = .ok (.goto (-24), 3) := by decide +kernel
theorem dX2_init_146 : decode cX2_init 146 = .ok (.iconst 0, 1) := by decide +kernel
theorem dX2_init_147 : decode cX2_init 147 = .ok (.istore_n 1, 1) := by decide +kernel
theorem dX2_init_148 : decode cX2_init 148 = .ok (.iload_n 1, 1) := by decide +kernel
theorem dX2_init_149 : decode cX2_init 149 = .ok (.bipush 6, 2) := by decide +kernel
theorem dX2_init_151 : decode cX2_init 151 = .ok (.if_icmp .ge 16, 3) := by decide +kernel
theorem dX2_init_154 : decode cX2_init 154 = .ok (.aload_n 0, 1) := by decide +kernel
theorem dX2_init_155 : decode cX2_init 155 = .ok (.getfield 21, 3) := by decide +kernel
theorem dX2_init_158 : decode cX2_init 158 = .ok (.iload_n 1, 1) := by decide +kernel
theorem dX2_init_159 : decode cX2_init 159 = .ok (.iconst 5, 1) := by decide +kernel
theorem dX2_init_160 : decode cX2_init 160 = .ok (.iastore, 1) := by decide +kernel
theorem dX2_init_161 : decode cX2_init 161 = .ok (.iinc 1 1, 3) := by decide +kernel
theorem dX2_init_164 : decode cX2_init 164 = .ok (.goto (-16), 3) := by decide +kernel
theorem dX2_init_167 : decode cX2_init 167 = .ok (.iconst 0, 1) := by decide +kernel
theorem dX2_init_168 : decode cX2_init 168 = .ok (.istore_n 1, 1) := by decide +kernel
theorem dX2_init_169 : decode cX2_init 169 = .ok (.iload_n 1, 1) := by decide +kernel
theorem dX2_init_170 : decode cX2_init 170 = .ok (.bipush 10, 2) := by decide +kernel
theorem dX2_init_172 : decode cX2_init 172 = .ok (.if_icmp .ge 16, 3) := by decide +kernel
theorem dX2_init_175 : decode cX2_init 175 = .ok (.aload_n 0, 1) := by decide +kernel
theorem dX2_init_176 : decode cX2_init 176 = .ok (.getfield 55, 3) := by decide +kernel
theorem dX2_init_179 : decode cX2_init 179 = .ok (.iload_n 1, 1) := by decide +kernel
theorem dX2_init_180 : decode cX2_init 180 = .ok (.iconst (-1), 1) := by decide +kernel
theorem dX2_init_181 : decode cX2_init 181 = .ok (.iastore, 1) := by decide +kernel
theorem dX2_init_182 : decode cX2_init 182 = .ok (.iinc 1 1, 3) := by decide +kernel
theorem dX2_init_185 : decode cX2_init 185 = .ok (.goto (-16), 3) := by decide +kernel
theorem dX2_init_188 : decode cX2_init 188 = .ok (.return_, 1) := by decide +kernel
theorem dX2_become_0 : decode cX2_become 0 = .ok (.aload_n 1, 1) := by decide +kernel
theorem dX2_become_1 : decode cX2_become 1 = .ok (.getfield 9, 3) := by decide +kernel
theorem dX2_become_4 : decode cX2_become 4 = .ok (.iconst 0, 1) := by decide +kernel
theorem dX2_become_5 : decode cX2_become 5 = .ok (.aload_n 0, 1) := by decide +kernel
theorem dX2_become_6 : decode cX2_become 6 = .ok (.getfield 9, 3) := by decide +kernel
theorem dX2_become_9 : decode cX2_become 9 = .ok (.iconst 0, 1) := by decide +kernel
theorem dX2_become_10 : decode cX2_become 10 = .ok (.bipush 10, 2) := by decide +kernel
theorem dX2_become_12 : decode cX2_become 12 = .ok (.invokestatic 61, 3) := by decide +kernel
theorem dX2_become_15 : decode cX2_become 15 = .ok (.aload_n 1, 1) := by decide +kernel
theorem dX2_become_16 : decode cX2_become 16 = .ok (.getfield 15, 3) := by decide +kernel
theorem dX2_become_19 : decode cX2_become 19 = .ok (.iconst 0, 1) := by decide +kernel
theorem dX2_become_20 : decode cX2_become 20 = .ok (.aload_n 0, 1) := by decide +kernel
theorem dX2_become_21 : decode cX2_become 21 = .ok (.getfield 15, 3) := by decide +kernel
theorem dX2_become_24 : decode cX2_become 24 = .ok (.iconst 0, 1) := by decide +kernel
theorem dX2_become_25 : decode cX2_become 25 = .ok (.bipush 10, 2) := by decide +kernel
theorem dX2_become_27 : decode cX2_become 27 = .ok (.invokestatic 61, 3) := by decide +kernel
theorem dX2_become_30 : decode cX2_become 30 = .ok (.aload_n 1, 1) := by decide +kernel
theorem dX2_become_31 : decode cX2_become 31 = .ok (.getfield 18, 3) := by decide +kernel
theorem dX2_become_34 : decode cX2_become 34 = .ok (.iconst 0, 1) := by decide +kernel
theorem dX2_become_35 : decode cX2_become 35 = .ok (.aload_n 0, 1) := by decide +kernel
theorem dX2_become_36 : decode cX2_become 36 = .ok (.getfield 18, 3) := by decide +kernel
theorem dX2_become_39 : decode cX2_become 39 = .ok (.iconst 0, 1) := by decide +kernel
theorem dX2_become_40 : decode cX2_become 40 = .ok (.bipush 10, 2) := by decide +kernel
theorem dX2_become_42 : decode cX2_become 42 = .ok (.invokestatic 61, 3) := by decide +kernel
theorem dX2_become_45 : decode cX2_become 45 = .ok (.aload_n 1, 1) := by decide +kernel
theorem dX2_become_46 : decode cX2_become 46 = .ok (.getfield 21, 3) := by decide +kernel
theorem dX2_become_49 : decode cX2_become 49 = .ok (.iconst 0, 1) := by decide +kernel
theorem dX2_become_50 : decode cX2_become 50 = .ok (.aload_n 0, 1) := by decide +kernel
theorem dX2_become_51 : decode cX2_become 51 = .ok (.getfield 21, 3) := by decide +kernel
theorem dX2_become_54 : decode cX2_become 54 = .ok (.iconst 0, 1) := by decide +kernel
theorem dX2_become_55 : decode cX2_become 55 = .ok (.bipush 6, 2) := by decide +kernel
theorem dX2_become_57 : decode cX2_become 57 = .ok (.invokestatic 61, 3) := by decide +kernel
theorem dX2_become_60 : decode cX2_become 60 = .ok (.aload_n 0, 1) := by decide +kernel
theorem dX2_become_61 : decode cX2_become 61 = .ok (.aload_n 1, 1) := by decide +kernel
theorem dX2_become_62 : decode cX2_become 62 = .ok (.getfield 24, 3) := by decide +kernel
theorem dX2_become_65 : decode cX2_become 65 = .ok (.putfield 24, 3) := by decide +kernel
theorem dX2_become_68 : decode cX2_become 68 = .ok (.aload_n 0, 1) := by decide +kernel
theorem dX2_become_69 : decode cX2_become 69 = .ok (.aload_n 1, 1) := by decide +kernel
theorem dX2_become_70 : decode cX2_become 70 = .ok (.getfield 28, 3) := by decide +kernel
theorem dX2_become_73 : decode cX2_become 73 = .ok (.putfield 28, 3) := by decide +kernel
theorem dX2_become_76 : decode cX2_become 76 = .ok (.aload_n 1, 1) := by decide +kernel
theorem dX2_become_77 : decode cX2_become 77 = .ok (.getfield 31, 3) := by decide +kernel
theorem dX2_become_80 : decode cX2_become 80 = .ok (.iconst 0, 1) := by decide +kernel
theorem dX2_become_81 : decode cX2_become 81 = .ok (.aload_n 0, 1) := by decide +kernel
theorem dX2_become_82 : decode cX2_become 82 = .ok (.getfield 31, 3) := by decide +kernel
theorem dX2_become_85 : decode cX2_become 85 = .ok (.iconst 0, 1) := by decide +kernel
theorem dX2_become_86 : decode cX2_become 86 = .ok (.bipush 8, 2) := by decide +kernel
theorem dX2_become_88 : decode cX2_become 88 = .ok (.invokestatic 61, 3) := by decide +kernel
theorem dX2_become_91 : decode cX2_become 91 = .ok (.aload_n 1, 1) := by decide +kernel
theorem dX2_become_92 : decode cX2_become 92 = .ok (.getfield 34, 3) := by decide +kernel
theorem dX2_become_95 : decode cX2_become 95 = .ok (.iconst 0, 1) := by decide +kernel
theorem dX2_become_96 : decode cX2_become 96 = .ok (.aload_n 0, 1) := by decide +kernel
theorem dX2_become_97 : decode cX2_become 97 = .ok (.getfield 34, 3) := by decide +kernel
theorem dX2_become_100 : decode cX2_become 100 = .ok (.iconst 0, 1) := by decide +kernel
theorem dX2_become_101 : decode cX2_become 101 = .ok (.bipush 8, 2) := by decide +kernel
theorem dX2_become_103 : decode cX2_become 103 = .ok (.invokestatic 61, 3) := by decide +kernel
theorem dX2_become_106 : decode cX2_become 106 = .ok (.aload_n 1, 1) := by decide +kernel
theorem dX2_become_107 : decode cX2_become 107 = .ok (.getfield 37, 3) := by decide +kernel
theorem dX2_become_110 : decode cX2_become 110 = .ok (.iconst 0, 1) := by decide +kernel
theorem dX2_become_111 : decode cX2_become 111 = .ok (.aload_n 0, 1) := by decide +kernel
theorem dX2_become_112 : decode cX2_become 112 = .ok (.getfield 37, 3) := by decide +kernel
theorem dX2_become_115 : decode cX2_become 115 = .ok (.iconst 0, 1) := by decide +kernel
theorem dX2_become_116 : decode cX2_become 116 = .ok (.bipush 8, 2) := by decide +kernel
theorem dX2_become_118 : decode cX2_become 118 = .ok (.invokestatic 61, 3) := by decide +kernel
theorem dX2_become_121 : decode cX2_become 121 = .ok (.aload_n 1, 1) := by decide +kernel
theorem dX2_become_122 : decode cX2_become 122 = .ok (.getfield 40, 3) := by decide +kernel
theorem dX2_become_125 : decode cX2_become 125 = .ok (.iconst 0, 1) := by decide +kernel
theorem dX2_become_126 : decode cX2_become 126 = .ok (.aload_n 0, 1) := by decide +kernel
theorem dX2_become_127 : decode cX2_become 127 = .ok (.getfield 40, 3) := by decide +kernel
theorem dX2_become_130 : decode cX2_become 130 = .ok (.iconst 0, 1) := by decide +kernel
theorem dX2_become_131 : decode cX2_become 131 = .ok (.bipush 8, 2) := by decide +kernel
theorem dX2_become_133 : decode cX2_become 133 = .ok (.invokestatic 61, 3) := by decide +kernel
theorem dX2_become_136 : decode cX2_become 136 = .ok (.aload_n 1, 1) := by decide +kernel
theorem dX2_become_137 : decode cX2_become 137 = .ok (.getfield 43, 3) := by decide +kernel
theorem dX2_become_140 : decode cX2_become 140 = .ok (.iconst 0, 1) := by decide +kernel
theorem dX2_become_141 : decode cX2_become 141 = .ok (.aload_n 0, 1) := by decide +kernel
theorem dX2_become_142 : decode cX2_become 142 = .ok (.getfield 43, 3) := by decide +kernel
theorem dX2_become_145 : decode cX2_become 145 = .ok (.iconst 0, 1) := by decide +kernel
theorem dX2_become_146 : decode cX2_become 146 = .ok (.bipush 8, 2) := by decide +kernel
theorem dX2_become_148 : decode cX2_become 148 = .ok (.invokestatic 61, 3) := by decide +kernel
theorem dX2_become_151 : decode cX2_become 151 = .ok (.aload_n 0, 1) := by decide +kernel
theorem dX2_become_152 : decode cX2_become 152 = .ok (.aload_n 1, 1) := by decide +kernel
theorem dX2_become_153 : decode cX2_become 153 = .ok (.getfield 46, 3) := by decide +kernel
theorem dX2_become_156 : decode cX2_become 156 = .ok (.putfield 46, 3) := by decide +kernel
theorem dX2_become_159 : decode cX2_become 159 = .ok (.aload_n 0, 1) := by decide +kernel
theorem dX2_become_160 : decode cX2_become 160 = .ok (.aload_n 1, 1) := by decide +kernel
theorem dX2_become_161 : decode cX2_become 161 = .ok (.getfield 49, 3) := by decide +kernel
theorem dX2_become_164 : decode cX2_become 164 = .ok (.putfield 49, 3) := by decide +kernel
theorem dX2_become_167 : decode cX2_become 167 = .ok (.aload_n 0, 1) := by decide +kernel
theorem dX2_become_168 : decode cX2_become 168 = .ok (.aload_n 1, 1) := by decide +kernel
theorem dX2_become_169 : decode cX2_become 169 = .ok (.getfield 52, 3) := by decide +kernel
theorem dX2_become_172 : decode cX2_become 172 = .ok (.putfield 52, 3) := by decide +kernel
theorem dX2_become_175 : decode cX2_become 175 = .ok (.aload_n 1, 1) := by decide +kernel
theorem dX2_become_176 : decode cX2_become 176 = .ok (.getfield 55, 3) := by decide +kernel
theorem dX2_become_179 : decode cX2_become 179 = .ok (.iconst 0, 1) := by decide +kernel
theorem dX2_become_180 : decode cX2_become 180 = .ok (.aload_n 0, 1) := by decide +kernel
theorem dX2_become_181 : decode cX2_become 181 = .ok (.getfield 55, 3) := by decide +kernel
theorem dX2_become_184 : decode cX2_become 184 = .ok (.iconst 0, 1) := by decide +kernel
theorem dX2_become_185 : decode cX2_become 185 = .ok (.bipush 10, 2) := by decide +kernel
theorem dX2_become_187 : decode cX2_become 187 = .ok (.invokestatic 61, 3) := by decide +kernel
theorem dX2_become_190 : decode cX2_become 190 = .ok (.return_, 1) := by decide +kernel
theorem dX2_isPerson_0 : decode cX2_isPerson 0 = .ok (.iload_n 1, 1) := by decide +kernel
theorem dX2_isPerson_1 : decode cX2_isPerson 1 = .ok (.ifCond .lt 15, 3) := by decide +kernel
theorem dX2_isPerson_4 : decode cX2_isPerson 4 = .ok (.iload_n 1, 1) := by decide +kernel
theorem dX2_isPerson_5 : decode cX2_isPerson 5 = .ok (.aload_n 0, 1) := by decide +kernel
theorem dX2_isPerson_6 : decode cX2_isPerson 6 = .ok (.getfield 28, 3) := by decide +kernel
theorem dX2_isPerson_9 : decode cX2_isPerson 9 = .ok (.if_icmp .ge 7, 3) := by decide +kernel
theorem dX2_isPerson_12 : decode cX2_isPerson 12 = .ok (.iconst 1, 1) := by decide +kernel
theorem dX2_isPerson_13 : decode cX2_isPerson 13 = .ok (.goto 4, 3) := by decide +kernel
theorem dX2_isPerson_16 : decode cX2_isPerson 16 = .ok (.iconst 0, 1) := by decide +kernel
theorem dX2_isPerson_17 : decode cX2_isPerson 17 = .ok (.ireturn, 1) := by decide +kernel
theorem dX2_add_0 : decode cX2_add 0 = .ok (.aload_n 0, 1) := by decide +kernel
theorem dX2_add_1 : decode cX2_add 1 = .ok (.getfield 28, 3) := by decide +kernel
theorem dX2_add_4 : decode cX2_add 4 = .ok (.istore_n 2, 1) := by decide +kernel
theorem dX2_add_5 : decode cX2_add 5 = .ok (.aload_n 0, 1) := by decide +kernel
theorem dX2_add_6 : decode cX2_add 6 = .ok (.getfield 31, 3) := by decide +kernel
theorem dX2_add_9 : decode cX2_add 9 = .ok (.iload_n 2, 1) := by decide +kernel
theorem dX2_add_10 : decode cX2_add 10 = .ok (.iload_n 1, 1) := by decide +kernel
theorem dX2_add_11 : decode cX2_add 11 = .ok (.iastore, 1) := by decide +kernel
theorem dX2_add_12 : decode cX2_add 12 = .ok (.aload_n 0, 1) := by decide +kernel
theorem dX2_add_13 : decode cX2_add 13 = .ok (.getfield 34, 3) := by decide +kernel
theorem dX2_add_16 : decode cX2_add 16 = .ok (.iload_n 2, 1) := by decide +kernel
theorem dX2_add_17 : decode cX2_add 17 = .ok (.iconst (-1), 1) := by decide +kernel
theorem dX2_add_18 : decode cX2_add 18 = .ok (.iastore, 1) := by decide +kernel
theorem dX2_add_19 : decode cX2_add 19 = .ok (.aload_n 0, 1) := by decide +kernel
theorem dX2_add_20 : decode cX2_add 20 = .ok (.getfield 37, 3) := by decide +kernel
theorem dX2_add_23 : decode cX2_add 23 = .ok (.iload_n 2, 1) := by decide +kernel
theorem dX2_add_24 : decode cX2_add 24 = .ok (.bipush 50, 2) := by decide +kernel
theorem dX2_add_26 : decode cX2_add 26 = .ok (.iastore, 1) := by decide +kernel
theorem dX2_add_27 : decode cX2_add 27 = .ok (.aload_n 0, 1) := by decide +kernel
theorem dX2_add_28 : decode cX2_add 28 = .ok (.getfield 40, 3) := by decide +kernel
theorem dX2_add_31 : decode cX2_add 31 = .ok (.iload_n 2, 1) := by decide +kernel
theorem dX2_add_32 : decode cX2_add 32 = .ok (.bipush 50, 2) := by decide +kernel
theorem dX2_add_34 : decode cX2_add 34 = .ok (.iastore, 1) := by decide +kernel
theorem dX2_add_35 : decode cX2_add 35 = .ok (.aload_n 0, 1) := by decide +kernel
theorem dX2_add_36 : decode cX2_add 36 = .ok (.getfield 43, 3) := by decide +kernel
theorem dX2_add_39 : decode cX2_add 39 = .ok (.iload_n 2, 1) := by decide +kernel
theorem dX2_add_40 : decode cX2_add 40 = .ok (.iconst 0, 1) := by decide +kernel
theorem dX2_add_41 : decode cX2_add 41 = .ok (.iastore, 1) := by decide +kernel
theorem dX2_add_42 : decode cX2_add 42 = .ok (.aload_n 0, 1) := by decide +kernel
theorem dX2_add_43 : decode cX2_add 43 = .ok (.dup, 1) := by decide +kernel
theorem dX2_add_44 : decode cX2_add 44 = .ok (.getfield 28, 3) := by decide +kernel
theorem dX2_add_47 : decode cX2_add 47 = .ok (.iconst 1, 1) := by decide +kernel
theorem dX2_add_48 : decode cX2_add 48 = .ok (.iadd, 1) := by decide +kernel
theorem dX2_add_49 : decode cX2_add 49 = .ok (.putfield 28, 3) := by decide +kernel
theorem dX2_add_52 : decode cX2_add 52 = .ok (.iload_n 2, 1) := by decide +kernel
theorem dX2_add_53 : decode cX2_add 53 = .ok (.ireturn, 1) := by decide +kernel
theorem dX2_sendAway_0 : decode cX2_sendAway 0 = .ok (.aload_n 0, 1) := by decide +kernel
theorem dX2_sendAway_1 : decode cX2_sendAway 1 = .ok (.iload_n 1, 1) := by decide +kernel
theorem dX2_sendAway_2 : decode cX2_sendAway 2 = .ok (.putfield 46, 3) := by decide +kernel
theorem dX2_sendAway_5 : decode cX2_sendAway 5 = .ok (.iconst 0, 1) := by decide +kernel
theorem dX2_sendAway_6 : decode cX2_sendAway 6 = .ok (.istore_n 2, 1) := by decide +kernel
theorem dX2_sendAway_7 : decode cX2_sendAway 7 = .ok (.iload_n 2, 1) := by decide +kernel
theorem dX2_sendAway_8 : decode cX2_sendAway 8 = .ok (.aload_n 0, 1) := by decide +kernel
theorem dX2_sendAway_9 : decode cX2_sendAway 9 = .ok (.getfield 28, 3) := by decide +kernel
theorem dX2_sendAway_12 : decode cX2_sendAway 12 = .ok (.if_icmp .ge 24, 3) := by decide +kernel
theorem dX2_sendAway_15 : decode cX2_sendAway 15 = .ok (.aload_n 0, 1) := by decide +kernel
theorem dX2_sendAway_16 : decode cX2_sendAway 16 = .ok (.iload_n 2, 1) := by decide +kernel
theorem dX2_sendAway_17 : decode cX2_sendAway 17 = .ok (.invokevirtual 67, 3) := by decide +kernel
theorem dX2_sendAway_20 : decode cX2_sendAway 20 = .ok (.ifCond .eq 10, 3) := by decide +kernel
theorem dX2_sendAway_23 : decode cX2_sendAway 23 = .ok (.aload_n 0, 1) := by decide +kernel
theorem dX2_sendAway_24 : decode cX2_sendAway 24 = .ok (.getfield 34, 3) := by decide +kernel
theorem dX2_sendAway_27 : decode cX2_sendAway 27 = .ok (.iload_n 2, 1) := by decide +kernel
theorem dX2_sendAway_28 : decode cX2_sendAway 28 = .ok (.iconst (-1), 1) := by decide +kernel
theorem dX2_sendAway_29 : decode cX2_sendAway 29 = .ok (.iastore, 1) := by decide +kernel
theorem dX2_sendAway_30 : decode cX2_sendAway 30 = .ok (.iinc 2 1, 3) := by decide +kernel
theorem dX2_sendAway_33 : decode cX2_sendAway 33 = .ok (.goto (-26), 3) := by decide +kernel
theorem dX2_sendAway_36 : decode cX2_sendAway 36 = .ok (.return_, 1) := by decide +kernel
theorem dX2_isGone_0 : decode cX2_isGone 0 = .ok (.aload_n 0, 1) := by decide +kernel
theorem dX2_isGone_1 : decode cX2_isGone 1 = .ok (.getfield 46, 3) := by decide +kernel
theorem dX2_isGone_4 : decode cX2_isGone 4 = .ok (.iload_n 1, 1) := by decide +kernel
theorem dX2_isGone_5 : decode cX2_isGone 5 = .ok (.ishr, 1) := by decide +kernel
theorem dX2_isGone_6 : decode cX2_isGone 6 = .ok (.iconst 1, 1) := by decide +kernel
theorem dX2_isGone_7 : decode cX2_isGone 7 = .ok (.iand, 1) := by decide +kernel
theorem dX2_isGone_8 : decode cX2_isGone 8 = .ok (.ifCond .eq 7, 3) := by decide +kernel
theorem dX2_isGone_11 : decode cX2_isGone 11 = .ok (.iconst 1, 1) := by decide +kernel
theorem dX2_isGone_12 : decode cX2_isGone 12 = .ok (.goto 4, 3) := by decide +kernel
theorem dX2_isGone_15 : decode cX2_isGone 15 = .ok (.iconst 0, 1) := by decide +kernel
theorem dX2_isGone_16 : decode cX2_isGone 16 = .ok (.ireturn, 1) := by decide +kernel
theorem dX2_valueOf_0 : decode cX2_valueOf 0 = .ok (.iload_n 2, 1) := by decide +kernel
theorem dX2_valueOf_1 : decode cX2_valueOf 1 = .ok (.tableswitch 48 1 3 #[27, 34, 41], 27) := by decide +kernel
theorem dX2_valueOf_28 : decode cX2_valueOf 28 = .ok (.aload_n 0, 1) := by decide +kernel
theorem dX2_valueOf_29 : decode cX2_valueOf 29 = .ok (.getfield 34, 3) := by decide +kernel
theorem dX2_valueOf_32 : decode cX2_valueOf 32 = .ok (.iload_n 1, 1) := by decide +kernel
theorem dX2_valueOf_33 : decode cX2_valueOf 33 = .ok (.iaload, 1) := by decide +kernel
theorem dX2_valueOf_34 : decode cX2_valueOf 34 = .ok (.ireturn, 1) := by decide +kernel
theorem dX2_valueOf_35 : decode cX2_valueOf 35 = .ok (.aload_n 0, 1) := by decide +kernel
theorem dX2_valueOf_36 : decode cX2_valueOf 36 = .ok (.getfield 37, 3) := by decide +kernel
theorem dX2_valueOf_39 : decode cX2_valueOf 39 = .ok (.iload_n 1, 1) := by decide +kernel
theorem dX2_valueOf_40 : decode cX2_valueOf 40 = .ok (.iaload, 1) := by decide +kernel
theorem dX2_valueOf_41 : decode cX2_valueOf 41 = .ok (.ireturn, 1) := by decide +kernel
theorem dX2_valueOf_42 : decode cX2_valueOf 42 = .ok (.aload_n 0, 1) := by decide +kernel
theorem dX2_valueOf_43 : decode cX2_valueOf 43 = .ok (.getfield 40, 3) := by decide +kernel
theorem dX2_valueOf_46 : decode cX2_valueOf 46 = .ok (.iload_n 1, 1) := by decide +kernel
theorem dX2_valueOf_47 : decode cX2_valueOf 47 = .ok (.iaload, 1) := by decide +kernel
theorem dX2_valueOf_48 : decode cX2_valueOf 48 = .ok (.ireturn, 1) := by decide +kernel
theorem dX2_valueOf_49 : decode cX2_valueOf 49 = .ok (.aload_n 0, 1) := by decide +kernel
theorem dX2_valueOf_50 : decode cX2_valueOf 50 = .ok (.getfield 43, 3) := by decide +kernel
theorem dX2_valueOf_53 : decode cX2_valueOf 53 = .ok (.iload_n 1, 1) := by decide +kernel
theorem dX2_valueOf_54 : decode cX2_valueOf 54 = .ok (.iaload, 1) := by decide +kernel
theorem dX2_valueOf_55 : decode cX2_valueOf 55 = .ok (.ireturn, 1) := by decide +kernel
theorem dX2_thoseOn_0 : decode cX2_thoseOn 0 = .ok (.iconst 0, 1) := by decide +kernel
theorem dX2_thoseOn_1 : decode cX2_thoseOn 1 = .ok (.istore_n 2, 1) := by decide +kernel
theorem dX2_thoseOn_2 : decode cX2_thoseOn 2 = .ok (.iconst 0, 1) := by decide +kernel
theorem dX2_thoseOn_3 : decode cX2_thoseOn 3 = .ok (.istore_n 3, 1) := by decide +kernel
theorem dX2_thoseOn_4 : decode cX2_thoseOn 4 = .ok (.iload_n 3, 1) := by decide +kernel
theorem dX2_thoseOn_5 : decode cX2_thoseOn 5 = .ok (.aload_n 0, 1) := by decide +kernel
theorem dX2_thoseOn_6 : decode cX2_thoseOn 6 = .ok (.getfield 28, 3) := by decide +kernel
theorem dX2_thoseOn_9 : decode cX2_thoseOn 9 = .ok (.if_icmp .ge 25, 3) := by decide +kernel
theorem dX2_thoseOn_12 : decode cX2_thoseOn 12 = .ok (.aload_n 0, 1) := by decide +kernel
theorem dX2_thoseOn_13 : decode cX2_thoseOn 13 = .ok (.getfield 34, 3) := by decide +kernel
theorem dX2_thoseOn_16 : decode cX2_thoseOn 16 = .ok (.iload_n 3, 1) := by decide +kernel
theorem dX2_thoseOn_17 : decode cX2_thoseOn 17 = .ok (.iaload, 1) := by decide +kernel
theorem dX2_thoseOn_18 : decode cX2_thoseOn 18 = .ok (.iload_n 1, 1) := by decide +kernel
theorem dX2_thoseOn_19 : decode cX2_thoseOn 19 = .ok (.if_icmp .ne 9, 3) := by decide +kernel
theorem dX2_thoseOn_22 : decode cX2_thoseOn 22 = .ok (.iload_n 2, 1) := by decide +kernel
theorem dX2_thoseOn_23 : decode cX2_thoseOn 23 = .ok (.iconst 1, 1) := by decide +kernel
theorem dX2_thoseOn_24 : decode cX2_thoseOn 24 = .ok (.iload_n 3, 1) := by decide +kernel
theorem dX2_thoseOn_25 : decode cX2_thoseOn 25 = .ok (.ishl, 1) := by decide +kernel
theorem dX2_thoseOn_26 : decode cX2_thoseOn 26 = .ok (.ior, 1) := by decide +kernel
theorem dX2_thoseOn_27 : decode cX2_thoseOn 27 = .ok (.istore_n 2, 1) := by decide +kernel
theorem dX2_thoseOn_28 : decode cX2_thoseOn 28 = .ok (.iinc 3 1, 3) := by decide +kernel
theorem dX2_thoseOn_31 : decode cX2_thoseOn 31 = .ok (.goto (-27), 3) := by decide +kernel
theorem dX2_thoseOn_34 : decode cX2_thoseOn 34 = .ok (.iload_n 2, 1) := by decide +kernel
theorem dX2_thoseOn_35 : decode cX2_thoseOn 35 = .ok (.ireturn, 1) := by decide +kernel
theorem dX2_thoseOnLots_0 : decode cX2_thoseOnLots 0 = .ok (.iconst 0, 1) := by decide +kernel
theorem dX2_thoseOnLots_1 : decode cX2_thoseOnLots 1 = .ok (.istore_n 1, 1) := by decide +kernel
theorem dX2_thoseOnLots_2 : decode cX2_thoseOnLots 2 = .ok (.iconst 0, 1) := by decide +kernel
theorem dX2_thoseOnLots_3 : decode cX2_thoseOnLots 3 = .ok (.istore_n 2, 1) := by decide +kernel
theorem dX2_thoseOnLots_4 : decode cX2_thoseOnLots 4 = .ok (.iload_n 2, 1) := by decide +kernel
theorem dX2_thoseOnLots_5 : decode cX2_thoseOnLots 5 = .ok (.aload_n 0, 1) := by decide +kernel
theorem dX2_thoseOnLots_6 : decode cX2_thoseOnLots 6 = .ok (.getfield 28, 3) := by decide +kernel
theorem dX2_thoseOnLots_9 : decode cX2_thoseOnLots 9 = .ok (.if_icmp .ge 25, 3) := by decide +kernel
theorem dX2_thoseOnLots_12 : decode cX2_thoseOnLots 12 = .ok (.aload_n 0, 1) := by decide +kernel
theorem dX2_thoseOnLots_13 : decode cX2_thoseOnLots 13 = .ok (.getfield 34, 3) := by decide +kernel
theorem dX2_thoseOnLots_16 : decode cX2_thoseOnLots 16 = .ok (.iload_n 2, 1) := by decide +kernel
theorem dX2_thoseOnLots_17 : decode cX2_thoseOnLots 17 = .ok (.iaload, 1) := by decide +kernel
theorem dX2_thoseOnLots_18 : decode cX2_thoseOnLots 18 = .ok (.iconst (-1), 1) := by decide +kernel
theorem dX2_thoseOnLots_19 : decode cX2_thoseOnLots 19 = .ok (.if_icmp .eq 9, 3) := by decide +kernel
theorem dX2_thoseOnLots_22 : decode cX2_thoseOnLots 22 = .ok (.iload_n 1, 1) := by decide +kernel
theorem dX2_thoseOnLots_23 : decode cX2_thoseOnLots 23 = .ok (.iconst 1, 1) := by decide +kernel
theorem dX2_thoseOnLots_24 : decode cX2_thoseOnLots 24 = .ok (.iload_n 2, 1) := by decide +kernel
theorem dX2_thoseOnLots_25 : decode cX2_thoseOnLots 25 = .ok (.ishl, 1) := by decide +kernel
theorem dX2_thoseOnLots_26 : decode cX2_thoseOnLots 26 = .ok (.ior, 1) := by decide +kernel
theorem dX2_thoseOnLots_27 : decode cX2_thoseOnLots 27 = .ok (.istore_n 1, 1) := by decide +kernel
theorem dX2_thoseOnLots_28 : decode cX2_thoseOnLots 28 = .ok (.iinc 2 1, 3) := by decide +kernel
theorem dX2_thoseOnLots_31 : decode cX2_thoseOnLots 31 = .ok (.goto (-27), 3) := by decide +kernel
theorem dX2_thoseOnLots_34 : decode cX2_thoseOnLots 34 = .ok (.iload_n 1, 1) := by decide +kernel
theorem dX2_thoseOnLots_35 : decode cX2_thoseOnLots 35 = .ok (.ireturn, 1) := by decide +kernel
theorem dX2_thoseStanding_0 : decode cX2_thoseStanding 0 = .ok (.iconst 0, 1) := by decide +kernel
theorem dX2_thoseStanding_1 : decode cX2_thoseStanding 1 = .ok (.istore_n 2, 1) := by decide +kernel
theorem dX2_thoseStanding_2 : decode cX2_thoseStanding 2 = .ok (.iconst 0, 1) := by decide +kernel
theorem dX2_thoseStanding_3 : decode cX2_thoseStanding 3 = .ok (.istore_n 3, 1) := by decide +kernel
theorem dX2_thoseStanding_4 : decode cX2_thoseStanding 4 = .ok (.iload_n 3, 1) := by decide +kernel
theorem dX2_thoseStanding_5 : decode cX2_thoseStanding 5 = .ok (.aload_n 0, 1) := by decide +kernel
theorem dX2_thoseStanding_6 : decode cX2_thoseStanding 6 = .ok (.getfield 28, 3) := by decide +kernel
theorem dX2_thoseStanding_9 : decode cX2_thoseStanding 9 = .ok (.if_icmp .ge 24, 3) := by decide +kernel
theorem dX2_thoseStanding_12 : decode cX2_thoseStanding 12 = .ok (.aload_n 0, 1) := by decide +kernel
theorem dX2_thoseStanding_13 : decode cX2_thoseStanding 13 = .ok (.iload_n 3, 1) := by decide +kernel
theorem dX2_thoseStanding_14 : decode cX2_thoseStanding 14 = .ok (.iload_n 1, 1) := by decide +kernel
theorem dX2_thoseStanding_15 : decode cX2_thoseStanding 15 = .ok (.invokevirtual 71, 3) := by decide +kernel
theorem dX2_thoseStanding_18 : decode cX2_thoseStanding 18 = .ok (.ifCond .eq 9, 3) := by decide +kernel
theorem dX2_thoseStanding_21 : decode cX2_thoseStanding 21 = .ok (.iload_n 2, 1) := by decide +kernel
theorem dX2_thoseStanding_22 : decode cX2_thoseStanding 22 = .ok (.iconst 1, 1) := by decide +kernel
theorem dX2_thoseStanding_23 : decode cX2_thoseStanding 23 = .ok (.iload_n 3, 1) := by decide +kernel
theorem dX2_thoseStanding_24 : decode cX2_thoseStanding 24 = .ok (.ishl, 1) := by decide +kernel
theorem dX2_thoseStanding_25 : decode cX2_thoseStanding 25 = .ok (.ior, 1) := by decide +kernel
theorem dX2_thoseStanding_26 : decode cX2_thoseStanding 26 = .ok (.istore_n 2, 1) := by decide +kernel
theorem dX2_thoseStanding_27 : decode cX2_thoseStanding 27 = .ok (.iinc 3 1, 3) := by decide +kernel
theorem dX2_thoseStanding_30 : decode cX2_thoseStanding 30 = .ok (.goto (-26), 3) := by decide +kernel
theorem dX2_thoseStanding_33 : decode cX2_thoseStanding 33 = .ok (.iload_n 2, 1) := by decide +kernel
theorem dX2_thoseStanding_34 : decode cX2_thoseStanding 34 = .ok (.ireturn, 1) := by decide +kernel
theorem dX2_lotsOwnedBy_0 : decode cX2_lotsOwnedBy 0 = .ok (.iconst 0, 1) := by decide +kernel
theorem dX2_lotsOwnedBy_1 : decode cX2_lotsOwnedBy 1 = .ok (.istore_n 2, 1) := by decide +kernel
theorem dX2_lotsOwnedBy_2 : decode cX2_lotsOwnedBy 2 = .ok (.iconst 0, 1) := by decide +kernel
theorem dX2_lotsOwnedBy_3 : decode cX2_lotsOwnedBy 3 = .ok (.istore_n 3, 1) := by decide +kernel
theorem dX2_lotsOwnedBy_4 : decode cX2_lotsOwnedBy 4 = .ok (.iload_n 3, 1) := by decide +kernel
theorem dX2_lotsOwnedBy_5 : decode cX2_lotsOwnedBy 5 = .ok (.bipush 10, 2) := by decide +kernel
theorem dX2_lotsOwnedBy_7 : decode cX2_lotsOwnedBy 7 = .ok (.if_icmp .ge 25, 3) := by decide +kernel
theorem dX2_lotsOwnedBy_10 : decode cX2_lotsOwnedBy 10 = .ok (.aload_n 0, 1) := by decide +kernel
theorem dX2_lotsOwnedBy_11 : decode cX2_lotsOwnedBy 11 = .ok (.getfield 18, 3) := by decide +kernel
theorem dX2_lotsOwnedBy_14 : decode cX2_lotsOwnedBy 14 = .ok (.iload_n 3, 1) := by decide +kernel
theorem dX2_lotsOwnedBy_15 : decode cX2_lotsOwnedBy 15 = .ok (.iaload, 1) := by decide +kernel
theorem dX2_lotsOwnedBy_16 : decode cX2_lotsOwnedBy 16 = .ok (.iload_n 1, 1) := by decide +kernel
theorem dX2_lotsOwnedBy_17 : decode cX2_lotsOwnedBy 17 = .ok (.if_icmp .ne 9, 3) := by decide +kernel
theorem dX2_lotsOwnedBy_20 : decode cX2_lotsOwnedBy 20 = .ok (.iload_n 2, 1) := by decide +kernel
theorem dX2_lotsOwnedBy_21 : decode cX2_lotsOwnedBy 21 = .ok (.iconst 1, 1) := by decide +kernel
theorem dX2_lotsOwnedBy_22 : decode cX2_lotsOwnedBy 22 = .ok (.iload_n 3, 1) := by decide +kernel
theorem dX2_lotsOwnedBy_23 : decode cX2_lotsOwnedBy 23 = .ok (.ishl, 1) := by decide +kernel
theorem dX2_lotsOwnedBy_24 : decode cX2_lotsOwnedBy 24 = .ok (.ior, 1) := by decide +kernel
theorem dX2_lotsOwnedBy_25 : decode cX2_lotsOwnedBy 25 = .ok (.istore_n 2, 1) := by decide +kernel
theorem dX2_lotsOwnedBy_26 : decode cX2_lotsOwnedBy 26 = .ok (.iinc 3 1, 3) := by decide +kernel
theorem dX2_lotsOwnedBy_29 : decode cX2_lotsOwnedBy 29 = .ok (.goto (-25), 3) := by decide +kernel
theorem dX2_lotsOwnedBy_32 : decode cX2_lotsOwnedBy 32 = .ok (.iload_n 2, 1) := by decide +kernel
theorem dX2_lotsOwnedBy_33 : decode cX2_lotsOwnedBy 33 = .ok (.ireturn, 1) := by decide +kernel
theorem dX2_spotsHeld_0 : decode cX2_spotsHeld 0 = .ok (.iconst 0, 1) := by decide +kernel
theorem dX2_spotsHeld_1 : decode cX2_spotsHeld 1 = .ok (.istore_n 1, 1) := by decide +kernel
theorem dX2_spotsHeld_2 : decode cX2_spotsHeld 2 = .ok (.iconst 0, 1) := by decide +kernel
theorem dX2_spotsHeld_3 : decode cX2_spotsHeld 3 = .ok (.istore_n 2, 1) := by decide +kernel
theorem dX2_spotsHeld_4 : decode cX2_spotsHeld 4 = .ok (.iload_n 2, 1) := by decide +kernel
theorem dX2_spotsHeld_5 : decode cX2_spotsHeld 5 = .ok (.bipush 10, 2) := by decide +kernel
theorem dX2_spotsHeld_7 : decode cX2_spotsHeld 7 = .ok (.if_icmp .ge 22, 3) := by decide +kernel
theorem dX2_spotsHeld_10 : decode cX2_spotsHeld 10 = .ok (.aload_n 0, 1) := by decide +kernel
theorem dX2_spotsHeld_11 : decode cX2_spotsHeld 11 = .ok (.getfield 55, 3) := by decide +kernel
theorem dX2_spotsHeld_14 : decode cX2_spotsHeld 14 = .ok (.iload_n 2, 1) := by decide +kernel
theorem dX2_spotsHeld_15 : decode cX2_spotsHeld 15 = .ok (.iaload, 1) := by decide +kernel
theorem dX2_spotsHeld_16 : decode cX2_spotsHeld 16 = .ok (.iconst (-1), 1) := by decide +kernel
theorem dX2_spotsHeld_17 : decode cX2_spotsHeld 17 = .ok (.if_icmp .eq 6, 3) := by decide +kernel
theorem dX2_spotsHeld_20 : decode cX2_spotsHeld 20 = .ok (.iinc 1 1, 3) := by decide +kernel
theorem dX2_spotsHeld_23 : decode cX2_spotsHeld 23 = .ok (.iinc 2 1, 3) := by decide +kernel
theorem dX2_spotsHeld_26 : decode cX2_spotsHeld 26 = .ok (.goto (-22), 3) := by decide +kernel
theorem dX2_spotsHeld_29 : decode cX2_spotsHeld 29 = .ok (.iload_n 1, 1) := by decide +kernel
theorem dX2_spotsHeld_30 : decode cX2_spotsHeld 30 = .ok (.ireturn, 1) := by decide +kernel
theorem dX2_draw_0 : decode cX2_draw 0 = .ok (.aload_n 0, 1) := by decide +kernel
theorem dX2_draw_1 : decode cX2_draw 1 = .ok (.aload_n 0, 1) := by decide +kernel
theorem dX2_draw_2 : decode cX2_draw 2 = .ok (.getfield 52, 3) := by decide +kernel
theorem dX2_draw_5 : decode cX2_draw 5 = .ok (.ldc 75, 2) := by decide +kernel
theorem dX2_draw_7 : decode cX2_draw 7 = .ok (.imul, 1) := by decide +kernel
theorem dX2_draw_8 : decode cX2_draw 8 = .ok (.sipush 12345, 3) := by decide +kernel
theorem dX2_draw_11 : decode cX2_draw 11 = .ok (.iadd, 1) := by decide +kernel
theorem dX2_draw_12 : decode cX2_draw 12 = .ok (.putfield 52, 3) := by decide +kernel
theorem dX2_draw_15 : decode cX2_draw 15 = .ok (.aload_n 0, 1) := by decide +kernel
theorem dX2_draw_16 : decode cX2_draw 16 = .ok (.getfield 52, 3) := by decide +kernel
theorem dX2_draw_19 : decode cX2_draw 19 = .ok (.bipush 8, 2) := by decide +kernel
theorem dX2_draw_21 : decode cX2_draw 21 = .ok (.iushr, 1) := by decide +kernel
theorem dX2_draw_22 : decode cX2_draw 22 = .ok (.ireturn, 1) := by decide +kernel
theorem dX2_trustOf_0 : decode cX2_trustOf 0 = .ok (.aload_n 0, 1) := by decide +kernel
theorem dX2_trustOf_1 : decode cX2_trustOf 1 = .ok (.getfield 37, 3) := by decide +kernel
theorem dX2_trustOf_4 : decode cX2_trustOf 4 = .ok (.iload_n 1, 1) := by decide +kernel
theorem dX2_trustOf_5 : decode cX2_trustOf 5 = .ok (.iaload, 1) := by decide +kernel
theorem dX2_trustOf_6 : decode cX2_trustOf 6 = .ok (.iconst 2, 1) := by decide +kernel
theorem dX2_trustOf_7 : decode cX2_trustOf 7 = .ok (.idiv, 1) := by decide +kernel
theorem dX2_trustOf_8 : decode cX2_trustOf 8 = .ok (.istore_n 3, 1) := by decide +kernel
theorem dX2_trustOf_9 : decode cX2_trustOf 9 = .ok (.iload_n 3, 1) := by decide +kernel
theorem dX2_trustOf_10 : decode cX2_trustOf 10 = .ok (.bipush 10, 2) := by decide +kernel
theorem dX2_trustOf_12 : decode cX2_trustOf 12 = .ok (.if_icmp .le 10, 3) := by decide +kernel
theorem dX2_trustOf_15 : decode cX2_trustOf 15 = .ok (.iload_n 3, 1) := by decide +kernel
theorem dX2_trustOf_16 : decode cX2_trustOf 16 = .ok (.bipush 10, 2) := by decide +kernel
theorem dX2_trustOf_18 : decode cX2_trustOf 18 = .ok (.isub, 1) := by decide +kernel
theorem dX2_trustOf_19 : decode cX2_trustOf 19 = .ok (.goto 4, 3) := by decide +kernel
theorem dX2_trustOf_22 : decode cX2_trustOf 22 = .ok (.iconst 0, 1) := by decide +kernel
theorem dX2_trustOf_23 : decode cX2_trustOf 23 = .ok (.istore 4, 2) := by decide +kernel
theorem dX2_trustOf_25 : decode cX2_trustOf 25 = .ok (.aload_n 0, 1) := by decide +kernel
theorem dX2_trustOf_26 : decode cX2_trustOf 26 = .ok (.getfield 31, 3) := by decide +kernel
theorem dX2_trustOf_29 : decode cX2_trustOf 29 = .ok (.iload_n 1, 1) := by decide +kernel
theorem dX2_trustOf_30 : decode cX2_trustOf 30 = .ok (.iaload, 1) := by decide +kernel
theorem dX2_trustOf_31 : decode cX2_trustOf 31 = .ok (.tableswitch 129 1 6 #[37, 42, 45, 66, 69, 71], 37) := by decide +kernel
theorem dX2_trustOf_68 : decode cX2_trustOf 68 = .ok (.iload_n 3, 1) := by decide +kernel
theorem dX2_trustOf_69 : decode cX2_trustOf 69 = .ok (.bipush 20, 2) := by decide +kernel
theorem dX2_trustOf_71 : decode cX2_trustOf 71 = .ok (.iadd, 1) := by decide +kernel
theorem dX2_trustOf_72 : decode cX2_trustOf 72 = .ok (.ireturn, 1) := by decide +kernel
theorem dX2_trustOf_73 : decode cX2_trustOf 73 = .ok (.iload 4, 2) := by decide +kernel
theorem dX2_trustOf_75 : decode cX2_trustOf 75 = .ok (.ireturn, 1) := by decide +kernel
theorem dX2_trustOf_76 : decode cX2_trustOf 76 = .ok (.aload_n 0, 1) := by decide +kernel
theorem dX2_trustOf_77 : decode cX2_trustOf 77 = .ok (.getfield 18, 3) := by decide +kernel
theorem dX2_trustOf_80 : decode cX2_trustOf 80 = .ok (.iload_n 2, 1) := by decide +kernel
theorem dX2_trustOf_81 : decode cX2_trustOf 81 = .ok (.iaload, 1) := by decide +kernel
theorem dX2_trustOf_82 : decode cX2_trustOf 82 = .ok (.iload_n 1, 1) := by decide +kernel
theorem dX2_trustOf_83 : decode cX2_trustOf 83 = .ok (.if_icmp .ne 11, 3) := by decide +kernel
theorem dX2_trustOf_86 : decode cX2_trustOf 86 = .ok (.iload 4, 2) := by decide +kernel
theorem dX2_trustOf_88 : decode cX2_trustOf 88 = .ok (.bipush 30, 2) := by decide +kernel
theorem dX2_trustOf_90 : decode cX2_trustOf 90 = .ok (.iadd, 1) := by decide +kernel
theorem dX2_trustOf_91 : decode cX2_trustOf 91 = .ok (.goto 5, 3) := by decide +kernel
theorem dX2_trustOf_94 : decode cX2_trustOf 94 = .ok (.iload 4, 2) := by decide +kernel
theorem dX2_trustOf_96 : decode cX2_trustOf 96 = .ok (.ireturn, 1) := by decide +kernel
theorem dX2_trustOf_97 : decode cX2_trustOf 97 = .ok (.bipush 60, 2) := by decide +kernel
theorem dX2_trustOf_99 : decode cX2_trustOf 99 = .ok (.ireturn, 1) := by decide +kernel
theorem dX2_trustOf_100 : decode cX2_trustOf 100 = .ok (.iconst 0, 1) := by decide +kernel
theorem dX2_trustOf_101 : decode cX2_trustOf 101 = .ok (.ireturn, 1) := by decide +kernel
theorem dX2_trustOf_102 : decode cX2_trustOf 102 = .ok (.iconst 0, 1) := by decide +kernel
theorem dX2_trustOf_103 : decode cX2_trustOf 103 = .ok (.istore 5, 2) := by decide +kernel
theorem dX2_trustOf_105 : decode cX2_trustOf 105 = .ok (.iconst 0, 1) := by decide +kernel
theorem dX2_trustOf_106 : decode cX2_trustOf 106 = .ok (.istore 6, 2) := by decide +kernel
theorem dX2_trustOf_108 : decode cX2_trustOf 108 = .ok (.iload 6, 2) := by decide +kernel
theorem dX2_trustOf_110 : decode cX2_trustOf 110 = .ok (.aload_n 0, 1) := by decide +kernel
theorem dX2_trustOf_111 : decode cX2_trustOf 111 = .ok (.getfield 28, 3) := by decide +kernel
theorem dX2_trustOf_114 : decode cX2_trustOf 114 = .ok (.if_icmp .ge 36, 3) := by decide +kernel
theorem dX2_trustOf_117 : decode cX2_trustOf 117 = .ok (.iload 5, 2) := by decide +kernel
theorem dX2_trustOf_119 : decode cX2_trustOf 119 = .ok (.iload 6, 2) := by decide +kernel
theorem dX2_trustOf_121 : decode cX2_trustOf 121 = .ok (.iload_n 1, 1) := by decide +kernel
theorem dX2_trustOf_122 : decode cX2_trustOf 122 = .ok (.if_icmp .eq 18, 3) := by decide +kernel
theorem dX2_trustOf_125 : decode cX2_trustOf 125 = .ok (.aload_n 0, 1) := by decide +kernel
theorem dX2_trustOf_126 : decode cX2_trustOf 126 = .ok (.getfield 34, 3) := by decide +kernel
theorem dX2_trustOf_129 : decode cX2_trustOf 129 = .ok (.iload 6, 2) := by decide +kernel
theorem dX2_trustOf_131 : decode cX2_trustOf 131 = .ok (.iaload, 1) := by decide +kernel
theorem dX2_trustOf_132 : decode cX2_trustOf 132 = .ok (.iload_n 2, 1) := by decide +kernel
theorem dX2_trustOf_133 : decode cX2_trustOf 133 = .ok (.if_icmp .ne 7, 3) := by decide +kernel
theorem dX2_trustOf_136 : decode cX2_trustOf 136 = .ok (.iconst 1, 1) := by decide +kernel
theorem dX2_trustOf_137 : decode cX2_trustOf 137 = .ok (.goto 4, 3) := by decide +kernel
theorem dX2_trustOf_140 : decode cX2_trustOf 140 = .ok (.iconst 0, 1) := by decide +kernel
theorem dX2_trustOf_141 : decode cX2_trustOf 141 = .ok (.iadd, 1) := by decide +kernel
theorem dX2_trustOf_142 : decode cX2_trustOf 142 = .ok (.istore 5, 2) := by decide +kernel
theorem dX2_trustOf_144 : decode cX2_trustOf 144 = .ok (.iinc 6 1, 3) := by decide +kernel
theorem dX2_trustOf_147 : decode cX2_trustOf 147 = .ok (.goto (-39), 3) := by decide +kernel
theorem dX2_trustOf_150 : decode cX2_trustOf 150 = .ok (.iload_n 3, 1) := by decide +kernel
theorem dX2_trustOf_151 : decode cX2_trustOf 151 = .ok (.bipush 20, 2) := by decide +kernel
theorem dX2_trustOf_153 : decode cX2_trustOf 153 = .ok (.iadd, 1) := by decide +kernel
theorem dX2_trustOf_154 : decode cX2_trustOf 154 = .ok (.iconst 2, 1) := by decide +kernel
theorem dX2_trustOf_155 : decode cX2_trustOf 155 = .ok (.iload 5, 2) := by decide +kernel
theorem dX2_trustOf_157 : decode cX2_trustOf 157 = .ok (.imul, 1) := by decide +kernel
theorem dX2_trustOf_158 : decode cX2_trustOf 158 = .ok (.iadd, 1) := by decide +kernel
theorem dX2_trustOf_159 : decode cX2_trustOf 159 = .ok (.ireturn, 1) := by decide +kernel
theorem dX2_trustOf_160 : decode cX2_trustOf 160 = .ok (.iload_n 3, 1) := by decide +kernel
theorem dX2_trustOf_161 : decode cX2_trustOf 161 = .ok (.ireturn, 1) := by decide +kernel
theorem dX2_stands_0 : decode cX2_stands 0 = .ok (.aload_n 0, 1) := by decide +kernel
theorem dX2_stands_1 : decode cX2_stands 1 = .ok (.getfield 9, 3) := by decide +kernel
theorem dX2_stands_4 : decode cX2_stands 4 = .ok (.iload_n 2, 1) := by decide +kernel
theorem dX2_stands_5 : decode cX2_stands 5 = .ok (.iaload, 1) := by decide +kernel
theorem dX2_stands_6 : decode cX2_stands 6 = .ok (.aload_n 0, 1) := by decide +kernel
theorem dX2_stands_7 : decode cX2_stands 7 = .ok (.iload_n 1, 1) := by decide +kernel
theorem dX2_stands_8 : decode cX2_stands 8 = .ok (.iload_n 2, 1) := by decide +kernel
theorem dX2_stands_9 : decode cX2_stands 9 = .ok (.invokevirtual 76, 3) := by decide +kernel
theorem dX2_stands_12 : decode cX2_stands 12 = .ok (.iadd, 1) := by decide +kernel
theorem dX2_stands_13 : decode cX2_stands 13 = .ok (.bipush 60, 2) := by decide +kernel
theorem dX2_stands_15 : decode cX2_stands 15 = .ok (.if_icmp .lt 7, 3) := by decide +kernel
theorem dX2_stands_18 : decode cX2_stands 18 = .ok (.iconst 1, 1) := by decide +kernel
theorem dX2_stands_19 : decode cX2_stands 19 = .ok (.goto 4, 3) := by decide +kernel
theorem dX2_stands_22 : decode cX2_stands 22 = .ok (.iconst 0, 1) := by decide +kernel
theorem dX2_stands_23 : decode cX2_stands 23 = .ok (.ireturn, 1) := by decide +kernel
theorem dX2_lotMadeFor_0 : decode cX2_lotMadeFor 0 = .ok (.iconst (-1), 1) := by decide +kernel
theorem dX2_lotMadeFor_1 : decode cX2_lotMadeFor 1 = .ok (.istore_n 2, 1) := by decide +kernel
theorem dX2_lotMadeFor_2 : decode cX2_lotMadeFor 2 = .ok (.iconst 0, 1) := by decide +kernel
theorem dX2_lotMadeFor_3 : decode cX2_lotMadeFor 3 = .ok (.istore_n 3, 1) := by decide +kernel
theorem dX2_lotMadeFor_4 : decode cX2_lotMadeFor 4 = .ok (.iload_n 3, 1) := by decide +kernel
theorem dX2_lotMadeFor_5 : decode cX2_lotMadeFor 5 = .ok (.bipush 10, 2) := by decide +kernel
theorem dX2_lotMadeFor_7 : decode cX2_lotMadeFor 7 = .ok (.if_icmp .ge 39, 3) := by decide +kernel
theorem dX2_lotMadeFor_10 : decode cX2_lotMadeFor 10 = .ok (.aload_n 0, 1) := by decide +kernel
theorem dX2_lotMadeFor_11 : decode cX2_lotMadeFor 11 = .ok (.iload_n 1, 1) := by decide +kernel
theorem dX2_lotMadeFor_12 : decode cX2_lotMadeFor 12 = .ok (.iload_n 3, 1) := by decide +kernel
theorem dX2_lotMadeFor_13 : decode cX2_lotMadeFor 13 = .ok (.invokevirtual 71, 3) := by decide +kernel
theorem dX2_lotMadeFor_16 : decode cX2_lotMadeFor 16 = .ok (.ifCond .eq 24, 3) := by decide +kernel
theorem dX2_lotMadeFor_19 : decode cX2_lotMadeFor 19 = .ok (.iload_n 2, 1) := by decide +kernel
theorem dX2_lotMadeFor_20 : decode cX2_lotMadeFor 20 = .ok (.ifCond .lt 18, 3) := by decide +kernel
theorem dX2_lotMadeFor_23 : decode cX2_lotMadeFor 23 = .ok (.aload_n 0, 1) := by decide +kernel
theorem dX2_lotMadeFor_24 : decode cX2_lotMadeFor 24 = .ok (.aload_n 0, 1) := by decide +kernel
theorem dX2_lotMadeFor_25 : decode cX2_lotMadeFor 25 = .ok (.getfield 31, 3) := by decide +kernel
theorem dX2_lotMadeFor_28 : decode cX2_lotMadeFor 28 = .ok (.iload_n 1, 1) := by decide +kernel
theorem dX2_lotMadeFor_29 : decode cX2_lotMadeFor 29 = .ok (.iaload, 1) := by decide +kernel
theorem dX2_lotMadeFor_30 : decode cX2_lotMadeFor 30 = .ok (.iload_n 3, 1) := by decide +kernel
theorem dX2_lotMadeFor_31 : decode cX2_lotMadeFor 31 = .ok (.iload_n 2, 1) := by decide +kernel
theorem dX2_lotMadeFor_32 : decode cX2_lotMadeFor 32 = .ok (.invokevirtual 80, 3) := by decide +kernel
theorem dX2_lotMadeFor_35 : decode cX2_lotMadeFor 35 = .ok (.ifCond .eq 5, 3) := by decide +kernel
theorem dX2_lotMadeFor_38 : decode cX2_lotMadeFor 38 = .ok (.iload_n 3, 1) := by decide +kernel
theorem dX2_lotMadeFor_39 : decode cX2_lotMadeFor 39 = .ok (.istore_n 2, 1) := by decide +kernel
theorem dX2_lotMadeFor_40 : decode cX2_lotMadeFor 40 = .ok (.iinc 3 1, 3) := by decide +kernel
theorem dX2_lotMadeFor_43 : decode cX2_lotMadeFor 43 = .ok (.goto (-39), 3) := by decide +kernel
theorem dX2_lotMadeFor_46 : decode cX2_lotMadeFor 46 = .ok (.iload_n 2, 1) := by decide +kernel
theorem dX2_lotMadeFor_47 : decode cX2_lotMadeFor 47 = .ok (.ireturn, 1) := by decide +kernel
theorem dX2_prefers_0 : decode cX2_prefers 0 = .ok (.iload_n 1, 1) := by decide +kernel
theorem dX2_prefers_1 : decode cX2_prefers 1 = .ok (.tableswitch 58 2 6 #[37, 37, 37, 58, 35], 35) := by decide +kernel
theorem dX2_prefers_36 : decode cX2_prefers 36 = .ok (.iconst 0, 1) := by decide +kernel
theorem dX2_prefers_37 : decode cX2_prefers 37 = .ok (.ireturn, 1) := by decide +kernel
theorem dX2_prefers_38 : decode cX2_prefers 38 = .ok (.aload_n 0, 1) := by decide +kernel
theorem dX2_prefers_39 : decode cX2_prefers 39 = .ok (.getfield 15, 3) := by decide +kernel
theorem dX2_prefers_42 : decode cX2_prefers 42 = .ok (.iload_n 2, 1) := by decide +kernel
theorem dX2_prefers_43 : decode cX2_prefers 43 = .ok (.iaload, 1) := by decide +kernel
theorem dX2_prefers_44 : decode cX2_prefers 44 = .ok (.aload_n 0, 1) := by decide +kernel
theorem dX2_prefers_45 : decode cX2_prefers 45 = .ok (.getfield 15, 3) := by decide +kernel
theorem dX2_prefers_48 : decode cX2_prefers 48 = .ok (.iload_n 3, 1) := by decide +kernel
theorem dX2_prefers_49 : decode cX2_prefers 49 = .ok (.iaload, 1) := by decide +kernel
theorem dX2_prefers_50 : decode cX2_prefers 50 = .ok (.if_icmp .ge 7, 3) := by decide +kernel
theorem dX2_prefers_53 : decode cX2_prefers 53 = .ok (.iconst 1, 1) := by decide +kernel
theorem dX2_prefers_54 : decode cX2_prefers 54 = .ok (.goto 4, 3) := by decide +kernel
theorem dX2_prefers_57 : decode cX2_prefers 57 = .ok (.iconst 0, 1) := by decide +kernel
theorem dX2_prefers_58 : decode cX2_prefers 58 = .ok (.ireturn, 1) := by decide +kernel
theorem dX2_prefers_59 : decode cX2_prefers 59 = .ok (.aload_n 0, 1) := by decide +kernel
theorem dX2_prefers_60 : decode cX2_prefers 60 = .ok (.getfield 9, 3) := by decide +kernel
theorem dX2_prefers_63 : decode cX2_prefers 63 = .ok (.iload_n 2, 1) := by decide +kernel
theorem dX2_prefers_64 : decode cX2_prefers 64 = .ok (.iaload, 1) := by decide +kernel
theorem dX2_prefers_65 : decode cX2_prefers 65 = .ok (.aload_n 0, 1) := by decide +kernel
theorem dX2_prefers_66 : decode cX2_prefers 66 = .ok (.getfield 9, 3) := by decide +kernel
theorem dX2_prefers_69 : decode cX2_prefers 69 = .ok (.iload_n 3, 1) := by decide +kernel
theorem dX2_prefers_70 : decode cX2_prefers 70 = .ok (.iaload, 1) := by decide +kernel
theorem dX2_prefers_71 : decode cX2_prefers 71 = .ok (.if_icmp .le 7, 3) := by decide +kernel
theorem dX2_prefers_74 : decode cX2_prefers 74 = .ok (.iconst 1, 1) := by decide +kernel
theorem dX2_prefers_75 : decode cX2_prefers 75 = .ok (.goto 4, 3) := by decide +kernel
theorem dX2_prefers_78 : decode cX2_prefers 78 = .ok (.iconst 0, 1) := by decide +kernel
theorem dX2_prefers_79 : decode cX2_prefers 79 = .ok (.ireturn, 1) := by decide +kernel
theorem dX2_passDays_0 : decode cX2_passDays 0 = .ok (.iconst 0, 1) := by decide +kernel
theorem dX2_passDays_1 : decode cX2_passDays 1 = .ok (.istore_n 2, 1) := by decide +kernel
theorem dX2_passDays_2 : decode cX2_passDays 2 = .ok (.iload_n 2, 1) := by decide +kernel
theorem dX2_passDays_3 : decode cX2_passDays 3 = .ok (.iload_n 1, 1) := by decide +kernel
theorem dX2_passDays_4 : decode cX2_passDays 4 = .ok (.if_icmp .ge 53, 3) := by decide +kernel
theorem dX2_passDays_7 : decode cX2_passDays 7 = .ok (.aload_n 0, 1) := by decide +kernel
theorem dX2_passDays_8 : decode cX2_passDays 8 = .ok (.invokevirtual 84, 3) := by decide +kernel
theorem dX2_passDays_11 : decode cX2_passDays 11 = .ok (.aload_n 0, 1) := by decide +kernel
theorem dX2_passDays_12 : decode cX2_passDays 12 = .ok (.invokevirtual 87, 3) := by decide +kernel
theorem dX2_passDays_15 : decode cX2_passDays 15 = .ok (.aload_n 0, 1) := by decide +kernel
theorem dX2_passDays_16 : decode cX2_passDays 16 = .ok (.invokevirtual 90, 3) := by decide +kernel
theorem dX2_passDays_19 : decode cX2_passDays 19 = .ok (.aload_n 0, 1) := by decide +kernel
theorem dX2_passDays_20 : decode cX2_passDays 20 = .ok (.invokevirtual 93, 3) := by decide +kernel
theorem dX2_passDays_23 : decode cX2_passDays 23 = .ok (.aload_n 0, 1) := by decide +kernel
theorem dX2_passDays_24 : decode cX2_passDays 24 = .ok (.invokevirtual 96, 3) := by decide +kernel
theorem dX2_passDays_27 : decode cX2_passDays 27 = .ok (.aload_n 0, 1) := by decide +kernel
theorem dX2_passDays_28 : decode cX2_passDays 28 = .ok (.aload_n 0, 1) := by decide +kernel
theorem dX2_passDays_29 : decode cX2_passDays 29 = .ok (.getfield 49, 3) := by decide +kernel
theorem dX2_passDays_32 : decode cX2_passDays 32 = .ok (.ldc 99, 2) := by decide +kernel
theorem dX2_passDays_34 : decode cX2_passDays 34 = .ok (.if_icmp .ge 12, 3) := by decide +kernel
theorem dX2_passDays_37 : decode cX2_passDays 37 = .ok (.aload_n 0, 1) := by decide +kernel
theorem dX2_passDays_38 : decode cX2_passDays 38 = .ok (.getfield 49, 3) := by decide +kernel
theorem dX2_passDays_41 : decode cX2_passDays 41 = .ok (.iconst 1, 1) := by decide +kernel
theorem dX2_passDays_42 : decode cX2_passDays 42 = .ok (.iadd, 1) := by decide +kernel
theorem dX2_passDays_43 : decode cX2_passDays 43 = .ok (.goto 5, 3) := by decide +kernel
theorem dX2_passDays_46 : decode cX2_passDays 46 = .ok (.ldc 99, 2) := by decide +kernel
theorem dX2_passDays_48 : decode cX2_passDays 48 = .ok (.putfield 49, 3) := by decide +kernel
theorem dX2_passDays_51 : decode cX2_passDays 51 = .ok (.iinc 2 1, 3) := by decide +kernel
theorem dX2_passDays_54 : decode cX2_passDays 54 = .ok (.goto (-52), 3) := by decide +kernel
theorem dX2_passDays_57 : decode cX2_passDays 57 = .ok (.return_, 1) := by decide +kernel
theorem dX2_thinAndThicken_0 : decode cX2_thinAndThicken 0 = .ok (.aload_n 0, 1) := by decide +kernel
theorem dX2_thinAndThicken_1 : decode cX2_thinAndThicken 1 = .ok (.getfield 24, 3) := by decide +kernel
theorem dX2_thinAndThicken_4 : decode cX2_thinAndThicken 4 = .ok (.aload_n 0, 1) := by decide +kernel
theorem dX2_thinAndThicken_5 : decode cX2_thinAndThicken 5 = .ok (.getfield 21, 3) := by decide +kernel
theorem dX2_thinAndThicken_8 : decode cX2_thinAndThicken 8 = .ok (.aload_n 0, 1) := by decide +kernel
theorem dX2_thinAndThicken_9 : decode cX2_thinAndThicken 9 = .ok (.getfield 49, 3) := by decide +kernel
theorem dX2_thinAndThicken_12 : decode cX2_thinAndThicken 12 = .ok (.bipush 6, 2) := by decide +kernel
theorem dX2_thinAndThicken_14 : decode cX2_thinAndThicken 14 = .ok (.irem, 1) := by decide +kernel
theorem dX2_thinAndThicken_15 : decode cX2_thinAndThicken 15 = .ok (.iaload, 1) := by decide +kernel
theorem dX2_thinAndThicken_16 : decode cX2_thinAndThicken 16 = .ok (.isub, 1) := by decide +kernel
theorem dX2_thinAndThicken_17 : decode cX2_thinAndThicken 17 = .ok (.istore_n 1, 1) := by decide +kernel
theorem dX2_thinAndThicken_18 : decode cX2_thinAndThicken 18 = .ok (.iconst 0, 1) := by decide +kernel
theorem dX2_thinAndThicken_19 : decode cX2_thinAndThicken 19 = .ok (.istore_n 2, 1) := by decide +kernel
theorem dX2_thinAndThicken_20 : decode cX2_thinAndThicken 20 = .ok (.iload_n 2, 1) := by decide +kernel
theorem dX2_thinAndThicken_21 : decode cX2_thinAndThicken 21 = .ok (.bipush 10, 2) := by decide +kernel
theorem dX2_thinAndThicken_23 : decode cX2_thinAndThicken 23 = .ok (.if_icmp .ge 32, 3) := by decide +kernel
theorem dX2_thinAndThicken_26 : decode cX2_thinAndThicken 26 = .ok (.aload_n 0, 1) := by decide +kernel
theorem dX2_thinAndThicken_27 : decode cX2_thinAndThicken 27 = .ok (.getfield 9, 3) := by decide +kernel
theorem dX2_thinAndThicken_30 : decode cX2_thinAndThicken 30 = .ok (.iload_n 2, 1) := by decide +kernel
theorem dX2_thinAndThicken_31 : decode cX2_thinAndThicken 31 = .ok (.iconst 0, 1) := by decide +kernel
theorem dX2_thinAndThicken_32 : decode cX2_thinAndThicken 32 = .ok (.bipush 99, 2) := by decide +kernel
theorem dX2_thinAndThicken_34 : decode cX2_thinAndThicken 34 = .ok (.aload_n 0, 1) := by decide +kernel
theorem dX2_thinAndThicken_35 : decode cX2_thinAndThicken 35 = .ok (.getfield 9, 3) := by decide +kernel
theorem dX2_thinAndThicken_38 : decode cX2_thinAndThicken 38 = .ok (.iload_n 2, 1) := by decide +kernel
theorem dX2_thinAndThicken_39 : decode cX2_thinAndThicken 39 = .ok (.iaload, 1) := by decide +kernel
theorem dX2_thinAndThicken_40 : decode cX2_thinAndThicken 40 = .ok (.iload_n 1, 1) := by decide +kernel
theorem dX2_thinAndThicken_41 : decode cX2_thinAndThicken 41 = .ok (.iadd, 1) := by decide +kernel
theorem dX2_thinAndThicken_42 : decode cX2_thinAndThicken 42 = .ok (.invokestatic 100, 3) := by decide +kernel
theorem dX2_thinAndThicken_45 : decode cX2_thinAndThicken 45 = .ok (.invokestatic 105, 3) := by decide +kernel
theorem dX2_thinAndThicken_48 : decode cX2_thinAndThicken 48 = .ok (.iastore, 1) := by decide +kernel
theorem dX2_thinAndThicken_49 : decode cX2_thinAndThicken 49 = .ok (.iinc 2 1, 3) := by decide +kernel
theorem dX2_thinAndThicken_52 : decode cX2_thinAndThicken 52 = .ok (.goto (-32), 3) := by decide +kernel
theorem dX2_thinAndThicken_55 : decode cX2_thinAndThicken 55 = .ok (.return_, 1) := by decide +kernel
theorem dX2_spreadFog_0 : decode cX2_spreadFog 0 = .ok (.iconst 0, 1) := by decide +kernel
theorem dX2_spreadFog_1 : decode cX2_spreadFog 1 = .ok (.istore_n 1, 1) := by decide +kernel
theorem dX2_spreadFog_2 : decode cX2_spreadFog 2 = .ok (.iload_n 1, 1) := by decide +kernel
theorem dX2_spreadFog_3 : decode cX2_spreadFog 3 = .ok (.bipush 9, 2) := by decide +kernel
theorem dX2_spreadFog_5 : decode cX2_spreadFog 5 = .ok (.if_icmp .ge 32, 3) := by decide +kernel
theorem dX2_spreadFog_8 : decode cX2_spreadFog 8 = .ok (.aload_n 0, 1) := by decide +kernel
theorem dX2_spreadFog_9 : decode cX2_spreadFog 9 = .ok (.getfield 58, 3) := by decide +kernel
theorem dX2_spreadFog_12 : decode cX2_spreadFog 12 = .ok (.iload_n 1, 1) := by decide +kernel
theorem dX2_spreadFog_13 : decode cX2_spreadFog 13 = .ok (.aload_n 0, 1) := by decide +kernel
theorem dX2_spreadFog_14 : decode cX2_spreadFog 14 = .ok (.getfield 9, 3) := by decide +kernel
theorem dX2_spreadFog_17 : decode cX2_spreadFog 17 = .ok (.iload_n 1, 1) := by decide +kernel
theorem dX2_spreadFog_18 : decode cX2_spreadFog 18 = .ok (.iaload, 1) := by decide +kernel
theorem dX2_spreadFog_19 : decode cX2_spreadFog 19 = .ok (.aload_n 0, 1) := by decide +kernel
theorem dX2_spreadFog_20 : decode cX2_spreadFog 20 = .ok (.getfield 9, 3) := by decide +kernel
theorem dX2_spreadFog_23 : decode cX2_spreadFog 23 = .ok (.iload_n 1, 1) := by decide +kernel
theorem dX2_spreadFog_24 : decode cX2_spreadFog 24 = .ok (.iconst 1, 1) := by decide +kernel
theorem dX2_spreadFog_25 : decode cX2_spreadFog 25 = .ok (.iadd, 1) := by decide +kernel
theorem dX2_spreadFog_26 : decode cX2_spreadFog 26 = .ok (.iaload, 1) := by decide +kernel
theorem dX2_spreadFog_27 : decode cX2_spreadFog 27 = .ok (.isub, 1) := by decide +kernel
theorem dX2_spreadFog_28 : decode cX2_spreadFog 28 = .ok (.iconst 4, 1) := by decide +kernel
theorem dX2_spreadFog_29 : decode cX2_spreadFog 29 = .ok (.idiv, 1) := by decide +kernel
theorem dX2_spreadFog_30 : decode cX2_spreadFog 30 = .ok (.iastore, 1) := by decide +kernel
theorem dX2_spreadFog_31 : decode cX2_spreadFog 31 = .ok (.iinc 1 1, 3) := by decide +kernel
theorem dX2_spreadFog_34 : decode cX2_spreadFog 34 = .ok (.goto (-32), 3) := by decide +kernel
theorem dX2_spreadFog_37 : decode cX2_spreadFog 37 = .ok (.iconst 0, 1) := by decide +kernel
theorem dX2_spreadFog_38 : decode cX2_spreadFog 38 = .ok (.istore_n 1, 1) := by decide +kernel
theorem dX2_spreadFog_39 : decode cX2_spreadFog 39 = .ok (.iload_n 1, 1) := by decide +kernel
theorem dX2_spreadFog_40 : decode cX2_spreadFog 40 = .ok (.bipush 9, 2) := by decide +kernel
theorem dX2_spreadFog_42 : decode cX2_spreadFog 42 = .ok (.if_icmp .ge 41, 3) := by decide +kernel
theorem dX2_spreadFog_45 : decode cX2_spreadFog 45 = .ok (.aload_n 0, 1) := by decide +kernel
theorem dX2_spreadFog_46 : decode cX2_spreadFog 46 = .ok (.getfield 9, 3) := by decide +kernel
theorem dX2_spreadFog_49 : decode cX2_spreadFog 49 = .ok (.iload_n 1, 1) := by decide +kernel
theorem dX2_spreadFog_50 : decode cX2_spreadFog 50 = .ok (.dup2, 1) := by decide +kernel
theorem dX2_spreadFog_51 : decode cX2_spreadFog 51 = .ok (.iaload, 1) := by decide +kernel
theorem dX2_spreadFog_52 : decode cX2_spreadFog 52 = .ok (.aload_n 0, 1) := by decide +kernel
theorem dX2_spreadFog_53 : decode cX2_spreadFog 53 = .ok (.getfield 58, 3) := by decide +kernel
theorem dX2_spreadFog_56 : decode cX2_spreadFog 56 = .ok (.iload_n 1, 1) := by decide +kernel
theorem dX2_spreadFog_57 : decode cX2_spreadFog 57 = .ok (.iaload, 1) := by decide +kernel
theorem dX2_spreadFog_58 : decode cX2_spreadFog 58 = .ok (.isub, 1) := by decide +kernel
theorem dX2_spreadFog_59 : decode cX2_spreadFog 59 = .ok (.iastore, 1) := by decide +kernel
theorem dX2_spreadFog_60 : decode cX2_spreadFog 60 = .ok (.aload_n 0, 1) := by decide +kernel
theorem dX2_spreadFog_61 : decode cX2_spreadFog 61 = .ok (.getfield 9, 3) := by decide +kernel
theorem dX2_spreadFog_64 : decode cX2_spreadFog 64 = .ok (.iload_n 1, 1) := by decide +kernel
theorem dX2_spreadFog_65 : decode cX2_spreadFog 65 = .ok (.iconst 1, 1) := by decide +kernel
theorem dX2_spreadFog_66 : decode cX2_spreadFog 66 = .ok (.iadd, 1) := by decide +kernel
theorem dX2_spreadFog_67 : decode cX2_spreadFog 67 = .ok (.dup2, 1) := by decide +kernel
theorem dX2_spreadFog_68 : decode cX2_spreadFog 68 = .ok (.iaload, 1) := by decide +kernel
theorem dX2_spreadFog_69 : decode cX2_spreadFog 69 = .ok (.aload_n 0, 1) := by decide +kernel
theorem dX2_spreadFog_70 : decode cX2_spreadFog 70 = .ok (.getfield 58, 3) := by decide +kernel
theorem dX2_spreadFog_73 : decode cX2_spreadFog 73 = .ok (.iload_n 1, 1) := by decide +kernel
theorem dX2_spreadFog_74 : decode cX2_spreadFog 74 = .ok (.iaload, 1) := by decide +kernel
theorem dX2_spreadFog_75 : decode cX2_spreadFog 75 = .ok (.iadd, 1) := by decide +kernel
theorem dX2_spreadFog_76 : decode cX2_spreadFog 76 = .ok (.iastore, 1) := by decide +kernel
theorem dX2_spreadFog_77 : decode cX2_spreadFog 77 = .ok (.iinc 1 1, 3) := by decide +kernel
theorem dX2_spreadFog_80 : decode cX2_spreadFog 80 = .ok (.goto (-41), 3) := by decide +kernel
theorem dX2_spreadFog_83 : decode cX2_spreadFog 83 = .ok (.return_, 1) := by decide +kernel
theorem dX2_movePeople_0 : decode cX2_movePeople 0 = .ok (.iconst 0, 1) := by decide +kernel
theorem dX2_movePeople_1 : decode cX2_movePeople 1 = .ok (.istore_n 1, 1) := by decide +kernel
theorem dX2_movePeople_2 : decode cX2_movePeople 2 = .ok (.iload_n 1, 1) := by decide +kernel
theorem dX2_movePeople_3 : decode cX2_movePeople 3 = .ok (.aload_n 0, 1) := by decide +kernel
theorem dX2_movePeople_4 : decode cX2_movePeople 4 = .ok (.getfield 28, 3) := by decide +kernel
theorem dX2_movePeople_7 : decode cX2_movePeople 7 = .ok (.if_icmp .ge 63, 3) := by decide +kernel
theorem dX2_movePeople_10 : decode cX2_movePeople 10 = .ok (.aload_n 0, 1) := by decide +kernel
theorem dX2_movePeople_11 : decode cX2_movePeople 11 = .ok (.iload_n 1, 1) := by decide +kernel
theorem dX2_movePeople_12 : decode cX2_movePeople 12 = .ok (.invokevirtual 67, 3) := by decide +kernel
theorem dX2_movePeople_15 : decode cX2_movePeople 15 = .ok (.ifCond .eq 6, 3) := by decide +kernel
theorem dX2_movePeople_18 : decode cX2_movePeople 18 = .ok (.goto 46, 3) := by decide +kernel
theorem dX2_movePeople_21 : decode cX2_movePeople 21 = .ok (.aload_n 0, 1) := by decide +kernel
theorem dX2_movePeople_22 : decode cX2_movePeople 22 = .ok (.getfield 34, 3) := by decide +kernel
theorem dX2_movePeople_25 : decode cX2_movePeople 25 = .ok (.iload_n 1, 1) := by decide +kernel
theorem dX2_movePeople_26 : decode cX2_movePeople 26 = .ok (.iaload, 1) := by decide +kernel
theorem dX2_movePeople_27 : decode cX2_movePeople 27 = .ok (.iconst (-1), 1) := by decide +kernel
theorem dX2_movePeople_28 : decode cX2_movePeople 28 = .ok (.if_icmp .ne 17, 3) := by decide +kernel
theorem dX2_movePeople_31 : decode cX2_movePeople 31 = .ok (.aload_n 0, 1) := by decide +kernel
theorem dX2_movePeople_32 : decode cX2_movePeople 32 = .ok (.getfield 34, 3) := by decide +kernel
theorem dX2_movePeople_35 : decode cX2_movePeople 35 = .ok (.iload_n 1, 1) := by decide +kernel
theorem dX2_movePeople_36 : decode cX2_movePeople 36 = .ok (.aload_n 0, 1) := by decide +kernel
theorem dX2_movePeople_37 : decode cX2_movePeople 37 = .ok (.iload_n 1, 1) := by decide +kernel
theorem dX2_movePeople_38 : decode cX2_movePeople 38 = .ok (.invokevirtual 108, 3) := by decide +kernel
theorem dX2_movePeople_41 : decode cX2_movePeople 41 = .ok (.iastore, 1) := by decide +kernel
theorem dX2_movePeople_42 : decode cX2_movePeople 42 = .ok (.goto 22, 3) := by decide +kernel
theorem dX2_movePeople_45 : decode cX2_movePeople 45 = .ok (.aload_n 0, 1) := by decide +kernel
theorem dX2_movePeople_46 : decode cX2_movePeople 46 = .ok (.iload_n 1, 1) := by decide +kernel
theorem dX2_movePeople_47 : decode cX2_movePeople 47 = .ok (.aload_n 0, 1) := by decide +kernel
theorem dX2_movePeople_48 : decode cX2_movePeople 48 = .ok (.getfield 34, 3) := by decide +kernel
theorem dX2_movePeople_51 : decode cX2_movePeople 51 = .ok (.iload_n 1, 1) := by decide +kernel
theorem dX2_movePeople_52 : decode cX2_movePeople 52 = .ok (.iaload, 1) := by decide +kernel
theorem dX2_movePeople_53 : decode cX2_movePeople 53 = .ok (.invokevirtual 71, 3) := by decide +kernel
theorem dX2_movePeople_56 : decode cX2_movePeople 56 = .ok (.ifCond .ne 8, 3) := by decide +kernel
theorem dX2_movePeople_59 : decode cX2_movePeople 59 = .ok (.aload_n 0, 1) := by decide +kernel
theorem dX2_movePeople_60 : decode cX2_movePeople 60 = .ok (.iload_n 1, 1) := by decide +kernel
theorem dX2_movePeople_61 : decode cX2_movePeople 61 = .ok (.invokevirtual 112, 3) := by decide +kernel
theorem dX2_movePeople_64 : decode cX2_movePeople 64 = .ok (.iinc 1 1, 3) := by decide +kernel
theorem dX2_movePeople_67 : decode cX2_movePeople 67 = .ok (.goto (-65), 3) := by decide +kernel
theorem dX2_movePeople_70 : decode cX2_movePeople 70 = .ok (.return_, 1) := by decide +kernel
theorem dX2_fall_0 : decode cX2_fall 0 = .ok (.aload_n 0, 1) := by decide +kernel
theorem dX2_fall_1 : decode cX2_fall 1 = .ok (.getfield 43, 3) := by decide +kernel
theorem dX2_fall_4 : decode cX2_fall 4 = .ok (.iload_n 1, 1) := by decide +kernel
theorem dX2_fall_5 : decode cX2_fall 5 = .ok (.sipush 9999, 3) := by decide +kernel
theorem dX2_fall_8 : decode cX2_fall 8 = .ok (.aload_n 0, 1) := by decide +kernel
theorem dX2_fall_9 : decode cX2_fall 9 = .ok (.getfield 43, 3) := by decide +kernel
theorem dX2_fall_12 : decode cX2_fall 12 = .ok (.iload_n 1, 1) := by decide +kernel
theorem dX2_fall_13 : decode cX2_fall 13 = .ok (.iaload, 1) := by decide +kernel
theorem dX2_fall_14 : decode cX2_fall 14 = .ok (.iconst 1, 1) := by decide +kernel
theorem dX2_fall_15 : decode cX2_fall 15 = .ok (.iadd, 1) := by decide +kernel
theorem dX2_fall_16 : decode cX2_fall 16 = .ok (.invokestatic 100, 3) := by decide +kernel
theorem dX2_fall_19 : decode cX2_fall 19 = .ok (.iastore, 1) := by decide +kernel
theorem dX2_fall_20 : decode cX2_fall 20 = .ok (.aload_n 0, 1) := by decide +kernel
theorem dX2_fall_21 : decode cX2_fall 21 = .ok (.getfield 37, 3) := by decide +kernel
theorem dX2_fall_24 : decode cX2_fall 24 = .ok (.iload_n 1, 1) := by decide +kernel
theorem dX2_fall_25 : decode cX2_fall 25 = .ok (.iconst 0, 1) := by decide +kernel
theorem dX2_fall_26 : decode cX2_fall 26 = .ok (.aload_n 0, 1) := by decide +kernel
theorem dX2_fall_27 : decode cX2_fall 27 = .ok (.getfield 37, 3) := by decide +kernel
theorem dX2_fall_30 : decode cX2_fall 30 = .ok (.iload_n 1, 1) := by decide +kernel
theorem dX2_fall_31 : decode cX2_fall 31 = .ok (.iaload, 1) := by decide +kernel
theorem dX2_fall_32 : decode cX2_fall 32 = .ok (.aload_n 0, 1) := by decide +kernel
theorem dX2_fall_33 : decode cX2_fall 33 = .ok (.getfield 31, 3) := by decide +kernel
theorem dX2_fall_36 : decode cX2_fall 36 = .ok (.iload_n 1, 1) := by decide +kernel
theorem dX2_fall_37 : decode cX2_fall 37 = .ok (.iaload, 1) := by decide +kernel
theorem dX2_fall_38 : decode cX2_fall 38 = .ok (.invokestatic 116, 3) := by decide +kernel
theorem dX2_fall_41 : decode cX2_fall 41 = .ok (.isub, 1) := by decide +kernel
theorem dX2_fall_42 : decode cX2_fall 42 = .ok (.invokestatic 105, 3) := by decide +kernel
theorem dX2_fall_45 : decode cX2_fall 45 = .ok (.iastore, 1) := by decide +kernel
theorem dX2_fall_46 : decode cX2_fall 46 = .ok (.aload_n 0, 1) := by decide +kernel
theorem dX2_fall_47 : decode cX2_fall 47 = .ok (.getfield 34, 3) := by decide +kernel
theorem dX2_fall_50 : decode cX2_fall 50 = .ok (.iload_n 1, 1) := by decide +kernel
theorem dX2_fall_51 : decode cX2_fall 51 = .ok (.iconst (-1), 1) := by decide +kernel
theorem dX2_fall_52 : decode cX2_fall 52 = .ok (.iastore, 1) := by decide +kernel
theorem dX2_fall_53 : decode cX2_fall 53 = .ok (.return_, 1) := by decide +kernel
theorem dX2_payRents_0 : decode cX2_payRents 0 = .ok (.iconst 0, 1) := by decide +kernel
theorem dX2_payRents_1 : decode cX2_payRents 1 = .ok (.istore_n 1, 1) := by decide +kernel
theorem dX2_payRents_2 : decode cX2_payRents 2 = .ok (.iload_n 1, 1) := by decide +kernel
theorem dX2_payRents_3 : decode cX2_payRents 3 = .ok (.aload_n 0, 1) := by decide +kernel
theorem dX2_payRents_4 : decode cX2_payRents 4 = .ok (.getfield 28, 3) := by decide +kernel
theorem dX2_payRents_7 : decode cX2_payRents 7 = .ok (.if_icmp .ge 101, 3) := by decide +kernel
theorem dX2_payRents_10 : decode cX2_payRents 10 = .ok (.aload_n 0, 1) := by decide +kernel
theorem dX2_payRents_11 : decode cX2_payRents 11 = .ok (.getfield 34, 3) := by decide +kernel
theorem dX2_payRents_14 : decode cX2_payRents 14 = .ok (.iload_n 1, 1) := by decide +kernel
theorem dX2_payRents_15 : decode cX2_payRents 15 = .ok (.iaload, 1) := by decide +kernel
theorem dX2_payRents_16 : decode cX2_payRents 16 = .ok (.iconst (-1), 1) := by decide +kernel
theorem dX2_payRents_17 : decode cX2_payRents 17 = .ok (.if_icmp .ne 6, 3) := by decide +kernel
theorem dX2_payRents_20 : decode cX2_payRents 20 = .ok (.goto 82, 3) := by decide +kernel
theorem dX2_payRents_23 : decode cX2_payRents 23 = .ok (.aload_n 0, 1) := by decide +kernel
theorem dX2_payRents_24 : decode cX2_payRents 24 = .ok (.getfield 18, 3) := by decide +kernel
theorem dX2_payRents_27 : decode cX2_payRents 27 = .ok (.aload_n 0, 1) := by decide +kernel
theorem dX2_payRents_28 : decode cX2_payRents 28 = .ok (.getfield 34, 3) := by decide +kernel
theorem dX2_payRents_31 : decode cX2_payRents 31 = .ok (.iload_n 1, 1) := by decide +kernel
theorem dX2_payRents_32 : decode cX2_payRents 32 = .ok (.iaload, 1) := by decide +kernel
theorem dX2_payRents_33 : decode cX2_payRents 33 = .ok (.iaload, 1) := by decide +kernel
theorem dX2_payRents_34 : decode cX2_payRents 34 = .ok (.istore_n 2, 1) := by decide +kernel
theorem dX2_payRents_35 : decode cX2_payRents 35 = .ok (.iload_n 2, 1) := by decide +kernel
theorem dX2_payRents_36 : decode cX2_payRents 36 = .ok (.iload_n 1, 1) := by decide +kernel
theorem dX2_payRents_37 : decode cX2_payRents 37 = .ok (.if_icmp .eq 65, 3) := by decide +kernel
theorem dX2_payRents_40 : decode cX2_payRents 40 = .ok (.aload_n 0, 1) := by decide +kernel
theorem dX2_payRents_41 : decode cX2_payRents 41 = .ok (.iload_n 2, 1) := by decide +kernel
theorem dX2_payRents_42 : decode cX2_payRents 42 = .ok (.invokevirtual 119, 3) := by decide +kernel
theorem dX2_payRents_45 : decode cX2_payRents 45 = .ok (.ifCond .ne 6, 3) := by decide +kernel
theorem dX2_payRents_48 : decode cX2_payRents 48 = .ok (.goto 54, 3) := by decide +kernel
theorem dX2_payRents_51 : decode cX2_payRents 51 = .ok (.aload_n 0, 1) := by decide +kernel
theorem dX2_payRents_52 : decode cX2_payRents 52 = .ok (.getfield 40, 3) := by decide +kernel
theorem dX2_payRents_55 : decode cX2_payRents 55 = .ok (.iload_n 1, 1) := by decide +kernel
theorem dX2_payRents_56 : decode cX2_payRents 56 = .ok (.iaload, 1) := by decide +kernel
theorem dX2_payRents_57 : decode cX2_payRents 57 = .ok (.aload_n 0, 1) := by decide +kernel
theorem dX2_payRents_58 : decode cX2_payRents 58 = .ok (.getfield 15, 3) := by decide +kernel
theorem dX2_payRents_61 : decode cX2_payRents 61 = .ok (.aload_n 0, 1) := by decide +kernel
theorem dX2_payRents_62 : decode cX2_payRents 62 = .ok (.getfield 34, 3) := by decide +kernel
theorem dX2_payRents_65 : decode cX2_payRents 65 = .ok (.iload_n 1, 1) := by decide +kernel
theorem dX2_payRents_66 : decode cX2_payRents 66 = .ok (.iaload, 1) := by decide +kernel
theorem dX2_payRents_67 : decode cX2_payRents 67 = .ok (.iaload, 1) := by decide +kernel
theorem dX2_payRents_68 : decode cX2_payRents 68 = .ok (.invokestatic 100, 3) := by decide +kernel
theorem dX2_payRents_71 : decode cX2_payRents 71 = .ok (.istore_n 3, 1) := by decide +kernel
theorem dX2_payRents_72 : decode cX2_payRents 72 = .ok (.aload_n 0, 1) := by decide +kernel
theorem dX2_payRents_73 : decode cX2_payRents 73 = .ok (.getfield 40, 3) := by decide +kernel
theorem dX2_payRents_76 : decode cX2_payRents 76 = .ok (.iload_n 1, 1) := by decide +kernel
theorem dX2_payRents_77 : decode cX2_payRents 77 = .ok (.dup2, 1) := by decide +kernel
theorem dX2_payRents_78 : decode cX2_payRents 78 = .ok (.iaload, 1) := by decide +kernel
theorem dX2_payRents_79 : decode cX2_payRents 79 = .ok (.iload_n 3, 1) := by decide +kernel
theorem dX2_payRents_80 : decode cX2_payRents 80 = .ok (.isub, 1) := by decide +kernel
theorem dX2_payRents_81 : decode cX2_payRents 81 = .ok (.iastore, 1) := by decide +kernel
theorem dX2_payRents_82 : decode cX2_payRents 82 = .ok (.aload_n 0, 1) := by decide +kernel
theorem dX2_payRents_83 : decode cX2_payRents 83 = .ok (.getfield 40, 3) := by decide +kernel
theorem dX2_payRents_86 : decode cX2_payRents 86 = .ok (.iload_n 2, 1) := by decide +kernel
theorem dX2_payRents_87 : decode cX2_payRents 87 = .ok (.sipush 9999, 3) := by decide +kernel
theorem dX2_payRents_90 : decode cX2_payRents 90 = .ok (.aload_n 0, 1) := by decide +kernel
theorem dX2_payRents_91 : decode cX2_payRents 91 = .ok (.getfield 40, 3) := by decide +kernel
theorem dX2_payRents_94 : decode cX2_payRents 94 = .ok (.iload_n 2, 1) := by decide +kernel
theorem dX2_payRents_95 : decode cX2_payRents 95 = .ok (.iaload, 1) := by decide +kernel
theorem dX2_payRents_96 : decode cX2_payRents 96 = .ok (.iload_n 3, 1) := by decide +kernel
theorem dX2_payRents_97 : decode cX2_payRents 97 = .ok (.iadd, 1) := by decide +kernel
theorem dX2_payRents_98 : decode cX2_payRents 98 = .ok (.invokestatic 100, 3) := by decide +kernel
theorem dX2_payRents_101 : decode cX2_payRents 101 = .ok (.iastore, 1) := by decide +kernel
theorem dX2_payRents_102 : decode cX2_payRents 102 = .ok (.iinc 1 1, 3) := by decide +kernel
theorem dX2_payRents_105 : decode cX2_payRents 105 = .ok (.goto (-103), 3) := by decide +kernel
theorem dX2_payRents_108 : decode cX2_payRents 108 = .ok (.return_, 1) := by decide +kernel
theorem dX2_spreadBelief_0 : decode cX2_spreadBelief 0 = .ok (.iconst 0, 1) := by decide +kernel
theorem dX2_spreadBelief_1 : decode cX2_spreadBelief 1 = .ok (.istore_n 1, 1) := by decide +kernel
theorem dX2_spreadBelief_2 : decode cX2_spreadBelief 2 = .ok (.iload_n 1, 1) := by decide +kernel
theorem dX2_spreadBelief_3 : decode cX2_spreadBelief 3 = .ok (.aload_n 0, 1) := by decide +kernel
theorem dX2_spreadBelief_4 : decode cX2_spreadBelief 4 = .ok (.getfield 28, 3) := by decide +kernel
theorem dX2_spreadBelief_7 : decode cX2_spreadBelief 7 = .ok (.if_icmp .ge 39, 3) := by decide +kernel
theorem dX2_spreadBelief_10 : decode cX2_spreadBelief 10 = .ok (.aload_n 0, 1) := by decide +kernel
theorem dX2_spreadBelief_11 : decode cX2_spreadBelief 11 = .ok (.iload_n 1, 1) := by decide +kernel
theorem dX2_spreadBelief_12 : decode cX2_spreadBelief 12 = .ok (.invokevirtual 122, 3) := by decide +kernel
theorem dX2_spreadBelief_15 : decode cX2_spreadBelief 15 = .ok (.aload_n 0, 1) := by decide +kernel
theorem dX2_spreadBelief_16 : decode cX2_spreadBelief 16 = .ok (.getfield 37, 3) := by decide +kernel
theorem dX2_spreadBelief_19 : decode cX2_spreadBelief 19 = .ok (.iload_n 1, 1) := by decide +kernel
theorem dX2_spreadBelief_20 : decode cX2_spreadBelief 20 = .ok (.iaload, 1) := by decide +kernel
theorem dX2_spreadBelief_21 : decode cX2_spreadBelief 21 = .ok (.isub, 1) := by decide +kernel
theorem dX2_spreadBelief_22 : decode cX2_spreadBelief 22 = .ok (.istore_n 2, 1) := by decide +kernel
theorem dX2_spreadBelief_23 : decode cX2_spreadBelief 23 = .ok (.aload_n 0, 1) := by decide +kernel
theorem dX2_spreadBelief_24 : decode cX2_spreadBelief 24 = .ok (.getfield 58, 3) := by decide +kernel
theorem dX2_spreadBelief_27 : decode cX2_spreadBelief 27 = .ok (.iload_n 1, 1) := by decide +kernel
theorem dX2_spreadBelief_28 : decode cX2_spreadBelief 28 = .ok (.iload_n 2, 1) := by decide +kernel
theorem dX2_spreadBelief_29 : decode cX2_spreadBelief 29 = .ok (.ifCond .le 9, 3) := by decide +kernel
theorem dX2_spreadBelief_32 : decode cX2_spreadBelief 32 = .ok (.iload_n 2, 1) := by decide +kernel
theorem dX2_spreadBelief_33 : decode cX2_spreadBelief 33 = .ok (.iconst 4, 1) := by decide +kernel
theorem dX2_spreadBelief_34 : decode cX2_spreadBelief 34 = .ok (.idiv, 1) := by decide +kernel
theorem dX2_spreadBelief_35 : decode cX2_spreadBelief 35 = .ok (.goto 4, 3) := by decide +kernel
theorem dX2_spreadBelief_38 : decode cX2_spreadBelief 38 = .ok (.iconst 0, 1) := by decide +kernel
theorem dX2_spreadBelief_39 : decode cX2_spreadBelief 39 = .ok (.iastore, 1) := by decide +kernel
theorem dX2_spreadBelief_40 : decode cX2_spreadBelief 40 = .ok (.iinc 1 1, 3) := by decide +kernel
theorem dX2_spreadBelief_43 : decode cX2_spreadBelief 43 = .ok (.goto (-41), 3) := by decide +kernel
theorem dX2_spreadBelief_46 : decode cX2_spreadBelief 46 = .ok (.iconst 0, 1) := by decide +kernel
theorem dX2_spreadBelief_47 : decode cX2_spreadBelief 47 = .ok (.istore_n 1, 1) := by decide +kernel
theorem dX2_spreadBelief_48 : decode cX2_spreadBelief 48 = .ok (.iload_n 1, 1) := by decide +kernel
theorem dX2_spreadBelief_49 : decode cX2_spreadBelief 49 = .ok (.aload_n 0, 1) := by decide +kernel
theorem dX2_spreadBelief_50 : decode cX2_spreadBelief 50 = .ok (.getfield 28, 3) := by decide +kernel
theorem dX2_spreadBelief_53 : decode cX2_spreadBelief 53 = .ok (.if_icmp .ge 24, 3) := by decide +kernel
theorem dX2_spreadBelief_56 : decode cX2_spreadBelief 56 = .ok (.aload_n 0, 1) := by decide +kernel
theorem dX2_spreadBelief_57 : decode cX2_spreadBelief 57 = .ok (.getfield 37, 3) := by decide +kernel
theorem dX2_spreadBelief_60 : decode cX2_spreadBelief 60 = .ok (.iload_n 1, 1) := by decide +kernel
theorem dX2_spreadBelief_61 : decode cX2_spreadBelief 61 = .ok (.dup2, 1) := by decide +kernel
theorem dX2_spreadBelief_62 : decode cX2_spreadBelief 62 = .ok (.iaload, 1) := by decide +kernel
theorem dX2_spreadBelief_63 : decode cX2_spreadBelief 63 = .ok (.aload_n 0, 1) := by decide +kernel
theorem dX2_spreadBelief_64 : decode cX2_spreadBelief 64 = .ok (.getfield 58, 3) := by decide +kernel
theorem dX2_spreadBelief_67 : decode cX2_spreadBelief 67 = .ok (.iload_n 1, 1) := by decide +kernel
theorem dX2_spreadBelief_68 : decode cX2_spreadBelief 68 = .ok (.iaload, 1) := by decide +kernel
theorem dX2_spreadBelief_69 : decode cX2_spreadBelief 69 = .ok (.iadd, 1) := by decide +kernel
theorem dX2_spreadBelief_70 : decode cX2_spreadBelief 70 = .ok (.iastore, 1) := by decide +kernel
theorem dX2_spreadBelief_71 : decode cX2_spreadBelief 71 = .ok (.iinc 1 1, 3) := by decide +kernel
theorem dX2_spreadBelief_74 : decode cX2_spreadBelief 74 = .ok (.goto (-26), 3) := by decide +kernel
theorem dX2_spreadBelief_77 : decode cX2_spreadBelief 77 = .ok (.return_, 1) := by decide +kernel
theorem dX2_greatestBeliefBeside_0 : decode cX2_greatestBeliefBeside 0 = .ok (.iconst 0, 1) := by decide +kernel
theorem dX2_greatestBeliefBeside_1 : decode cX2_greatestBeliefBeside 1 = .ok (.istore_n 2, 1) := by decide +kernel
theorem dX2_greatestBeliefBeside_2 : decode cX2_greatestBeliefBeside 2 = .ok (.aload_n 0, 1) := by decide +kernel
theorem dX2_greatestBeliefBeside_3 : decode cX2_greatestBeliefBeside 3 = .ok (.getfield 34, 3) := by decide +kernel
theorem dX2_greatestBeliefBeside_6 : decode cX2_greatestBeliefBeside 6 = .ok (.iload_n 1, 1) := by decide +kernel
theorem dX2_greatestBeliefBeside_7 : decode cX2_greatestBeliefBeside 7 = .ok (.iaload, 1) := by decide +kernel
theorem dX2_greatestBeliefBeside_8 : decode cX2_greatestBeliefBeside 8 = .ok (.iconst (-1), 1) := by decide +kernel
theorem dX2_greatestBeliefBeside_9 : decode cX2_greatestBeliefBeside 9 = .ok (.if_icmp .ne 5, 3) := by decide +kernel
theorem dX2_greatestBeliefBeside_12 : decode cX2_greatestBeliefBeside 12 = .ok (.iload_n 2, 1) := by decide +kernel
theorem dX2_greatestBeliefBeside_13 : decode cX2_greatestBeliefBeside 13 = .ok (.ireturn, 1) := by decide +kernel
theorem dX2_greatestBeliefBeside_14 : decode cX2_greatestBeliefBeside 14 = .ok (.iconst 0, 1) := by decide +kernel
theorem dX2_greatestBeliefBeside_15 : decode cX2_greatestBeliefBeside 15 = .ok (.istore_n 3, 1) := by decide +kernel
theorem dX2_greatestBeliefBeside_16 : decode cX2_greatestBeliefBeside 16 = .ok (.iload_n 3, 1) := by decide +kernel
theorem dX2_greatestBeliefBeside_17 : decode cX2_greatestBeliefBeside 17 = .ok (.aload_n 0, 1) := by decide +kernel
theorem dX2_greatestBeliefBeside_18 : decode cX2_greatestBeliefBeside 18 = .ok (.getfield 28, 3) := by decide +kernel
theorem dX2_greatestBeliefBeside_21 : decode cX2_greatestBeliefBeside 21 = .ok (.if_icmp .ge 40, 3) := by decide +kernel
theorem dX2_greatestBeliefBeside_24 : decode cX2_greatestBeliefBeside 24 = .ok (.iload_n 3, 1) := by decide +kernel
theorem dX2_greatestBeliefBeside_25 : decode cX2_greatestBeliefBeside 25 = .ok (.iload_n 1, 1) := by decide +kernel
theorem dX2_greatestBeliefBeside_26 : decode cX2_greatestBeliefBeside 26 = .ok (.if_icmp .eq 29, 3) := by decide +kernel
theorem dX2_greatestBeliefBeside_29 : decode cX2_greatestBeliefBeside 29 = .ok (.aload_n 0, 1) := by decide +kernel
theorem dX2_greatestBeliefBeside_30 : decode cX2_greatestBeliefBeside 30 = .ok (.getfield 34, 3) := by decide +kernel
theorem dX2_greatestBeliefBeside_33 : decode cX2_greatestBeliefBeside 33 = .ok (.iload_n 3, 1) := by decide +kernel
theorem dX2_greatestBeliefBeside_34 : decode cX2_greatestBeliefBeside 34 = .ok (.iaload, 1) := by decide +kernel
theorem dX2_greatestBeliefBeside_35 : decode cX2_greatestBeliefBeside 35 = .ok (.aload_n 0, 1) := by decide +kernel
theorem dX2_greatestBeliefBeside_36 : decode cX2_greatestBeliefBeside 36 = .ok (.getfield 34, 3) := by decide +kernel
theorem dX2_greatestBeliefBeside_39 : decode cX2_greatestBeliefBeside 39 = .ok (.iload_n 1, 1) := by decide +kernel
theorem dX2_greatestBeliefBeside_40 : decode cX2_greatestBeliefBeside 40 = .ok (.iaload, 1) := by decide +kernel
theorem dX2_greatestBeliefBeside_41 : decode cX2_greatestBeliefBeside 41 = .ok (.if_icmp .ne 14, 3) := by decide +kernel
theorem dX2_greatestBeliefBeside_44 : decode cX2_greatestBeliefBeside 44 = .ok (.iload_n 2, 1) := by decide +kernel
theorem dX2_greatestBeliefBeside_45 : decode cX2_greatestBeliefBeside 45 = .ok (.aload_n 0, 1) := by decide +kernel
theorem dX2_greatestBeliefBeside_46 : decode cX2_greatestBeliefBeside 46 = .ok (.getfield 37, 3) := by decide +kernel
theorem dX2_greatestBeliefBeside_49 : decode cX2_greatestBeliefBeside 49 = .ok (.iload_n 3, 1) := by decide +kernel
theorem dX2_greatestBeliefBeside_50 : decode cX2_greatestBeliefBeside 50 = .ok (.iaload, 1) := by decide +kernel
theorem dX2_greatestBeliefBeside_51 : decode cX2_greatestBeliefBeside 51 = .ok (.invokestatic 105, 3) := by decide +kernel
theorem dX2_greatestBeliefBeside_54 : decode cX2_greatestBeliefBeside 54 = .ok (.istore_n 2, 1) := by decide +kernel
theorem dX2_greatestBeliefBeside_55 : decode cX2_greatestBeliefBeside 55 = .ok (.iinc 3 1, 3) := by decide +kernel
theorem dX2_greatestBeliefBeside_58 : decode cX2_greatestBeliefBeside 58 = .ok (.goto (-42), 3) := by decide +kernel
theorem dX2_greatestBeliefBeside_61 : decode cX2_greatestBeliefBeside 61 = .ok (.iload_n 2, 1) := by decide +kernel
theorem dX2_greatestBeliefBeside_62 : decode cX2_greatestBeliefBeside 62 = .ok (.ireturn, 1) := by decide +kernel
theorem dX3_init_0 : decode cX3_init 0 = .ok (.aload_n 0, 1) := by decide +kernel
theorem dX3_init_1 : decode cX3_init 1 = .ok (.invokespecial 1, 3) := by decide +kernel
theorem dX3_init_4 : decode cX3_init 4 = .ok (.aload_n 0, 1) := by decide +kernel
theorem dX3_init_5 : decode cX3_init 5 = .ok (.new 7, 3) := by decide +kernel
theorem dX3_init_8 : decode cX3_init 8 = .ok (.dup, 1) := by decide +kernel
theorem dX3_init_9 : decode cX3_init 9 = .ok (.invokespecial 9, 3) := by decide +kernel
theorem dX3_init_12 : decode cX3_init 12 = .ok (.putfield 10, 3) := by decide +kernel
theorem dX3_init_15 : decode cX3_init 15 = .ok (.aload_n 0, 1) := by decide +kernel
theorem dX3_init_16 : decode cX3_init 16 = .ok (.new 7, 3) := by decide +kernel
theorem dX3_init_19 : decode cX3_init 19 = .ok (.dup, 1) := by decide +kernel
theorem dX3_init_20 : decode cX3_init 20 = .ok (.invokespecial 9, 3) := by decide +kernel
theorem dX3_init_23 : decode cX3_init 23 = .ok (.putfield 16, 3) := by decide +kernel
theorem dX3_init_26 : decode cX3_init 26 = .ok (.aload_n 0, 1) := by decide +kernel
theorem dX3_init_27 : decode cX3_init 27 = .ok (.new 7, 3) := by decide +kernel
theorem dX3_init_30 : decode cX3_init 30 = .ok (.dup, 1) := by decide +kernel
theorem dX3_init_31 : decode cX3_init 31 = .ok (.invokespecial 9, 3) := by decide +kernel
theorem dX3_init_34 : decode cX3_init 34 = .ok (.putfield 19, 3) := by decide +kernel
theorem dX3_init_37 : decode cX3_init 37 = .ok (.aload_n 0, 1) := by decide +kernel
theorem dX3_init_38 : decode cX3_init 38 = .ok (.iconst 0, 1) := by decide +kernel
theorem dX3_init_39 : decode cX3_init 39 = .ok (.putfield 22, 3) := by decide +kernel
theorem dX3_init_42 : decode cX3_init 42 = .ok (.aload_n 0, 1) := by decide +kernel
theorem dX3_init_43 : decode cX3_init 43 = .ok (.new 26, 3) := by decide +kernel
theorem dX3_init_46 : decode cX3_init 46 = .ok (.dup, 1) := by decide +kernel
theorem dX3_init_47 : decode cX3_init 47 = .ok (.invokespecial 28, 3) := by decide +kernel
theorem dX3_init_50 : decode cX3_init 50 = .ok (.putfield 29, 3) := by decide +kernel
theorem dX3_init_53 : decode cX3_init 53 = .ok (.aload_n 0, 1) := by decide +kernel
theorem dX3_init_54 : decode cX3_init 54 = .ok (.iconst 4, 1) := by decide +kernel
theorem dX3_init_55 : decode cX3_init 55 = .ok (.anewarray 33, 3) := by decide +kernel
theorem dX3_init_58 : decode cX3_init 58 = .ok (.putfield 35, 3) := by decide +kernel
theorem dX3_init_61 : decode cX3_init 61 = .ok (.iconst 0, 1) := by decide +kernel
theorem dX3_init_62 : decode cX3_init 62 = .ok (.istore_n 1, 1) := by decide +kernel
theorem dX3_init_63 : decode cX3_init 63 = .ok (.iload_n 1, 1) := by decide +kernel
theorem dX3_init_64 : decode cX3_init 64 = .ok (.iconst 4, 1) := by decide +kernel
theorem dX3_init_65 : decode cX3_init 65 = .ok (.if_icmp .ge 22, 3) := by decide +kernel
theorem dX3_init_68 : decode cX3_init 68 = .ok (.aload_n 0, 1) := by decide +kernel
theorem dX3_init_69 : decode cX3_init 69 = .ok (.getfield 35, 3) := by decide +kernel
theorem dX3_init_72 : decode cX3_init 72 = .ok (.iload_n 1, 1) := by decide +kernel
theorem dX3_init_73 : decode cX3_init 73 = .ok (.new 33, 3) := by decide +kernel
theorem dX3_init_76 : decode cX3_init 76 = .ok (.dup, 1) := by decide +kernel
theorem dX3_init_77 : decode cX3_init 77 = .ok (.invokespecial 39, 3) := by decide +kernel
theorem dX3_init_80 : decode cX3_init 80 = .ok (.aastore, 1) := by decide +kernel
theorem dX3_init_81 : decode cX3_init 81 = .ok (.iinc 1 1, 3) := by decide +kernel
theorem dX3_init_84 : decode cX3_init 84 = .ok (.goto (-21), 3) := by decide +kernel
theorem dX3_init_87 : decode cX3_init 87 = .ok (.aload_n 0, 1) := by decide +kernel
theorem dX3_init_88 : decode cX3_init 88 = .ok (.bipush 7, 2) := by decide +kernel
theorem dX3_init_90 : decode cX3_init 90 = .ok (.newarray .int, 2) := by decide +kernel
theorem dX3_init_92 : decode cX3_init 92 = .ok (.putfield 40, 3) := by decide +kernel
theorem dX3_init_95 : decode cX3_init 95 = .ok (.return_, 1) := by decide +kernel
theorem dX3_lot_0 : decode cX3_lot 0 = .ok (.iload_n 1, 1) := by decide +kernel
theorem dX3_lot_1 : decode cX3_lot 1 = .ok (.invokestatic 44, 3) := by decide +kernel
theorem dX3_lot_4 : decode cX3_lot 4 = .ok (.ifCond .ne 9, 3) := by decide +kernel
theorem dX3_lot_7 : decode cX3_lot 7 = .ok (.aload_n 0, 1) := by decide +kernel
theorem dX3_lot_8 : decode cX3_lot 8 = .ok (.iconst 0, 1) := by decide +kernel
theorem dX3_lot_9 : decode cX3_lot 9 = .ok (.invokevirtual 48, 3) := by decide +kernel
theorem dX3_lot_12 : decode cX3_lot 12 = .ok (.ireturn, 1) := by decide +kernel
theorem dX3_lot_13 : decode cX3_lot 13 = .ok (.iload_n 2, 1) := by decide +kernel
theorem dX3_lot_14 : decode cX3_lot 14 = .ok (.ifCond .ne 26, 3) := by decide +kernel
theorem dX3_lot_17 : decode cX3_lot 17 = .ok (.iload_n 3, 1) := by decide +kernel
theorem dX3_lot_18 : decode cX3_lot 18 = .ok (.iconst 0, 1) := by decide +kernel
theorem dX3_lot_19 : decode cX3_lot 19 = .ok (.bipush 99, 2) := by decide +kernel
theorem dX3_lot_21 : decode cX3_lot 21 = .ok (.invokestatic 52, 3) := by decide +kernel
theorem dX3_lot_24 : decode cX3_lot 24 = .ok (.ifCond .eq 16, 3) := by decide +kernel
theorem dX3_lot_27 : decode cX3_lot 27 = .ok (.aload_n 0, 1) := by decide +kernel
theorem dX3_lot_28 : decode cX3_lot 28 = .ok (.getfield 10, 3) := by decide +kernel
theorem dX3_lot_31 : decode cX3_lot 31 = .ok (.getfield 56, 3) := by decide +kernel
theorem dX3_lot_34 : decode cX3_lot 34 = .ok (.iload_n 1, 1) := by decide +kernel
theorem dX3_lot_35 : decode cX3_lot 35 = .ok (.iload_n 3, 1) := by decide +kernel
theorem dX3_lot_36 : decode cX3_lot 36 = .ok (.invokestatic 59, 3) := by decide +kernel
theorem dX3_lot_39 : decode cX3_lot 39 = .ok (.ireturn, 1) := by decide +kernel
theorem dX3_lot_40 : decode cX3_lot 40 = .ok (.iload_n 2, 1) := by decide +kernel
theorem dX3_lot_41 : decode cX3_lot 41 = .ok (.iconst 1, 1) := by decide +kernel
theorem dX3_lot_42 : decode cX3_lot 42 = .ok (.if_icmp .ne 26, 3) := by decide +kernel
theorem dX3_lot_45 : decode cX3_lot 45 = .ok (.iload_n 3, 1) := by decide +kernel
theorem dX3_lot_46 : decode cX3_lot 46 = .ok (.iconst 0, 1) := by decide +kernel
theorem dX3_lot_47 : decode cX3_lot 47 = .ok (.bipush 20, 2) := by decide +kernel
theorem dX3_lot_49 : decode cX3_lot 49 = .ok (.invokestatic 52, 3) := by decide +kernel
theorem dX3_lot_52 : decode cX3_lot 52 = .ok (.ifCond .eq 16, 3) := by decide +kernel
theorem dX3_lot_55 : decode cX3_lot 55 = .ok (.aload_n 0, 1) := by decide +kernel
theorem dX3_lot_56 : decode cX3_lot 56 = .ok (.getfield 10, 3) := by decide +kernel
theorem dX3_lot_59 : decode cX3_lot 59 = .ok (.getfield 63, 3) := by decide +kernel
theorem dX3_lot_62 : decode cX3_lot 62 = .ok (.iload_n 1, 1) := by decide +kernel
theorem dX3_lot_63 : decode cX3_lot 63 = .ok (.iload_n 3, 1) := by decide +kernel
theorem dX3_lot_64 : decode cX3_lot 64 = .ok (.invokestatic 59, 3) := by decide +kernel
theorem dX3_lot_67 : decode cX3_lot 67 = .ok (.ireturn, 1) := by decide +kernel
theorem dX3_lot_68 : decode cX3_lot 68 = .ok (.iload_n 2, 1) := by decide +kernel
theorem dX3_lot_69 : decode cX3_lot 69 = .ok (.iconst 2, 1) := by decide +kernel
theorem dX3_lot_70 : decode cX3_lot 70 = .ok (.if_icmp .ne 32, 3) := by decide +kernel
theorem dX3_lot_73 : decode cX3_lot 73 = .ok (.iload_n 3, 1) := by decide +kernel
theorem dX3_lot_74 : decode cX3_lot 74 = .ok (.iconst (-1), 1) := by decide +kernel
theorem dX3_lot_75 : decode cX3_lot 75 = .ok (.if_icmp .eq 14, 3) := by decide +kernel
theorem dX3_lot_78 : decode cX3_lot 78 = .ok (.aload_n 0, 1) := by decide +kernel
theorem dX3_lot_79 : decode cX3_lot 79 = .ok (.getfield 10, 3) := by decide +kernel
theorem dX3_lot_82 : decode cX3_lot 82 = .ok (.iload_n 3, 1) := by decide +kernel
theorem dX3_lot_83 : decode cX3_lot 83 = .ok (.invokevirtual 66, 3) := by decide +kernel
theorem dX3_lot_86 : decode cX3_lot 86 = .ok (.ifCond .eq 16, 3) := by decide +kernel
theorem dX3_lot_89 : decode cX3_lot 89 = .ok (.aload_n 0, 1) := by decide +kernel
theorem dX3_lot_90 : decode cX3_lot 90 = .ok (.getfield 10, 3) := by decide +kernel
theorem dX3_lot_93 : decode cX3_lot 93 = .ok (.getfield 69, 3) := by decide +kernel
theorem dX3_lot_96 : decode cX3_lot 96 = .ok (.iload_n 1, 1) := by decide +kernel
theorem dX3_lot_97 : decode cX3_lot 97 = .ok (.iload_n 3, 1) := by decide +kernel
theorem dX3_lot_98 : decode cX3_lot 98 = .ok (.invokestatic 59, 3) := by decide +kernel
theorem dX3_lot_101 : decode cX3_lot 101 = .ok (.ireturn, 1) := by decide +kernel
theorem dX3_lot_102 : decode cX3_lot 102 = .ok (.aload_n 0, 1) := by decide +kernel
theorem dX3_lot_103 : decode cX3_lot 103 = .ok (.iconst 0, 1) := by decide +kernel
theorem dX3_lot_104 : decode cX3_lot 104 = .ok (.invokevirtual 48, 3) := by decide +kernel
theorem dX3_lot_107 : decode cX3_lot 107 = .ok (.ireturn, 1) := by decide +kernel
theorem dX3_lotOf_0 : decode cX3_lotOf 0 = .ok (.iload_n 1, 1) := by decide +kernel
theorem dX3_lotOf_1 : decode cX3_lotOf 1 = .ok (.invokestatic 44, 3) := by decide +kernel
theorem dX3_lotOf_4 : decode cX3_lotOf 4 = .ok (.ifCond .ne 9, 3) := by decide +kernel
theorem dX3_lotOf_7 : decode cX3_lotOf 7 = .ok (.aload_n 0, 1) := by decide +kernel
theorem dX3_lotOf_8 : decode cX3_lotOf 8 = .ok (.iconst 0, 1) := by decide +kernel
theorem dX3_lotOf_9 : decode cX3_lotOf 9 = .ok (.invokevirtual 48, 3) := by decide +kernel
theorem dX3_lotOf_12 : decode cX3_lotOf 12 = .ok (.ireturn, 1) := by decide +kernel
theorem dX3_lotOf_13 : decode cX3_lotOf 13 = .ok (.iload_n 2, 1) := by decide +kernel
theorem dX3_lotOf_14 : decode cX3_lotOf 14 = .ok (.tableswitch 82 0 4 #[34, 44, 54, 64, 73], 34) := by decide +kernel
theorem dX3_lotOf_48 : decode cX3_lotOf 48 = .ok (.aload_n 0, 1) := by decide +kernel
theorem dX3_lotOf_49 : decode cX3_lotOf 49 = .ok (.getfield 10, 3) := by decide +kernel
theorem dX3_lotOf_52 : decode cX3_lotOf 52 = .ok (.getfield 56, 3) := by decide +kernel
theorem dX3_lotOf_55 : decode cX3_lotOf 55 = .ok (.iload_n 1, 1) := by decide +kernel
theorem dX3_lotOf_56 : decode cX3_lotOf 56 = .ok (.iaload, 1) := by decide +kernel
theorem dX3_lotOf_57 : decode cX3_lotOf 57 = .ok (.ireturn, 1) := by decide +kernel
theorem dX3_lotOf_58 : decode cX3_lotOf 58 = .ok (.aload_n 0, 1) := by decide +kernel
theorem dX3_lotOf_59 : decode cX3_lotOf 59 = .ok (.getfield 10, 3) := by decide +kernel
theorem dX3_lotOf_62 : decode cX3_lotOf 62 = .ok (.getfield 63, 3) := by decide +kernel
theorem dX3_lotOf_65 : decode cX3_lotOf 65 = .ok (.iload_n 1, 1) := by decide +kernel
theorem dX3_lotOf_66 : decode cX3_lotOf 66 = .ok (.iaload, 1) := by decide +kernel
theorem dX3_lotOf_67 : decode cX3_lotOf 67 = .ok (.ireturn, 1) := by decide +kernel
theorem dX3_lotOf_68 : decode cX3_lotOf 68 = .ok (.aload_n 0, 1) := by decide +kernel
theorem dX3_lotOf_69 : decode cX3_lotOf 69 = .ok (.getfield 10, 3) := by decide +kernel
theorem dX3_lotOf_72 : decode cX3_lotOf 72 = .ok (.getfield 69, 3) := by decide +kernel
theorem dX3_lotOf_75 : decode cX3_lotOf 75 = .ok (.iload_n 1, 1) := by decide +kernel
theorem dX3_lotOf_76 : decode cX3_lotOf 76 = .ok (.iaload, 1) := by decide +kernel
theorem dX3_lotOf_77 : decode cX3_lotOf 77 = .ok (.ireturn, 1) := by decide +kernel
theorem dX3_lotOf_78 : decode cX3_lotOf 78 = .ok (.aload_n 0, 1) := by decide +kernel
theorem dX3_lotOf_79 : decode cX3_lotOf 79 = .ok (.getfield 10, 3) := by decide +kernel
theorem dX3_lotOf_82 : decode cX3_lotOf 82 = .ok (.iload_n 1, 1) := by decide +kernel
theorem dX3_lotOf_83 : decode cX3_lotOf 83 = .ok (.invokevirtual 72, 3) := by decide +kernel
theorem dX3_lotOf_86 : decode cX3_lotOf 86 = .ok (.ireturn, 1) := by decide +kernel
theorem dX3_lotOf_87 : decode cX3_lotOf 87 = .ok (.aload_n 0, 1) := by decide +kernel
theorem dX3_lotOf_88 : decode cX3_lotOf 88 = .ok (.getfield 10, 3) := by decide +kernel
theorem dX3_lotOf_91 : decode cX3_lotOf 91 = .ok (.iload_n 1, 1) := by decide +kernel
theorem dX3_lotOf_92 : decode cX3_lotOf 92 = .ok (.invokevirtual 75, 3) := by decide +kernel
theorem dX3_lotOf_95 : decode cX3_lotOf 95 = .ok (.ireturn, 1) := by decide +kernel
theorem dX3_lotOf_96 : decode cX3_lotOf 96 = .ok (.aload_n 0, 1) := by decide +kernel
theorem dX3_lotOf_97 : decode cX3_lotOf 97 = .ok (.iconst 0, 1) := by decide +kernel
theorem dX3_lotOf_98 : decode cX3_lotOf 98 = .ok (.invokevirtual 48, 3) := by decide +kernel
theorem dX3_lotOf_101 : decode cX3_lotOf 101 = .ok (.ireturn, 1) := by decide +kernel
theorem dX3_sun_0 : decode cX3_sun 0 = .ok (.iload_n 1, 1) := by decide +kernel
theorem dX3_sun_1 : decode cX3_sun 1 = .ok (.iconst 0, 1) := by decide +kernel
theorem dX3_sun_2 : decode cX3_sun 2 = .ok (.iconst 5, 1) := by decide +kernel
theorem dX3_sun_3 : decode cX3_sun 3 = .ok (.invokestatic 52, 3) := by decide +kernel
theorem dX3_sun_6 : decode cX3_sun 6 = .ok (.ifCond .eq 13, 3) := by decide +kernel
theorem dX3_sun_9 : decode cX3_sun 9 = .ok (.iload_n 2, 1) := by decide +kernel
theorem dX3_sun_10 : decode cX3_sun 10 = .ok (.iconst 0, 1) := by decide +kernel
theorem dX3_sun_11 : decode cX3_sun 11 = .ok (.bipush 40, 2) := by decide +kernel
theorem dX3_sun_13 : decode cX3_sun 13 = .ok (.invokestatic 52, 3) := by decide +kernel
theorem dX3_sun_16 : decode cX3_sun 16 = .ok (.ifCond .ne 9, 3) := by decide +kernel
theorem dX3_sun_19 : decode cX3_sun 19 = .ok (.aload_n 0, 1) := by decide +kernel
theorem dX3_sun_20 : decode cX3_sun 20 = .ok (.iconst 0, 1) := by decide +kernel
theorem dX3_sun_21 : decode cX3_sun 21 = .ok (.invokevirtual 48, 3) := by decide +kernel
theorem dX3_sun_24 : decode cX3_sun 24 = .ok (.ireturn, 1) := by decide +kernel
theorem dX3_sun_25 : decode cX3_sun 25 = .ok (.aload_n 0, 1) := by decide +kernel
theorem dX3_sun_26 : decode cX3_sun 26 = .ok (.getfield 10, 3) := by decide +kernel
theorem dX3_sun_29 : decode cX3_sun 29 = .ok (.getfield 78, 3) := by decide +kernel
theorem dX3_sun_32 : decode cX3_sun 32 = .ok (.iload_n 1, 1) := by decide +kernel
theorem dX3_sun_33 : decode cX3_sun 33 = .ok (.iload_n 2, 1) := by decide +kernel
theorem dX3_sun_34 : decode cX3_sun 34 = .ok (.invokestatic 59, 3) := by decide +kernel
theorem dX3_sun_37 : decode cX3_sun 37 = .ok (.ireturn, 1) := by decide +kernel
theorem dX3_mist_0 : decode cX3_mist 0 = .ok (.iload_n 1, 1) := by decide +kernel
theorem dX3_mist_1 : decode cX3_mist 1 = .ok (.iconst 0, 1) := by decide +kernel
theorem dX3_mist_2 : decode cX3_mist 2 = .ok (.bipush 40, 2) := by decide +kernel
theorem dX3_mist_4 : decode cX3_mist 4 = .ok (.invokestatic 52, 3) := by decide +kernel
theorem dX3_mist_7 : decode cX3_mist 7 = .ok (.ifCond .ne 9, 3) := by decide +kernel
theorem dX3_mist_10 : decode cX3_mist 10 = .ok (.aload_n 0, 1) := by decide +kernel
theorem dX3_mist_11 : decode cX3_mist 11 = .ok (.iconst 0, 1) := by decide +kernel
theorem dX3_mist_12 : decode cX3_mist 12 = .ok (.invokevirtual 48, 3) := by decide +kernel
theorem dX3_mist_15 : decode cX3_mist 15 = .ok (.ireturn, 1) := by decide +kernel
theorem dX3_mist_16 : decode cX3_mist 16 = .ok (.aload_n 0, 1) := by decide +kernel
theorem dX3_mist_17 : decode cX3_mist 17 = .ok (.getfield 10, 3) := by decide +kernel
theorem dX3_mist_20 : decode cX3_mist 20 = .ok (.getfield 81, 3) := by decide +kernel
theorem dX3_mist_23 : decode cX3_mist 23 = .ok (.istore_n 2, 1) := by decide +kernel
theorem dX3_mist_24 : decode cX3_mist 24 = .ok (.aload_n 0, 1) := by decide +kernel
theorem dX3_mist_25 : decode cX3_mist 25 = .ok (.getfield 10, 3) := by decide +kernel
theorem dX3_mist_28 : decode cX3_mist 28 = .ok (.iload_n 1, 1) := by decide +kernel
theorem dX3_mist_29 : decode cX3_mist 29 = .ok (.putfield 81, 3) := by decide +kernel
theorem dX3_mist_32 : decode cX3_mist 32 = .ok (.iload_n 2, 1) := by decide +kernel
theorem dX3_mist_33 : decode cX3_mist 33 = .ok (.ireturn, 1) := by decide +kernel
theorem dX3_person_0 : decode cX3_person 0 = .ok (.iload_n 1, 1) := by decide +kernel
theorem dX3_person_1 : decode cX3_person 1 = .ok (.invokestatic 85, 3) := by decide +kernel
theorem dX3_person_4 : decode cX3_person 4 = .ok (.ifCond .ne 9, 3) := by decide +kernel
theorem dX3_person_7 : decode cX3_person 7 = .ok (.aload_n 0, 1) := by decide +kernel
theorem dX3_person_8 : decode cX3_person 8 = .ok (.iconst 0, 1) := by decide +kernel
theorem dX3_person_9 : decode cX3_person 9 = .ok (.invokevirtual 48, 3) := by decide +kernel
theorem dX3_person_12 : decode cX3_person 12 = .ok (.ireturn, 1) := by decide +kernel
theorem dX3_person_13 : decode cX3_person 13 = .ok (.aload_n 0, 1) := by decide +kernel
theorem dX3_person_14 : decode cX3_person 14 = .ok (.getfield 10, 3) := by decide +kernel
theorem dX3_person_17 : decode cX3_person 17 = .ok (.getfield 88, 3) := by decide +kernel
theorem dX3_person_20 : decode cX3_person 20 = .ok (.bipush 8, 2) := by decide +kernel
theorem dX3_person_22 : decode cX3_person 22 = .ok (.if_icmp .lt 9, 3) := by decide +kernel
theorem dX3_person_25 : decode cX3_person 25 = .ok (.aload_n 0, 1) := by decide +kernel
theorem dX3_person_26 : decode cX3_person 26 = .ok (.iconst 1, 1) := by decide +kernel
theorem dX3_person_27 : decode cX3_person 27 = .ok (.invokevirtual 48, 3) := by decide +kernel
theorem dX3_person_30 : decode cX3_person 30 = .ok (.ireturn, 1) := by decide +kernel
theorem dX3_person_31 : decode cX3_person 31 = .ok (.aload_n 0, 1) := by decide +kernel
theorem dX3_person_32 : decode cX3_person 32 = .ok (.getfield 10, 3) := by decide +kernel
theorem dX3_person_35 : decode cX3_person 35 = .ok (.iload_n 1, 1) := by decide +kernel
theorem dX3_person_36 : decode cX3_person 36 = .ok (.invokevirtual 91, 3) := by decide +kernel
theorem dX3_person_39 : decode cX3_person 39 = .ok (.ireturn, 1) := by decide +kernel
theorem dX3_of_0 : decode cX3_of 0 = .ok (.aload_n 0, 1) := by decide +kernel
theorem dX3_of_1 : decode cX3_of 1 = .ok (.getfield 10, 3) := by decide +kernel
theorem dX3_of_4 : decode cX3_of 4 = .ok (.iload_n 1, 1) := by decide +kernel
theorem dX3_of_5 : decode cX3_of 5 = .ok (.invokevirtual 66, 3) := by decide +kernel
theorem dX3_of_8 : decode cX3_of 8 = .ok (.ifCond .ne 9, 3) := by decide +kernel
theorem dX3_of_11 : decode cX3_of 11 = .ok (.aload_n 0, 1) := by decide +kernel
theorem dX3_of_12 : decode cX3_of 12 = .ok (.iconst 0, 1) := by decide +kernel
theorem dX3_of_13 : decode cX3_of 13 = .ok (.invokevirtual 48, 3) := by decide +kernel
theorem dX3_of_16 : decode cX3_of 16 = .ok (.ireturn, 1) := by decide +kernel
theorem dX3_of_17 : decode cX3_of 17 = .ok (.iload_n 2, 1) := by decide +kernel
theorem dX3_of_18 : decode cX3_of 18 = .ok (.tableswitch 87 0 7 #[46, 87, 87, 87, 87, 56, 69, 78], 46) := by decide +kernel
theorem dX3_of_64 : decode cX3_of 64 = .ok (.aload_n 0, 1) := by decide +kernel
theorem dX3_of_65 : decode cX3_of 65 = .ok (.getfield 10, 3) := by decide +kernel
theorem dX3_of_68 : decode cX3_of 68 = .ok (.getfield 94, 3) := by decide +kernel
theorem dX3_of_71 : decode cX3_of 71 = .ok (.iload_n 1, 1) := by decide +kernel
theorem dX3_of_72 : decode cX3_of 72 = .ok (.iaload, 1) := by decide +kernel
theorem dX3_of_73 : decode cX3_of 73 = .ok (.ireturn, 1) := by decide +kernel
theorem dX3_of_74 : decode cX3_of 74 = .ok (.aload_n 0, 1) := by decide +kernel
theorem dX3_of_75 : decode cX3_of 75 = .ok (.getfield 10, 3) := by decide +kernel
theorem dX3_of_78 : decode cX3_of 78 = .ok (.getfield 94, 3) := by decide +kernel
theorem dX3_of_81 : decode cX3_of 81 = .ok (.iload_n 1, 1) := by decide +kernel
theorem dX3_of_82 : decode cX3_of 82 = .ok (.iaload, 1) := by decide +kernel
theorem dX3_of_83 : decode cX3_of 83 = .ok (.invokestatic 97, 3) := by decide +kernel
theorem dX3_of_86 : decode cX3_of 86 = .ok (.ireturn, 1) := by decide +kernel
theorem dX3_of_87 : decode cX3_of 87 = .ok (.aload_n 0, 1) := by decide +kernel
theorem dX3_of_88 : decode cX3_of 88 = .ok (.getfield 10, 3) := by decide +kernel
theorem dX3_of_91 : decode cX3_of 91 = .ok (.iload_n 1, 1) := by decide +kernel
theorem dX3_of_92 : decode cX3_of 92 = .ok (.invokevirtual 100, 3) := by decide +kernel
theorem dX3_of_95 : decode cX3_of 95 = .ok (.ireturn, 1) := by decide +kernel
theorem dX3_of_96 : decode cX3_of 96 = .ok (.aload_n 0, 1) := by decide +kernel
theorem dX3_of_97 : decode cX3_of 97 = .ok (.getfield 10, 3) := by decide +kernel
theorem dX3_of_100 : decode cX3_of 100 = .ok (.iload_n 1, 1) := by decide +kernel
theorem dX3_of_101 : decode cX3_of 101 = .ok (.invokevirtual 103, 3) := by decide +kernel
theorem dX3_of_104 : decode cX3_of 104 = .ok (.ireturn, 1) := by decide +kernel
theorem dX3_of_105 : decode cX3_of 105 = .ok (.iload_n 2, 1) := by decide +kernel
theorem dX3_of_106 : decode cX3_of 106 = .ok (.iconst 1, 1) := by decide +kernel
theorem dX3_of_107 : decode cX3_of 107 = .ok (.iconst 4, 1) := by decide +kernel
theorem dX3_of_108 : decode cX3_of 108 = .ok (.invokestatic 52, 3) := by decide +kernel
theorem dX3_of_111 : decode cX3_of 111 = .ok (.ifCond .eq 15, 3) := by decide +kernel
theorem dX3_of_114 : decode cX3_of 114 = .ok (.aload_n 0, 1) := by decide +kernel
theorem dX3_of_115 : decode cX3_of 115 = .ok (.getfield 10, 3) := by decide +kernel
theorem dX3_of_118 : decode cX3_of 118 = .ok (.iload_n 1, 1) := by decide +kernel
theorem dX3_of_119 : decode cX3_of 119 = .ok (.iload_n 2, 1) := by decide +kernel
theorem dX3_of_120 : decode cX3_of 120 = .ok (.invokevirtual 106, 3) := by decide +kernel
theorem dX3_of_123 : decode cX3_of 123 = .ok (.goto 8, 3) := by decide +kernel
theorem dX3_of_126 : decode cX3_of 126 = .ok (.aload_n 0, 1) := by decide +kernel
theorem dX3_of_127 : decode cX3_of 127 = .ok (.iconst 0, 1) := by decide +kernel
theorem dX3_of_128 : decode cX3_of 128 = .ok (.invokevirtual 48, 3) := by decide +kernel
theorem dX3_of_131 : decode cX3_of 131 = .ok (.ireturn, 1) := by decide +kernel
theorem dX3_change_0 : decode cX3_change 0 = .ok (.aload_n 0, 1) := by decide +kernel
theorem dX3_change_1 : decode cX3_change 1 = .ok (.getfield 10, 3) := by decide +kernel
theorem dX3_change_4 : decode cX3_change 4 = .ok (.iload_n 1, 1) := by decide +kernel
theorem dX3_change_5 : decode cX3_change 5 = .ok (.invokevirtual 66, 3) := by decide +kernel
theorem dX3_change_8 : decode cX3_change 8 = .ok (.ifCond .ne 9, 3) := by decide +kernel
theorem dX3_change_11 : decode cX3_change 11 = .ok (.aload_n 0, 1) := by decide +kernel
theorem dX3_change_12 : decode cX3_change 12 = .ok (.iconst 0, 1) := by decide +kernel
theorem dX3_change_13 : decode cX3_change 13 = .ok (.invokevirtual 48, 3) := by decide +kernel
theorem dX3_change_16 : decode cX3_change 16 = .ok (.ireturn, 1) := by decide +kernel
theorem dX3_change_17 : decode cX3_change 17 = .ok (.iload_n 2, 1) := by decide +kernel
theorem dX3_change_18 : decode cX3_change 18 = .ok (.ifCond .ne 23, 3) := by decide +kernel
theorem dX3_change_21 : decode cX3_change 21 = .ok (.iload_n 3, 1) := by decide +kernel
theorem dX3_change_22 : decode cX3_change 22 = .ok (.invokestatic 85, 3) := by decide +kernel
theorem dX3_change_25 : decode cX3_change 25 = .ok (.ifCond .eq 16, 3) := by decide +kernel
theorem dX3_change_28 : decode cX3_change 28 = .ok (.aload_n 0, 1) := by decide +kernel
theorem dX3_change_29 : decode cX3_change 29 = .ok (.getfield 10, 3) := by decide +kernel
theorem dX3_change_32 : decode cX3_change 32 = .ok (.getfield 94, 3) := by decide +kernel
theorem dX3_change_35 : decode cX3_change 35 = .ok (.iload_n 1, 1) := by decide +kernel
theorem dX3_change_36 : decode cX3_change 36 = .ok (.iload_n 3, 1) := by decide +kernel
theorem dX3_change_37 : decode cX3_change 37 = .ok (.invokestatic 59, 3) := by decide +kernel
theorem dX3_change_40 : decode cX3_change 40 = .ok (.ireturn, 1) := by decide +kernel
theorem dX3_change_41 : decode cX3_change 41 = .ok (.iload_n 2, 1) := by decide +kernel
theorem dX3_change_42 : decode cX3_change 42 = .ok (.iconst 1, 1) := by decide +kernel
theorem dX3_change_43 : decode cX3_change 43 = .ok (.if_icmp .ne 28, 3) := by decide +kernel
theorem dX3_change_46 : decode cX3_change 46 = .ok (.iload_n 3, 1) := by decide +kernel
theorem dX3_change_47 : decode cX3_change 47 = .ok (.iconst (-1), 1) := by decide +kernel
theorem dX3_change_48 : decode cX3_change 48 = .ok (.if_icmp .eq 10, 3) := by decide +kernel
theorem dX3_change_51 : decode cX3_change 51 = .ok (.iload_n 3, 1) := by decide +kernel
theorem dX3_change_52 : decode cX3_change 52 = .ok (.invokestatic 44, 3) := by decide +kernel
theorem dX3_change_55 : decode cX3_change 55 = .ok (.ifCond .eq 16, 3) := by decide +kernel
theorem dX3_change_58 : decode cX3_change 58 = .ok (.aload_n 0, 1) := by decide +kernel
theorem dX3_change_59 : decode cX3_change 59 = .ok (.getfield 10, 3) := by decide +kernel
theorem dX3_change_62 : decode cX3_change 62 = .ok (.getfield 110, 3) := by decide +kernel
theorem dX3_change_65 : decode cX3_change 65 = .ok (.iload_n 1, 1) := by decide +kernel
theorem dX3_change_66 : decode cX3_change 66 = .ok (.iload_n 3, 1) := by decide +kernel
theorem dX3_change_67 : decode cX3_change 67 = .ok (.invokestatic 59, 3) := by decide +kernel
theorem dX3_change_70 : decode cX3_change 70 = .ok (.ireturn, 1) := by decide +kernel
theorem dX3_change_71 : decode cX3_change 71 = .ok (.iload_n 2, 1) := by decide +kernel
theorem dX3_change_72 : decode cX3_change 72 = .ok (.iconst 2, 1) := by decide +kernel
theorem dX3_change_73 : decode cX3_change 73 = .ok (.if_icmp .ne 26, 3) := by decide +kernel
theorem dX3_change_76 : decode cX3_change 76 = .ok (.iload_n 3, 1) := by decide +kernel
theorem dX3_change_77 : decode cX3_change 77 = .ok (.iconst 0, 1) := by decide +kernel
theorem dX3_change_78 : decode cX3_change 78 = .ok (.bipush 99, 2) := by decide +kernel
theorem dX3_change_80 : decode cX3_change 80 = .ok (.invokestatic 52, 3) := by decide +kernel
theorem dX3_change_83 : decode cX3_change 83 = .ok (.ifCond .eq 16, 3) := by decide +kernel
theorem dX3_change_86 : decode cX3_change 86 = .ok (.aload_n 0, 1) := by decide +kernel
theorem dX3_change_87 : decode cX3_change 87 = .ok (.getfield 10, 3) := by decide +kernel
theorem dX3_change_90 : decode cX3_change 90 = .ok (.getfield 113, 3) := by decide +kernel
theorem dX3_change_93 : decode cX3_change 93 = .ok (.iload_n 1, 1) := by decide +kernel
theorem dX3_change_94 : decode cX3_change 94 = .ok (.iload_n 3, 1) := by decide +kernel
theorem dX3_change_95 : decode cX3_change 95 = .ok (.invokestatic 59, 3) := by decide +kernel
theorem dX3_change_98 : decode cX3_change 98 = .ok (.ireturn, 1) := by decide +kernel
theorem dX3_change_99 : decode cX3_change 99 = .ok (.iload_n 2, 1) := by decide +kernel
theorem dX3_change_100 : decode cX3_change 100 = .ok (.iconst 3, 1) := by decide +kernel
theorem dX3_change_101 : decode cX3_change 101 = .ok (.if_icmp .ne 27, 3) := by decide +kernel
theorem dX3_change_104 : decode cX3_change 104 = .ok (.iload_n 3, 1) := by decide +kernel
theorem dX3_change_105 : decode cX3_change 105 = .ok (.iconst 0, 1) := by decide +kernel
theorem dX3_change_106 : decode cX3_change 106 = .ok (.sipush 9999, 3) := by decide +kernel
theorem dX3_change_109 : decode cX3_change 109 = .ok (.invokestatic 52, 3) := by decide +kernel
theorem dX3_change_112 : decode cX3_change 112 = .ok (.ifCond .eq 16, 3) := by decide +kernel
theorem dX3_change_115 : decode cX3_change 115 = .ok (.aload_n 0, 1) := by decide +kernel
theorem dX3_change_116 : decode cX3_change 116 = .ok (.getfield 10, 3) := by decide +kernel
theorem dX3_change_119 : decode cX3_change 119 = .ok (.getfield 116, 3) := by decide +kernel
theorem dX3_change_122 : decode cX3_change 122 = .ok (.iload_n 1, 1) := by decide +kernel
theorem dX3_change_123 : decode cX3_change 123 = .ok (.iload_n 3, 1) := by decide +kernel
theorem dX3_change_124 : decode cX3_change 124 = .ok (.invokestatic 59, 3) := by decide +kernel
theorem dX3_change_127 : decode cX3_change 127 = .ok (.ireturn, 1) := by decide +kernel
theorem dX3_change_128 : decode cX3_change 128 = .ok (.iload_n 2, 1) := by decide +kernel
theorem dX3_change_129 : decode cX3_change 129 = .ok (.iconst 4, 1) := by decide +kernel
theorem dX3_change_130 : decode cX3_change 130 = .ok (.if_icmp .ne 27, 3) := by decide +kernel
theorem dX3_change_133 : decode cX3_change 133 = .ok (.iload_n 3, 1) := by decide +kernel
theorem dX3_change_134 : decode cX3_change 134 = .ok (.iconst 0, 1) := by decide +kernel
theorem dX3_change_135 : decode cX3_change 135 = .ok (.sipush 9999, 3) := by decide +kernel
theorem dX3_change_138 : decode cX3_change 138 = .ok (.invokestatic 52, 3) := by decide +kernel
theorem dX3_change_141 : decode cX3_change 141 = .ok (.ifCond .eq 16, 3) := by decide +kernel
theorem dX3_change_144 : decode cX3_change 144 = .ok (.aload_n 0, 1) := by decide +kernel
theorem dX3_change_145 : decode cX3_change 145 = .ok (.getfield 10, 3) := by decide +kernel
theorem dX3_change_148 : decode cX3_change 148 = .ok (.getfield 119, 3) := by decide +kernel
theorem dX3_change_151 : decode cX3_change 151 = .ok (.iload_n 1, 1) := by decide +kernel
theorem dX3_change_152 : decode cX3_change 152 = .ok (.iload_n 3, 1) := by decide +kernel
theorem dX3_change_153 : decode cX3_change 153 = .ok (.invokestatic 59, 3) := by decide +kernel
theorem dX3_change_156 : decode cX3_change 156 = .ok (.ireturn, 1) := by decide +kernel
theorem dX3_change_157 : decode cX3_change 157 = .ok (.aload_n 0, 1) := by decide +kernel
theorem dX3_change_158 : decode cX3_change 158 = .ok (.iconst 0, 1) := by decide +kernel
theorem dX3_change_159 : decode cX3_change 159 = .ok (.invokevirtual 48, 3) := by decide +kernel
theorem dX3_change_162 : decode cX3_change 162 = .ok (.ireturn, 1) := by decide +kernel
theorem dX3_trust_0 : decode cX3_trust 0 = .ok (.aload_n 0, 1) := by decide +kernel
theorem dX3_trust_1 : decode cX3_trust 1 = .ok (.getfield 10, 3) := by decide +kernel
theorem dX3_trust_4 : decode cX3_trust 4 = .ok (.iload_n 1, 1) := by decide +kernel
theorem dX3_trust_5 : decode cX3_trust 5 = .ok (.invokevirtual 66, 3) := by decide +kernel
theorem dX3_trust_8 : decode cX3_trust 8 = .ok (.ifCond .eq 10, 3) := by decide +kernel
theorem dX3_trust_11 : decode cX3_trust 11 = .ok (.iload_n 2, 1) := by decide +kernel
theorem dX3_trust_12 : decode cX3_trust 12 = .ok (.invokestatic 44, 3) := by decide +kernel
theorem dX3_trust_15 : decode cX3_trust 15 = .ok (.ifCond .ne 9, 3) := by decide +kernel
theorem dX3_trust_18 : decode cX3_trust 18 = .ok (.aload_n 0, 1) := by decide +kernel
theorem dX3_trust_19 : decode cX3_trust 19 = .ok (.iconst 0, 1) := by decide +kernel
theorem dX3_trust_20 : decode cX3_trust 20 = .ok (.invokevirtual 48, 3) := by decide +kernel
theorem dX3_trust_23 : decode cX3_trust 23 = .ok (.ireturn, 1) := by decide +kernel
theorem dX3_trust_24 : decode cX3_trust 24 = .ok (.aload_n 0, 1) := by decide +kernel
theorem dX3_trust_25 : decode cX3_trust 25 = .ok (.getfield 10, 3) := by decide +kernel
theorem dX3_trust_28 : decode cX3_trust 28 = .ok (.iload_n 1, 1) := by decide +kernel
theorem dX3_trust_29 : decode cX3_trust 29 = .ok (.iload_n 2, 1) := by decide +kernel
theorem dX3_trust_30 : decode cX3_trust 30 = .ok (.invokevirtual 122, 3) := by decide +kernel
theorem dX3_trust_33 : decode cX3_trust 33 = .ok (.ireturn, 1) := by decide +kernel
theorem dX3_go_0 : decode cX3_go 0 = .ok (.iload_n 1, 1) := by decide +kernel
theorem dX3_go_1 : decode cX3_go 1 = .ok (.iconst 1, 1) := by decide +kernel
theorem dX3_go_2 : decode cX3_go 2 = .ok (.bipush 60, 2) := by decide +kernel
theorem dX3_go_4 : decode cX3_go 4 = .ok (.invokestatic 52, 3) := by decide +kernel
theorem dX3_go_7 : decode cX3_go 7 = .ok (.ifCond .ne 9, 3) := by decide +kernel
theorem dX3_go_10 : decode cX3_go 10 = .ok (.aload_n 0, 1) := by decide +kernel
theorem dX3_go_11 : decode cX3_go 11 = .ok (.iconst 0, 1) := by decide +kernel
theorem dX3_go_12 : decode cX3_go 12 = .ok (.invokevirtual 48, 3) := by decide +kernel
theorem dX3_go_15 : decode cX3_go 15 = .ok (.ireturn, 1) := by decide +kernel
theorem dX3_go_16 : decode cX3_go 16 = .ok (.aload_n 0, 1) := by decide +kernel
theorem dX3_go_17 : decode cX3_go 17 = .ok (.getfield 10, 3) := by decide +kernel
theorem dX3_go_20 : decode cX3_go 20 = .ok (.getfield 125, 3) := by decide +kernel
theorem dX3_go_23 : decode cX3_go 23 = .ok (.iload_n 1, 1) := by decide +kernel
theorem dX3_go_24 : decode cX3_go 24 = .ok (.iadd, 1) := by decide +kernel
theorem dX3_go_25 : decode cX3_go 25 = .ok (.ldc 128, 2) := by decide +kernel
theorem dX3_go_27 : decode cX3_go 27 = .ok (.if_icmp .le 9, 3) := by decide +kernel
theorem dX3_go_30 : decode cX3_go 30 = .ok (.aload_n 0, 1) := by decide +kernel
theorem dX3_go_31 : decode cX3_go 31 = .ok (.iconst 4, 1) := by decide +kernel
theorem dX3_go_32 : decode cX3_go 32 = .ok (.invokevirtual 48, 3) := by decide +kernel
theorem dX3_go_35 : decode cX3_go 35 = .ok (.ireturn, 1) := by decide +kernel
theorem dX3_go_36 : decode cX3_go 36 = .ok (.aload_n 0, 1) := by decide +kernel
theorem dX3_go_37 : decode cX3_go 37 = .ok (.getfield 10, 3) := by decide +kernel
theorem dX3_go_40 : decode cX3_go 40 = .ok (.iload_n 1, 1) := by decide +kernel
theorem dX3_go_41 : decode cX3_go 41 = .ok (.invokevirtual 129, 3) := by decide +kernel
theorem dX3_go_44 : decode cX3_go 44 = .ok (.aload_n 0, 1) := by decide +kernel
theorem dX3_go_45 : decode cX3_go 45 = .ok (.getfield 10, 3) := by decide +kernel
theorem dX3_go_48 : decode cX3_go 48 = .ok (.invokevirtual 133, 3) := by decide +kernel
theorem dX3_go_51 : decode cX3_go 51 = .ok (.ireturn, 1) := by decide +kernel
theorem dX3_now_0 : decode cX3_now 0 = .ok (.iload_n 1, 1) := by decide +kernel
theorem dX3_now_1 : decode cX3_now 1 = .ok (.tableswitch 152 0 7 #[47, 55, 68, 76, 94, 112, 125, 143], 47) := by decide +kernel
theorem dX3_now_48 : decode cX3_now 48 = .ok (.aload_n 0, 1) := by decide +kernel
theorem dX3_now_49 : decode cX3_now 49 = .ok (.getfield 10, 3) := by decide +kernel
theorem dX3_now_52 : decode cX3_now 52 = .ok (.getfield 125, 3) := by decide +kernel
theorem dX3_now_55 : decode cX3_now 55 = .ok (.ireturn, 1) := by decide +kernel
theorem dX3_now_56 : decode cX3_now 56 = .ok (.aload_n 0, 1) := by decide +kernel
theorem dX3_now_57 : decode cX3_now 57 = .ok (.getfield 10, 3) := by decide +kernel
theorem dX3_now_60 : decode cX3_now 60 = .ok (.getfield 56, 3) := by decide +kernel
theorem dX3_now_63 : decode cX3_now 63 = .ok (.bipush 10, 2) := by decide +kernel
theorem dX3_now_65 : decode cX3_now 65 = .ok (.invokestatic 137, 3) := by decide +kernel
theorem dX3_now_68 : decode cX3_now 68 = .ok (.ireturn, 1) := by decide +kernel
theorem dX3_now_69 : decode cX3_now 69 = .ok (.aload_n 0, 1) := by decide +kernel
theorem dX3_now_70 : decode cX3_now 70 = .ok (.getfield 10, 3) := by decide +kernel
theorem dX3_now_73 : decode cX3_now 73 = .ok (.invokevirtual 133, 3) := by decide +kernel
theorem dX3_now_76 : decode cX3_now 76 = .ok (.ireturn, 1) := by decide +kernel
theorem dX3_now_77 : decode cX3_now 77 = .ok (.aload_n 0, 1) := by decide +kernel
theorem dX3_now_78 : decode cX3_now 78 = .ok (.getfield 10, 3) := by decide +kernel
theorem dX3_now_81 : decode cX3_now 81 = .ok (.getfield 116, 3) := by decide +kernel
theorem dX3_now_84 : decode cX3_now 84 = .ok (.aload_n 0, 1) := by decide +kernel
theorem dX3_now_85 : decode cX3_now 85 = .ok (.getfield 10, 3) := by decide +kernel
theorem dX3_now_88 : decode cX3_now 88 = .ok (.getfield 88, 3) := by decide +kernel
theorem dX3_now_91 : decode cX3_now 91 = .ok (.invokestatic 137, 3) := by decide +kernel
theorem dX3_now_94 : decode cX3_now 94 = .ok (.ireturn, 1) := by decide +kernel
theorem dX3_now_95 : decode cX3_now 95 = .ok (.aload_n 0, 1) := by decide +kernel
theorem dX3_now_96 : decode cX3_now 96 = .ok (.getfield 10, 3) := by decide +kernel
theorem dX3_now_99 : decode cX3_now 99 = .ok (.getfield 119, 3) := by decide +kernel
theorem dX3_now_102 : decode cX3_now 102 = .ok (.aload_n 0, 1) := by decide +kernel
theorem dX3_now_103 : decode cX3_now 103 = .ok (.getfield 10, 3) := by decide +kernel
theorem dX3_now_106 : decode cX3_now 106 = .ok (.getfield 88, 3) := by decide +kernel
theorem dX3_now_109 : decode cX3_now 109 = .ok (.invokestatic 137, 3) := by decide +kernel
theorem dX3_now_112 : decode cX3_now 112 = .ok (.ireturn, 1) := by decide +kernel
theorem dX3_now_113 : decode cX3_now 113 = .ok (.aload_n 0, 1) := by decide +kernel
theorem dX3_now_114 : decode cX3_now 114 = .ok (.getfield 10, 3) := by decide +kernel
theorem dX3_now_117 : decode cX3_now 117 = .ok (.getfield 56, 3) := by decide +kernel
theorem dX3_now_120 : decode cX3_now 120 = .ok (.bipush 10, 2) := by decide +kernel
theorem dX3_now_122 : decode cX3_now 122 = .ok (.invokestatic 141, 3) := by decide +kernel
theorem dX3_now_125 : decode cX3_now 125 = .ok (.ireturn, 1) := by decide +kernel
theorem dX3_now_126 : decode cX3_now 126 = .ok (.aload_n 0, 1) := by decide +kernel
theorem dX3_now_127 : decode cX3_now 127 = .ok (.getfield 10, 3) := by decide +kernel
theorem dX3_now_130 : decode cX3_now 130 = .ok (.getfield 116, 3) := by decide +kernel
theorem dX3_now_133 : decode cX3_now 133 = .ok (.aload_n 0, 1) := by decide +kernel
theorem dX3_now_134 : decode cX3_now 134 = .ok (.getfield 10, 3) := by decide +kernel
theorem dX3_now_137 : decode cX3_now 137 = .ok (.getfield 88, 3) := by decide +kernel
theorem dX3_now_140 : decode cX3_now 140 = .ok (.invokestatic 141, 3) := by decide +kernel
theorem dX3_now_143 : decode cX3_now 143 = .ok (.ireturn, 1) := by decide +kernel
theorem dX3_now_144 : decode cX3_now 144 = .ok (.aload_n 0, 1) := by decide +kernel
theorem dX3_now_145 : decode cX3_now 145 = .ok (.getfield 10, 3) := by decide +kernel
theorem dX3_now_148 : decode cX3_now 148 = .ok (.iconst (-1), 1) := by decide +kernel
theorem dX3_now_149 : decode cX3_now 149 = .ok (.invokevirtual 103, 3) := by decide +kernel
theorem dX3_now_152 : decode cX3_now 152 = .ok (.ireturn, 1) := by decide +kernel
theorem dX3_now_153 : decode cX3_now 153 = .ok (.aload_n 0, 1) := by decide +kernel
theorem dX3_now_154 : decode cX3_now 154 = .ok (.iconst 0, 1) := by decide +kernel
theorem dX3_now_155 : decode cX3_now 155 = .ok (.invokevirtual 48, 3) := by decide +kernel
theorem dX3_now_158 : decode cX3_now 158 = .ok (.ireturn, 1) := by decide +kernel
theorem dX3_ahead_0 : decode cX3_ahead 0 = .ok (.aload_n 0, 1) := by decide +kernel
theorem dX3_ahead_1 : decode cX3_ahead 1 = .ok (.getfield 10, 3) := by decide +kernel
theorem dX3_ahead_4 : decode cX3_ahead 4 = .ok (.iload_n 1, 1) := by decide +kernel
theorem dX3_ahead_5 : decode cX3_ahead 5 = .ok (.invokevirtual 66, 3) := by decide +kernel
theorem dX3_ahead_8 : decode cX3_ahead 8 = .ok (.ifCond .eq 22, 3) := by decide +kernel
theorem dX3_ahead_11 : decode cX3_ahead 11 = .ok (.iload_n 2, 1) := by decide +kernel
theorem dX3_ahead_12 : decode cX3_ahead 12 = .ok (.iconst 1, 1) := by decide +kernel
theorem dX3_ahead_13 : decode cX3_ahead 13 = .ok (.iconst 4, 1) := by decide +kernel
theorem dX3_ahead_14 : decode cX3_ahead 14 = .ok (.invokestatic 52, 3) := by decide +kernel
theorem dX3_ahead_17 : decode cX3_ahead 17 = .ok (.ifCond .eq 13, 3) := by decide +kernel
theorem dX3_ahead_20 : decode cX3_ahead 20 = .ok (.iload_n 3, 1) := by decide +kernel
theorem dX3_ahead_21 : decode cX3_ahead 21 = .ok (.iconst 0, 1) := by decide +kernel
theorem dX3_ahead_22 : decode cX3_ahead 22 = .ok (.bipush 100, 2) := by decide +kernel
theorem dX3_ahead_24 : decode cX3_ahead 24 = .ok (.invokestatic 52, 3) := by decide +kernel
theorem dX3_ahead_27 : decode cX3_ahead 27 = .ok (.ifCond .ne 9, 3) := by decide +kernel
theorem dX3_ahead_30 : decode cX3_ahead 30 = .ok (.aload_n 0, 1) := by decide +kernel
theorem dX3_ahead_31 : decode cX3_ahead 31 = .ok (.iconst 0, 1) := by decide +kernel
theorem dX3_ahead_32 : decode cX3_ahead 32 = .ok (.invokevirtual 48, 3) := by decide +kernel
theorem dX3_ahead_35 : decode cX3_ahead 35 = .ok (.ireturn, 1) := by decide +kernel
theorem dX3_ahead_36 : decode cX3_ahead 36 = .ok (.aload_n 0, 1) := by decide +kernel
theorem dX3_ahead_37 : decode cX3_ahead 37 = .ok (.getfield 16, 3) := by decide +kernel
theorem dX3_ahead_40 : decode cX3_ahead 40 = .ok (.aload_n 0, 1) := by decide +kernel
theorem dX3_ahead_41 : decode cX3_ahead 41 = .ok (.getfield 10, 3) := by decide +kernel
theorem dX3_ahead_44 : decode cX3_ahead 44 = .ok (.invokevirtual 144, 3) := by decide +kernel
theorem dX3_ahead_47 : decode cX3_ahead 47 = .ok (.aload_n 0, 1) := by decide +kernel
theorem dX3_ahead_48 : decode cX3_ahead 48 = .ok (.getfield 16, 3) := by decide +kernel
theorem dX3_ahead_51 : decode cX3_ahead 51 = .ok (.iload_n 3, 1) := by decide +kernel
theorem dX3_ahead_52 : decode cX3_ahead 52 = .ok (.invokevirtual 129, 3) := by decide +kernel
theorem dX3_ahead_55 : decode cX3_ahead 55 = .ok (.aload_n 0, 1) := by decide +kernel
theorem dX3_ahead_56 : decode cX3_ahead 56 = .ok (.getfield 16, 3) := by decide +kernel
theorem dX3_ahead_59 : decode cX3_ahead 59 = .ok (.iload_n 1, 1) := by decide +kernel
theorem dX3_ahead_60 : decode cX3_ahead 60 = .ok (.iload_n 2, 1) := by decide +kernel
theorem dX3_ahead_61 : decode cX3_ahead 61 = .ok (.invokevirtual 106, 3) := by decide +kernel
theorem dX3_ahead_64 : decode cX3_ahead 64 = .ok (.ireturn, 1) := by decide +kernel
theorem dX3_fog_0 : decode cX3_fog 0 = .ok (.iload_n 1, 1) := by decide +kernel
theorem dX3_fog_1 : decode cX3_fog 1 = .ok (.invokestatic 44, 3) := by decide +kernel
theorem dX3_fog_4 : decode cX3_fog 4 = .ok (.ifCond .eq 13, 3) := by decide +kernel
theorem dX3_fog_7 : decode cX3_fog 7 = .ok (.iload_n 2, 1) := by decide +kernel
theorem dX3_fog_8 : decode cX3_fog 8 = .ok (.iconst 0, 1) := by decide +kernel
theorem dX3_fog_9 : decode cX3_fog 9 = .ok (.bipush 100, 2) := by decide +kernel
theorem dX3_fog_11 : decode cX3_fog 11 = .ok (.invokestatic 52, 3) := by decide +kernel
theorem dX3_fog_14 : decode cX3_fog 14 = .ok (.ifCond .ne 9, 3) := by decide +kernel
theorem dX3_fog_17 : decode cX3_fog 17 = .ok (.aload_n 0, 1) := by decide +kernel
theorem dX3_fog_18 : decode cX3_fog 18 = .ok (.iconst 0, 1) := by decide +kernel
theorem dX3_fog_19 : decode cX3_fog 19 = .ok (.invokevirtual 48, 3) := by decide +kernel
theorem dX3_fog_22 : decode cX3_fog 22 = .ok (.ireturn, 1) := by decide +kernel
theorem dX3_fog_23 : decode cX3_fog 23 = .ok (.aload_n 0, 1) := by decide +kernel
theorem dX3_fog_24 : decode cX3_fog 24 = .ok (.getfield 16, 3) := by decide +kernel
theorem dX3_fog_27 : decode cX3_fog 27 = .ok (.aload_n 0, 1) := by decide +kernel
theorem dX3_fog_28 : decode cX3_fog 28 = .ok (.getfield 10, 3) := by decide +kernel
theorem dX3_fog_31 : decode cX3_fog 31 = .ok (.invokevirtual 144, 3) := by decide +kernel
theorem dX3_fog_34 : decode cX3_fog 34 = .ok (.aload_n 0, 1) := by decide +kernel
theorem dX3_fog_35 : decode cX3_fog 35 = .ok (.getfield 16, 3) := by decide +kernel
theorem dX3_fog_38 : decode cX3_fog 38 = .ok (.iload_n 2, 1) := by decide +kernel
theorem dX3_fog_39 : decode cX3_fog 39 = .ok (.invokevirtual 129, 3) := by decide +kernel
theorem dX3_fog_42 : decode cX3_fog 42 = .ok (.aload_n 0, 1) := by decide +kernel
theorem dX3_fog_43 : decode cX3_fog 43 = .ok (.getfield 16, 3) := by decide +kernel
theorem dX3_fog_46 : decode cX3_fog 46 = .ok (.getfield 56, 3) := by decide +kernel
theorem dX3_fog_49 : decode cX3_fog 49 = .ok (.iload_n 1, 1) := by decide +kernel
theorem dX3_fog_50 : decode cX3_fog 50 = .ok (.iaload, 1) := by decide +kernel
theorem dX3_fog_51 : decode cX3_fog 51 = .ok (.ireturn, 1) := by decide +kernel
theorem dX3_falls_0 : decode cX3_falls 0 = .ok (.aload_n 0, 1) := by decide +kernel
theorem dX3_falls_1 : decode cX3_falls 1 = .ok (.getfield 10, 3) := by decide +kernel
theorem dX3_falls_4 : decode cX3_falls 4 = .ok (.iload_n 1, 1) := by decide +kernel
theorem dX3_falls_5 : decode cX3_falls 5 = .ok (.invokevirtual 66, 3) := by decide +kernel
theorem dX3_falls_8 : decode cX3_falls 8 = .ok (.ifCond .ne 9, 3) := by decide +kernel
theorem dX3_falls_11 : decode cX3_falls 11 = .ok (.aload_n 0, 1) := by decide +kernel
theorem dX3_falls_12 : decode cX3_falls 12 = .ok (.iconst 0, 1) := by decide +kernel
theorem dX3_falls_13 : decode cX3_falls 13 = .ok (.invokevirtual 48, 3) := by decide +kernel
theorem dX3_falls_16 : decode cX3_falls 16 = .ok (.ireturn, 1) := by decide +kernel
theorem dX3_falls_17 : decode cX3_falls 17 = .ok (.aload_n 0, 1) := by decide +kernel
theorem dX3_falls_18 : decode cX3_falls 18 = .ok (.getfield 16, 3) := by decide +kernel
theorem dX3_falls_21 : decode cX3_falls 21 = .ok (.aload_n 0, 1) := by decide +kernel
theorem dX3_falls_22 : decode cX3_falls 22 = .ok (.getfield 10, 3) := by decide +kernel
theorem dX3_falls_25 : decode cX3_falls 25 = .ok (.invokevirtual 144, 3) := by decide +kernel
theorem dX3_falls_28 : decode cX3_falls 28 = .ok (.iconst 1, 1) := by decide +kernel
theorem dX3_falls_29 : decode cX3_falls 29 = .ok (.istore_n 2, 1) := by decide +kernel
theorem dX3_falls_30 : decode cX3_falls 30 = .ok (.iload_n 2, 1) := by decide +kernel
theorem dX3_falls_31 : decode cX3_falls 31 = .ok (.bipush 100, 2) := by decide +kernel
theorem dX3_falls_33 : decode cX3_falls 33 = .ok (.if_icmp .gt 40, 3) := by decide +kernel
theorem dX3_falls_36 : decode cX3_falls 36 = .ok (.aload_n 0, 1) := by decide +kernel
theorem dX3_falls_37 : decode cX3_falls 37 = .ok (.getfield 16, 3) := by decide +kernel
theorem dX3_falls_40 : decode cX3_falls 40 = .ok (.iconst 1, 1) := by decide +kernel
theorem dX3_falls_41 : decode cX3_falls 41 = .ok (.invokevirtual 129, 3) := by decide +kernel
theorem dX3_falls_44 : decode cX3_falls 44 = .ok (.aload_n 0, 1) := by decide +kernel
theorem dX3_falls_45 : decode cX3_falls 45 = .ok (.getfield 16, 3) := by decide +kernel
theorem dX3_falls_48 : decode cX3_falls 48 = .ok (.getfield 119, 3) := by decide +kernel
theorem dX3_falls_51 : decode cX3_falls 51 = .ok (.iload_n 1, 1) := by decide +kernel
theorem dX3_falls_52 : decode cX3_falls 52 = .ok (.iaload, 1) := by decide +kernel
theorem dX3_falls_53 : decode cX3_falls 53 = .ok (.aload_n 0, 1) := by decide +kernel
theorem dX3_falls_54 : decode cX3_falls 54 = .ok (.getfield 10, 3) := by decide +kernel
theorem dX3_falls_57 : decode cX3_falls 57 = .ok (.getfield 119, 3) := by decide +kernel
theorem dX3_falls_60 : decode cX3_falls 60 = .ok (.iload_n 1, 1) := by decide +kernel
theorem dX3_falls_61 : decode cX3_falls 61 = .ok (.iaload, 1) := by decide +kernel
theorem dX3_falls_62 : decode cX3_falls 62 = .ok (.if_icmp .le 5, 3) := by decide +kernel
theorem dX3_falls_65 : decode cX3_falls 65 = .ok (.iload_n 2, 1) := by decide +kernel
theorem dX3_falls_66 : decode cX3_falls 66 = .ok (.ireturn, 1) := by decide +kernel
theorem dX3_falls_67 : decode cX3_falls 67 = .ok (.iinc 2 1, 3) := by decide +kernel
theorem dX3_falls_70 : decode cX3_falls 70 = .ok (.goto (-40), 3) := by decide +kernel
theorem dX3_falls_73 : decode cX3_falls 73 = .ok (.aload_n 0, 1) := by decide +kernel
theorem dX3_falls_74 : decode cX3_falls 74 = .ok (.iconst 3, 1) := by decide +kernel
theorem dX3_falls_75 : decode cX3_falls 75 = .ok (.invokevirtual 48, 3) := by decide +kernel
theorem dX3_falls_78 : decode cX3_falls 78 = .ok (.ireturn, 1) := by decide +kernel
theorem dX3_bare_0 : decode cX3_bare 0 = .ok (.aload_n 0, 1) := by decide +kernel
theorem dX3_bare_1 : decode cX3_bare 1 = .ok (.getfield 16, 3) := by decide +kernel
theorem dX3_bare_4 : decode cX3_bare 4 = .ok (.aload_n 0, 1) := by decide +kernel
theorem dX3_bare_5 : decode cX3_bare 5 = .ok (.getfield 10, 3) := by decide +kernel
theorem dX3_bare_8 : decode cX3_bare 8 = .ok (.invokevirtual 144, 3) := by decide +kernel
theorem dX3_bare_11 : decode cX3_bare 11 = .ok (.iconst 0, 1) := by decide +kernel
theorem dX3_bare_12 : decode cX3_bare 12 = .ok (.istore_n 1, 1) := by decide +kernel
theorem dX3_bare_13 : decode cX3_bare 13 = .ok (.iload_n 1, 1) := by decide +kernel
theorem dX3_bare_14 : decode cX3_bare 14 = .ok (.bipush 100, 2) := by decide +kernel
theorem dX3_bare_16 : decode cX3_bare 16 = .ok (.if_icmp .gt 29, 3) := by decide +kernel
theorem dX3_bare_19 : decode cX3_bare 19 = .ok (.aload_n 0, 1) := by decide +kernel
theorem dX3_bare_20 : decode cX3_bare 20 = .ok (.getfield 16, 3) := by decide +kernel
theorem dX3_bare_23 : decode cX3_bare 23 = .ok (.invokevirtual 133, 3) := by decide +kernel
theorem dX3_bare_26 : decode cX3_bare 26 = .ok (.ifCond .ne 5, 3) := by decide +kernel
theorem dX3_bare_29 : decode cX3_bare 29 = .ok (.iload_n 1, 1) := by decide +kernel
theorem dX3_bare_30 : decode cX3_bare 30 = .ok (.ireturn, 1) := by decide +kernel
theorem dX3_bare_31 : decode cX3_bare 31 = .ok (.aload_n 0, 1) := by decide +kernel
theorem dX3_bare_32 : decode cX3_bare 32 = .ok (.getfield 16, 3) := by decide +kernel
theorem dX3_bare_35 : decode cX3_bare 35 = .ok (.iconst 1, 1) := by decide +kernel
theorem dX3_bare_36 : decode cX3_bare 36 = .ok (.invokevirtual 129, 3) := by decide +kernel
theorem dX3_bare_39 : decode cX3_bare 39 = .ok (.iinc 1 1, 3) := by decide +kernel
theorem dX3_bare_42 : decode cX3_bare 42 = .ok (.goto (-29), 3) := by decide +kernel
theorem dX3_bare_45 : decode cX3_bare 45 = .ok (.aload_n 0, 1) := by decide +kernel
theorem dX3_bare_46 : decode cX3_bare 46 = .ok (.iconst 3, 1) := by decide +kernel
theorem dX3_bare_47 : decode cX3_bare 47 = .ok (.invokevirtual 48, 3) := by decide +kernel
theorem dX3_bare_50 : decode cX3_bare 50 = .ok (.ireturn, 1) := by decide +kernel
theorem dX3_meet_0 : decode cX3_meet 0 = .ok (.aload_n 0, 1) := by decide +kernel
theorem dX3_meet_1 : decode cX3_meet 1 = .ok (.getfield 10, 3) := by decide +kernel
theorem dX3_meet_4 : decode cX3_meet 4 = .ok (.iload_n 1, 1) := by decide +kernel
theorem dX3_meet_5 : decode cX3_meet 5 = .ok (.invokevirtual 66, 3) := by decide +kernel
theorem dX3_meet_8 : decode cX3_meet 8 = .ok (.ifCond .eq 19, 3) := by decide +kernel
theorem dX3_meet_11 : decode cX3_meet 11 = .ok (.aload_n 0, 1) := by decide +kernel
theorem dX3_meet_12 : decode cX3_meet 12 = .ok (.getfield 10, 3) := by decide +kernel
theorem dX3_meet_15 : decode cX3_meet 15 = .ok (.iload_n 2, 1) := by decide +kernel
theorem dX3_meet_16 : decode cX3_meet 16 = .ok (.invokevirtual 66, 3) := by decide +kernel
theorem dX3_meet_19 : decode cX3_meet 19 = .ok (.ifCond .eq 8, 3) := by decide +kernel
theorem dX3_meet_22 : decode cX3_meet 22 = .ok (.iload_n 1, 1) := by decide +kernel
theorem dX3_meet_23 : decode cX3_meet 23 = .ok (.iload_n 2, 1) := by decide +kernel
theorem dX3_meet_24 : decode cX3_meet 24 = .ok (.if_icmp .ne 9, 3) := by decide +kernel
theorem dX3_meet_27 : decode cX3_meet 27 = .ok (.aload_n 0, 1) := by decide +kernel
theorem dX3_meet_28 : decode cX3_meet 28 = .ok (.iconst 0, 1) := by decide +kernel
theorem dX3_meet_29 : decode cX3_meet 29 = .ok (.invokevirtual 48, 3) := by decide +kernel
theorem dX3_meet_32 : decode cX3_meet 32 = .ok (.ireturn, 1) := by decide +kernel
theorem dX3_meet_33 : decode cX3_meet 33 = .ok (.aload_n 0, 1) := by decide +kernel
theorem dX3_meet_34 : decode cX3_meet 34 = .ok (.getfield 16, 3) := by decide +kernel
theorem dX3_meet_37 : decode cX3_meet 37 = .ok (.aload_n 0, 1) := by decide +kernel
theorem dX3_meet_38 : decode cX3_meet 38 = .ok (.getfield 10, 3) := by decide +kernel
theorem dX3_meet_41 : decode cX3_meet 41 = .ok (.invokevirtual 144, 3) := by decide +kernel
theorem dX3_meet_44 : decode cX3_meet 44 = .ok (.iconst 0, 1) := by decide +kernel
theorem dX3_meet_45 : decode cX3_meet 45 = .ok (.istore_n 3, 1) := by decide +kernel
theorem dX3_meet_46 : decode cX3_meet 46 = .ok (.iload_n 3, 1) := by decide +kernel
theorem dX3_meet_47 : decode cX3_meet 47 = .ok (.bipush 100, 2) := by decide +kernel
theorem dX3_meet_49 : decode cX3_meet 49 = .ok (.if_icmp .gt 53, 3) := by decide +kernel
theorem dX3_meet_52 : decode cX3_meet 52 = .ok (.aload_n 0, 1) := by decide +kernel
theorem dX3_meet_53 : decode cX3_meet 53 = .ok (.getfield 16, 3) := by decide +kernel
theorem dX3_meet_56 : decode cX3_meet 56 = .ok (.getfield 110, 3) := by decide +kernel
theorem dX3_meet_59 : decode cX3_meet 59 = .ok (.iload_n 1, 1) := by decide +kernel
theorem dX3_meet_60 : decode cX3_meet 60 = .ok (.iaload, 1) := by decide +kernel
theorem dX3_meet_61 : decode cX3_meet 61 = .ok (.iconst (-1), 1) := by decide +kernel
theorem dX3_meet_62 : decode cX3_meet 62 = .ok (.if_icmp .eq 26, 3) := by decide +kernel
theorem dX3_meet_65 : decode cX3_meet 65 = .ok (.aload_n 0, 1) := by decide +kernel
theorem dX3_meet_66 : decode cX3_meet 66 = .ok (.getfield 16, 3) := by decide +kernel
theorem dX3_meet_69 : decode cX3_meet 69 = .ok (.getfield 110, 3) := by decide +kernel
theorem dX3_meet_72 : decode cX3_meet 72 = .ok (.iload_n 1, 1) := by decide +kernel
theorem dX3_meet_73 : decode cX3_meet 73 = .ok (.iaload, 1) := by decide +kernel
theorem dX3_meet_74 : decode cX3_meet 74 = .ok (.aload_n 0, 1) := by decide +kernel
theorem dX3_meet_75 : decode cX3_meet 75 = .ok (.getfield 16, 3) := by decide +kernel
theorem dX3_meet_78 : decode cX3_meet 78 = .ok (.getfield 110, 3) := by decide +kernel
theorem dX3_meet_81 : decode cX3_meet 81 = .ok (.iload_n 2, 1) := by decide +kernel
theorem dX3_meet_82 : decode cX3_meet 82 = .ok (.iaload, 1) := by decide +kernel
theorem dX3_meet_83 : decode cX3_meet 83 = .ok (.if_icmp .ne 5, 3) := by decide +kernel
theorem dX3_meet_86 : decode cX3_meet 86 = .ok (.iload_n 3, 1) := by decide +kernel
theorem dX3_meet_87 : decode cX3_meet 87 = .ok (.ireturn, 1) := by decide +kernel
theorem dX3_meet_88 : decode cX3_meet 88 = .ok (.aload_n 0, 1) := by decide +kernel
theorem dX3_meet_89 : decode cX3_meet 89 = .ok (.getfield 16, 3) := by decide +kernel
theorem dX3_meet_92 : decode cX3_meet 92 = .ok (.iconst 1, 1) := by decide +kernel
theorem dX3_meet_93 : decode cX3_meet 93 = .ok (.invokevirtual 129, 3) := by decide +kernel
theorem dX3_meet_96 : decode cX3_meet 96 = .ok (.iinc 3 1, 3) := by decide +kernel
theorem dX3_meet_99 : decode cX3_meet 99 = .ok (.goto (-53), 3) := by decide +kernel
theorem dX3_meet_102 : decode cX3_meet 102 = .ok (.aload_n 0, 1) := by decide +kernel
theorem dX3_meet_103 : decode cX3_meet 103 = .ok (.iconst 3, 1) := by decide +kernel
theorem dX3_meet_104 : decode cX3_meet 104 = .ok (.invokevirtual 48, 3) := by decide +kernel
theorem dX3_meet_107 : decode cX3_meet 107 = .ok (.ireturn, 1) := by decide +kernel
theorem dX3_beliefFor_0 : decode cX3_beliefFor 0 = .ok (.aload_n 0, 1) := by decide +kernel
theorem dX3_beliefFor_1 : decode cX3_beliefFor 1 = .ok (.getfield 10, 3) := by decide +kernel
theorem dX3_beliefFor_4 : decode cX3_beliefFor 4 = .ok (.iload_n 1, 1) := by decide +kernel
theorem dX3_beliefFor_5 : decode cX3_beliefFor 5 = .ok (.invokevirtual 66, 3) := by decide +kernel
theorem dX3_beliefFor_8 : decode cX3_beliefFor 8 = .ok (.ifCond .eq 13, 3) := by decide +kernel
theorem dX3_beliefFor_11 : decode cX3_beliefFor 11 = .ok (.iload_n 2, 1) := by decide +kernel
theorem dX3_beliefFor_12 : decode cX3_beliefFor 12 = .ok (.iconst 0, 1) := by decide +kernel
theorem dX3_beliefFor_13 : decode cX3_beliefFor 13 = .ok (.bipush 40, 2) := by decide +kernel
theorem dX3_beliefFor_15 : decode cX3_beliefFor 15 = .ok (.invokestatic 52, 3) := by decide +kernel
theorem dX3_beliefFor_18 : decode cX3_beliefFor 18 = .ok (.ifCond .ne 9, 3) := by decide +kernel
theorem dX3_beliefFor_21 : decode cX3_beliefFor 21 = .ok (.aload_n 0, 1) := by decide +kernel
theorem dX3_beliefFor_22 : decode cX3_beliefFor 22 = .ok (.iconst 0, 1) := by decide +kernel
theorem dX3_beliefFor_23 : decode cX3_beliefFor 23 = .ok (.invokevirtual 48, 3) := by decide +kernel
theorem dX3_beliefFor_26 : decode cX3_beliefFor 26 = .ok (.ireturn, 1) := by decide +kernel
theorem dX3_beliefFor_27 : decode cX3_beliefFor 27 = .ok (.iconst 0, 1) := by decide +kernel
theorem dX3_beliefFor_28 : decode cX3_beliefFor 28 = .ok (.istore_n 3, 1) := by decide +kernel
theorem dX3_beliefFor_29 : decode cX3_beliefFor 29 = .ok (.iload_n 3, 1) := by decide +kernel
theorem dX3_beliefFor_30 : decode cX3_beliefFor 30 = .ok (.bipush 99, 2) := by decide +kernel
theorem dX3_beliefFor_32 : decode cX3_beliefFor 32 = .ok (.if_icmp .gt 97, 3) := by decide +kernel
theorem dX3_beliefFor_35 : decode cX3_beliefFor 35 = .ok (.aload_n 0, 1) := by decide +kernel
theorem dX3_beliefFor_36 : decode cX3_beliefFor 36 = .ok (.getfield 16, 3) := by decide +kernel
theorem dX3_beliefFor_39 : decode cX3_beliefFor 39 = .ok (.aload_n 0, 1) := by decide +kernel
theorem dX3_beliefFor_40 : decode cX3_beliefFor 40 = .ok (.getfield 10, 3) := by decide +kernel
theorem dX3_beliefFor_43 : decode cX3_beliefFor 43 = .ok (.invokevirtual 144, 3) := by decide +kernel
theorem dX3_beliefFor_46 : decode cX3_beliefFor 46 = .ok (.aload_n 0, 1) := by decide +kernel
theorem dX3_beliefFor_47 : decode cX3_beliefFor 47 = .ok (.getfield 16, 3) := by decide +kernel
theorem dX3_beliefFor_50 : decode cX3_beliefFor 50 = .ok (.getfield 113, 3) := by decide +kernel
theorem dX3_beliefFor_53 : decode cX3_beliefFor 53 = .ok (.iload_n 1, 1) := by decide +kernel
theorem dX3_beliefFor_54 : decode cX3_beliefFor 54 = .ok (.iload_n 3, 1) := by decide +kernel
theorem dX3_beliefFor_55 : decode cX3_beliefFor 55 = .ok (.iastore, 1) := by decide +kernel
theorem dX3_beliefFor_56 : decode cX3_beliefFor 56 = .ok (.iconst 0, 1) := by decide +kernel
theorem dX3_beliefFor_57 : decode cX3_beliefFor 57 = .ok (.istore 4, 2) := by decide +kernel
theorem dX3_beliefFor_59 : decode cX3_beliefFor 59 = .ok (.iload 4, 2) := by decide +kernel
theorem dX3_beliefFor_61 : decode cX3_beliefFor 61 = .ok (.iload_n 2, 1) := by decide +kernel
theorem dX3_beliefFor_62 : decode cX3_beliefFor 62 = .ok (.if_icmp .ge 38, 3) := by decide +kernel
theorem dX3_beliefFor_65 : decode cX3_beliefFor 65 = .ok (.aload_n 0, 1) := by decide +kernel
theorem dX3_beliefFor_66 : decode cX3_beliefFor 66 = .ok (.getfield 16, 3) := by decide +kernel
theorem dX3_beliefFor_69 : decode cX3_beliefFor 69 = .ok (.getfield 119, 3) := by decide +kernel
theorem dX3_beliefFor_72 : decode cX3_beliefFor 72 = .ok (.iload_n 1, 1) := by decide +kernel
theorem dX3_beliefFor_73 : decode cX3_beliefFor 73 = .ok (.iaload, 1) := by decide +kernel
theorem dX3_beliefFor_74 : decode cX3_beliefFor 74 = .ok (.aload_n 0, 1) := by decide +kernel
theorem dX3_beliefFor_75 : decode cX3_beliefFor 75 = .ok (.getfield 10, 3) := by decide +kernel
theorem dX3_beliefFor_78 : decode cX3_beliefFor 78 = .ok (.getfield 119, 3) := by decide +kernel
theorem dX3_beliefFor_81 : decode cX3_beliefFor 81 = .ok (.iload_n 1, 1) := by decide +kernel
theorem dX3_beliefFor_82 : decode cX3_beliefFor 82 = .ok (.iaload, 1) := by decide +kernel
theorem dX3_beliefFor_83 : decode cX3_beliefFor 83 = .ok (.if_icmp .ne 17, 3) := by decide +kernel
theorem dX3_beliefFor_86 : decode cX3_beliefFor 86 = .ok (.aload_n 0, 1) := by decide +kernel
theorem dX3_beliefFor_87 : decode cX3_beliefFor 87 = .ok (.getfield 16, 3) := by decide +kernel
theorem dX3_beliefFor_90 : decode cX3_beliefFor 90 = .ok (.iconst 1, 1) := by decide +kernel
theorem dX3_beliefFor_91 : decode cX3_beliefFor 91 = .ok (.invokevirtual 129, 3) := by decide +kernel
theorem dX3_beliefFor_94 : decode cX3_beliefFor 94 = .ok (.iinc 4 1, 3) := by decide +kernel
theorem dX3_beliefFor_97 : decode cX3_beliefFor 97 = .ok (.goto (-38), 3) := by decide +kernel
theorem dX3_beliefFor_100 : decode cX3_beliefFor 100 = .ok (.aload_n 0, 1) := by decide +kernel
theorem dX3_beliefFor_101 : decode cX3_beliefFor 101 = .ok (.getfield 16, 3) := by decide +kernel
theorem dX3_beliefFor_104 : decode cX3_beliefFor 104 = .ok (.getfield 119, 3) := by decide +kernel
theorem dX3_beliefFor_107 : decode cX3_beliefFor 107 = .ok (.iload_n 1, 1) := by decide +kernel
theorem dX3_beliefFor_108 : decode cX3_beliefFor 108 = .ok (.iaload, 1) := by decide +kernel
theorem dX3_beliefFor_109 : decode cX3_beliefFor 109 = .ok (.aload_n 0, 1) := by decide +kernel
theorem dX3_beliefFor_110 : decode cX3_beliefFor 110 = .ok (.getfield 10, 3) := by decide +kernel
theorem dX3_beliefFor_113 : decode cX3_beliefFor 113 = .ok (.getfield 119, 3) := by decide +kernel
theorem dX3_beliefFor_116 : decode cX3_beliefFor 116 = .ok (.iload_n 1, 1) := by decide +kernel
theorem dX3_beliefFor_117 : decode cX3_beliefFor 117 = .ok (.iaload, 1) := by decide +kernel
theorem dX3_beliefFor_118 : decode cX3_beliefFor 118 = .ok (.if_icmp .ne 5, 3) := by decide +kernel
theorem dX3_beliefFor_121 : decode cX3_beliefFor 121 = .ok (.iload_n 3, 1) := by decide +kernel
theorem dX3_beliefFor_122 : decode cX3_beliefFor 122 = .ok (.ireturn, 1) := by decide +kernel
theorem dX3_beliefFor_123 : decode cX3_beliefFor 123 = .ok (.iinc 3 1, 3) := by decide +kernel
theorem dX3_beliefFor_126 : decode cX3_beliefFor 126 = .ok (.goto (-97), 3) := by decide +kernel
theorem dX3_beliefFor_129 : decode cX3_beliefFor 129 = .ok (.aload_n 0, 1) := by decide +kernel
theorem dX3_beliefFor_130 : decode cX3_beliefFor 130 = .ok (.iconst 3, 1) := by decide +kernel
theorem dX3_beliefFor_131 : decode cX3_beliefFor 131 = .ok (.invokevirtual 48, 3) := by decide +kernel
theorem dX3_beliefFor_134 : decode cX3_beliefFor 134 = .ok (.ireturn, 1) := by decide +kernel
theorem dX3_settle_0 : decode cX3_settle 0 = .ok (.aload_n 0, 1) := by decide +kernel
theorem dX3_settle_1 : decode cX3_settle 1 = .ok (.getfield 10, 3) := by decide +kernel
theorem dX3_settle_4 : decode cX3_settle 4 = .ok (.iload_n 1, 1) := by decide +kernel
theorem dX3_settle_5 : decode cX3_settle 5 = .ok (.invokevirtual 66, 3) := by decide +kernel
theorem dX3_settle_8 : decode cX3_settle 8 = .ok (.ifCond .eq 13, 3) := by decide +kernel
theorem dX3_settle_11 : decode cX3_settle 11 = .ok (.iload_n 2, 1) := by decide +kernel
theorem dX3_settle_12 : decode cX3_settle 12 = .ok (.iconst 0, 1) := by decide +kernel
theorem dX3_settle_13 : decode cX3_settle 13 = .ok (.bipush 40, 2) := by decide +kernel
theorem dX3_settle_15 : decode cX3_settle 15 = .ok (.invokestatic 52, 3) := by decide +kernel
theorem dX3_settle_18 : decode cX3_settle 18 = .ok (.ifCond .ne 9, 3) := by decide +kernel
theorem dX3_settle_21 : decode cX3_settle 21 = .ok (.aload_n 0, 1) := by decide +kernel
theorem dX3_settle_22 : decode cX3_settle 22 = .ok (.iconst 0, 1) := by decide +kernel
theorem dX3_settle_23 : decode cX3_settle 23 = .ok (.invokevirtual 48, 3) := by decide +kernel
theorem dX3_settle_26 : decode cX3_settle 26 = .ok (.ireturn, 1) := by decide +kernel
theorem dX3_settle_27 : decode cX3_settle 27 = .ok (.iconst 0, 1) := by decide +kernel
theorem dX3_settle_28 : decode cX3_settle 28 = .ok (.istore_n 3, 1) := by decide +kernel
theorem dX3_settle_29 : decode cX3_settle 29 = .ok (.sipush 10000, 3) := by decide +kernel
theorem dX3_settle_32 : decode cX3_settle 32 = .ok (.istore 4, 2) := by decide +kernel
theorem dX3_settle_34 : decode cX3_settle 34 = .ok (.iconst 0, 1) := by decide +kernel
theorem dX3_settle_35 : decode cX3_settle 35 = .ok (.istore 5, 2) := by decide +kernel
theorem dX3_settle_37 : decode cX3_settle 37 = .ok (.iload 5, 2) := by decide +kernel
theorem dX3_settle_39 : decode cX3_settle 39 = .ok (.bipush 10, 2) := by decide +kernel
theorem dX3_settle_41 : decode cX3_settle 41 = .ok (.if_icmp .ge 67, 3) := by decide +kernel
theorem dX3_settle_44 : decode cX3_settle 44 = .ok (.aload_n 0, 1) := by decide +kernel
theorem dX3_settle_45 : decode cX3_settle 45 = .ok (.getfield 16, 3) := by decide +kernel
theorem dX3_settle_48 : decode cX3_settle 48 = .ok (.aload_n 0, 1) := by decide +kernel
theorem dX3_settle_49 : decode cX3_settle 49 = .ok (.getfield 10, 3) := by decide +kernel
theorem dX3_settle_52 : decode cX3_settle 52 = .ok (.invokevirtual 144, 3) := by decide +kernel
theorem dX3_settle_55 : decode cX3_settle 55 = .ok (.aload_n 0, 1) := by decide +kernel
theorem dX3_settle_56 : decode cX3_settle 56 = .ok (.getfield 16, 3) := by decide +kernel
theorem dX3_settle_59 : decode cX3_settle 59 = .ok (.getfield 110, 3) := by decide +kernel
theorem dX3_settle_62 : decode cX3_settle 62 = .ok (.iload_n 1, 1) := by decide +kernel
theorem dX3_settle_63 : decode cX3_settle 63 = .ok (.iload 5, 2) := by decide +kernel
theorem dX3_settle_65 : decode cX3_settle 65 = .ok (.iastore, 1) := by decide +kernel
theorem dX3_settle_66 : decode cX3_settle 66 = .ok (.aload_n 0, 1) := by decide +kernel
theorem dX3_settle_67 : decode cX3_settle 67 = .ok (.getfield 16, 3) := by decide +kernel
theorem dX3_settle_70 : decode cX3_settle 70 = .ok (.iload_n 2, 1) := by decide +kernel
theorem dX3_settle_71 : decode cX3_settle 71 = .ok (.invokevirtual 129, 3) := by decide +kernel
theorem dX3_settle_74 : decode cX3_settle 74 = .ok (.aload_n 0, 1) := by decide +kernel
theorem dX3_settle_75 : decode cX3_settle 75 = .ok (.getfield 16, 3) := by decide +kernel
theorem dX3_settle_78 : decode cX3_settle 78 = .ok (.getfield 119, 3) := by decide +kernel
theorem dX3_settle_81 : decode cX3_settle 81 = .ok (.iload_n 1, 1) := by decide +kernel
theorem dX3_settle_82 : decode cX3_settle 82 = .ok (.iaload, 1) := by decide +kernel
theorem dX3_settle_83 : decode cX3_settle 83 = .ok (.iload 4, 2) := by decide +kernel
theorem dX3_settle_85 : decode cX3_settle 85 = .ok (.if_icmp .ge 17, 3) := by decide +kernel
theorem dX3_settle_88 : decode cX3_settle 88 = .ok (.aload_n 0, 1) := by decide +kernel
theorem dX3_settle_89 : decode cX3_settle 89 = .ok (.getfield 16, 3) := by decide +kernel
theorem dX3_settle_92 : decode cX3_settle 92 = .ok (.getfield 119, 3) := by decide +kernel
theorem dX3_settle_95 : decode cX3_settle 95 = .ok (.iload_n 1, 1) := by decide +kernel
theorem dX3_settle_96 : decode cX3_settle 96 = .ok (.iaload, 1) := by decide +kernel
theorem dX3_settle_97 : decode cX3_settle 97 = .ok (.istore 4, 2) := by decide +kernel
theorem dX3_settle_99 : decode cX3_settle 99 = .ok (.iload 5, 2) := by decide +kernel
theorem dX3_settle_101 : decode cX3_settle 101 = .ok (.istore_n 3, 1) := by decide +kernel
theorem dX3_settle_102 : decode cX3_settle 102 = .ok (.iinc 5 1, 3) := by decide +kernel
theorem dX3_settle_105 : decode cX3_settle 105 = .ok (.goto (-68), 3) := by decide +kernel
theorem dX3_settle_108 : decode cX3_settle 108 = .ok (.iload_n 3, 1) := by decide +kernel
theorem dX3_settle_109 : decode cX3_settle 109 = .ok (.ireturn, 1) := by decide +kernel
theorem dX3_kindFor_0 : decode cX3_kindFor 0 = .ok (.aload_n 0, 1) := by decide +kernel
theorem dX3_kindFor_1 : decode cX3_kindFor 1 = .ok (.getfield 10, 3) := by decide +kernel
theorem dX3_kindFor_4 : decode cX3_kindFor 4 = .ok (.iload_n 1, 1) := by decide +kernel
theorem dX3_kindFor_5 : decode cX3_kindFor 5 = .ok (.invokevirtual 66, 3) := by decide +kernel
theorem dX3_kindFor_8 : decode cX3_kindFor 8 = .ok (.ifCond .eq 13, 3) := by decide +kernel
theorem dX3_kindFor_11 : decode cX3_kindFor 11 = .ok (.iload_n 2, 1) := by decide +kernel
theorem dX3_kindFor_12 : decode cX3_kindFor 12 = .ok (.iconst 0, 1) := by decide +kernel
theorem dX3_kindFor_13 : decode cX3_kindFor 13 = .ok (.bipush 40, 2) := by decide +kernel
theorem dX3_kindFor_15 : decode cX3_kindFor 15 = .ok (.invokestatic 52, 3) := by decide +kernel
theorem dX3_kindFor_18 : decode cX3_kindFor 18 = .ok (.ifCond .ne 9, 3) := by decide +kernel
theorem dX3_kindFor_21 : decode cX3_kindFor 21 = .ok (.aload_n 0, 1) := by decide +kernel
theorem dX3_kindFor_22 : decode cX3_kindFor 22 = .ok (.iconst 0, 1) := by decide +kernel
theorem dX3_kindFor_23 : decode cX3_kindFor 23 = .ok (.invokevirtual 48, 3) := by decide +kernel
theorem dX3_kindFor_26 : decode cX3_kindFor 26 = .ok (.ireturn, 1) := by decide +kernel
theorem dX3_kindFor_27 : decode cX3_kindFor 27 = .ok (.iconst 0, 1) := by decide +kernel
theorem dX3_kindFor_28 : decode cX3_kindFor 28 = .ok (.istore_n 3, 1) := by decide +kernel
theorem dX3_kindFor_29 : decode cX3_kindFor 29 = .ok (.iconst (-1), 1) := by decide +kernel
theorem dX3_kindFor_30 : decode cX3_kindFor 30 = .ok (.istore 4, 2) := by decide +kernel
theorem dX3_kindFor_32 : decode cX3_kindFor 32 = .ok (.iconst 0, 1) := by decide +kernel
theorem dX3_kindFor_33 : decode cX3_kindFor 33 = .ok (.istore 5, 2) := by decide +kernel
theorem dX3_kindFor_35 : decode cX3_kindFor 35 = .ok (.iload 5, 2) := by decide +kernel
theorem dX3_kindFor_37 : decode cX3_kindFor 37 = .ok (.bipush 7, 2) := by decide +kernel
theorem dX3_kindFor_39 : decode cX3_kindFor 39 = .ok (.if_icmp .ge 67, 3) := by decide +kernel
theorem dX3_kindFor_42 : decode cX3_kindFor 42 = .ok (.aload_n 0, 1) := by decide +kernel
theorem dX3_kindFor_43 : decode cX3_kindFor 43 = .ok (.getfield 16, 3) := by decide +kernel
theorem dX3_kindFor_46 : decode cX3_kindFor 46 = .ok (.aload_n 0, 1) := by decide +kernel
theorem dX3_kindFor_47 : decode cX3_kindFor 47 = .ok (.getfield 10, 3) := by decide +kernel
theorem dX3_kindFor_50 : decode cX3_kindFor 50 = .ok (.invokevirtual 144, 3) := by decide +kernel
theorem dX3_kindFor_53 : decode cX3_kindFor 53 = .ok (.aload_n 0, 1) := by decide +kernel
theorem dX3_kindFor_54 : decode cX3_kindFor 54 = .ok (.getfield 16, 3) := by decide +kernel
theorem dX3_kindFor_57 : decode cX3_kindFor 57 = .ok (.getfield 94, 3) := by decide +kernel
theorem dX3_kindFor_60 : decode cX3_kindFor 60 = .ok (.iload_n 1, 1) := by decide +kernel
theorem dX3_kindFor_61 : decode cX3_kindFor 61 = .ok (.iload 5, 2) := by decide +kernel
theorem dX3_kindFor_63 : decode cX3_kindFor 63 = .ok (.iastore, 1) := by decide +kernel
theorem dX3_kindFor_64 : decode cX3_kindFor 64 = .ok (.aload_n 0, 1) := by decide +kernel
theorem dX3_kindFor_65 : decode cX3_kindFor 65 = .ok (.getfield 16, 3) := by decide +kernel
theorem dX3_kindFor_68 : decode cX3_kindFor 68 = .ok (.iload_n 2, 1) := by decide +kernel
theorem dX3_kindFor_69 : decode cX3_kindFor 69 = .ok (.invokevirtual 129, 3) := by decide +kernel
theorem dX3_kindFor_72 : decode cX3_kindFor 72 = .ok (.aload_n 0, 1) := by decide +kernel
theorem dX3_kindFor_73 : decode cX3_kindFor 73 = .ok (.getfield 16, 3) := by decide +kernel
theorem dX3_kindFor_76 : decode cX3_kindFor 76 = .ok (.getfield 116, 3) := by decide +kernel
theorem dX3_kindFor_79 : decode cX3_kindFor 79 = .ok (.iload_n 1, 1) := by decide +kernel
theorem dX3_kindFor_80 : decode cX3_kindFor 80 = .ok (.iaload, 1) := by decide +kernel
theorem dX3_kindFor_81 : decode cX3_kindFor 81 = .ok (.iload 4, 2) := by decide +kernel
theorem dX3_kindFor_83 : decode cX3_kindFor 83 = .ok (.if_icmp .le 17, 3) := by decide +kernel
theorem dX3_kindFor_86 : decode cX3_kindFor 86 = .ok (.aload_n 0, 1) := by decide +kernel
theorem dX3_kindFor_87 : decode cX3_kindFor 87 = .ok (.getfield 16, 3) := by decide +kernel
theorem dX3_kindFor_90 : decode cX3_kindFor 90 = .ok (.getfield 116, 3) := by decide +kernel
theorem dX3_kindFor_93 : decode cX3_kindFor 93 = .ok (.iload_n 1, 1) := by decide +kernel
theorem dX3_kindFor_94 : decode cX3_kindFor 94 = .ok (.iaload, 1) := by decide +kernel
theorem dX3_kindFor_95 : decode cX3_kindFor 95 = .ok (.istore 4, 2) := by decide +kernel
theorem dX3_kindFor_97 : decode cX3_kindFor 97 = .ok (.iload 5, 2) := by decide +kernel
theorem dX3_kindFor_99 : decode cX3_kindFor 99 = .ok (.istore_n 3, 1) := by decide +kernel
theorem dX3_kindFor_100 : decode cX3_kindFor 100 = .ok (.iinc 5 1, 3) := by decide +kernel
theorem dX3_kindFor_103 : decode cX3_kindFor 103 = .ok (.goto (-68), 3) := by decide +kernel
theorem dX3_kindFor_106 : decode cX3_kindFor 106 = .ok (.iload_n 3, 1) := by decide +kernel
theorem dX3_kindFor_107 : decode cX3_kindFor 107 = .ok (.ireturn, 1) := by decide +kernel
theorem dX3_rentFor_0 : decode cX3_rentFor 0 = .ok (.iload_n 1, 1) := by decide +kernel
theorem dX3_rentFor_1 : decode cX3_rentFor 1 = .ok (.invokestatic 44, 3) := by decide +kernel
theorem dX3_rentFor_4 : decode cX3_rentFor 4 = .ok (.ifCond .eq 13, 3) := by decide +kernel
theorem dX3_rentFor_7 : decode cX3_rentFor 7 = .ok (.iload_n 2, 1) := by decide +kernel
theorem dX3_rentFor_8 : decode cX3_rentFor 8 = .ok (.iconst 0, 1) := by decide +kernel
theorem dX3_rentFor_9 : decode cX3_rentFor 9 = .ok (.bipush 40, 2) := by decide +kernel
theorem dX3_rentFor_11 : decode cX3_rentFor 11 = .ok (.invokestatic 52, 3) := by decide +kernel
theorem dX3_rentFor_14 : decode cX3_rentFor 14 = .ok (.ifCond .ne 9, 3) := by decide +kernel
theorem dX3_rentFor_17 : decode cX3_rentFor 17 = .ok (.aload_n 0, 1) := by decide +kernel
theorem dX3_rentFor_18 : decode cX3_rentFor 18 = .ok (.iconst 0, 1) := by decide +kernel
theorem dX3_rentFor_19 : decode cX3_rentFor 19 = .ok (.invokevirtual 48, 3) := by decide +kernel
theorem dX3_rentFor_22 : decode cX3_rentFor 22 = .ok (.ireturn, 1) := by decide +kernel
theorem dX3_rentFor_23 : decode cX3_rentFor 23 = .ok (.aload_n 0, 1) := by decide +kernel
theorem dX3_rentFor_24 : decode cX3_rentFor 24 = .ok (.getfield 10, 3) := by decide +kernel
theorem dX3_rentFor_27 : decode cX3_rentFor 27 = .ok (.getfield 69, 3) := by decide +kernel
theorem dX3_rentFor_30 : decode cX3_rentFor 30 = .ok (.iload_n 1, 1) := by decide +kernel
theorem dX3_rentFor_31 : decode cX3_rentFor 31 = .ok (.iaload, 1) := by decide +kernel
theorem dX3_rentFor_32 : decode cX3_rentFor 32 = .ok (.istore_n 3, 1) := by decide +kernel
theorem dX3_rentFor_33 : decode cX3_rentFor 33 = .ok (.aload_n 0, 1) := by decide +kernel
theorem dX3_rentFor_34 : decode cX3_rentFor 34 = .ok (.getfield 10, 3) := by decide +kernel
theorem dX3_rentFor_37 : decode cX3_rentFor 37 = .ok (.iload_n 3, 1) := by decide +kernel
theorem dX3_rentFor_38 : decode cX3_rentFor 38 = .ok (.invokevirtual 66, 3) := by decide +kernel
theorem dX3_rentFor_41 : decode cX3_rentFor 41 = .ok (.ifCond .ne 9, 3) := by decide +kernel
theorem dX3_rentFor_44 : decode cX3_rentFor 44 = .ok (.aload_n 0, 1) := by decide +kernel
theorem dX3_rentFor_45 : decode cX3_rentFor 45 = .ok (.iconst 3, 1) := by decide +kernel
theorem dX3_rentFor_46 : decode cX3_rentFor 46 = .ok (.invokevirtual 48, 3) := by decide +kernel
theorem dX3_rentFor_49 : decode cX3_rentFor 49 = .ok (.ireturn, 1) := by decide +kernel
theorem dX3_rentFor_50 : decode cX3_rentFor 50 = .ok (.iconst 0, 1) := by decide +kernel
theorem dX3_rentFor_51 : decode cX3_rentFor 51 = .ok (.istore 4, 2) := by decide +kernel
theorem dX3_rentFor_53 : decode cX3_rentFor 53 = .ok (.iconst (-1), 1) := by decide +kernel
theorem dX3_rentFor_54 : decode cX3_rentFor 54 = .ok (.istore 5, 2) := by decide +kernel
theorem dX3_rentFor_56 : decode cX3_rentFor 56 = .ok (.iconst 0, 1) := by decide +kernel
theorem dX3_rentFor_57 : decode cX3_rentFor 57 = .ok (.istore 6, 2) := by decide +kernel
theorem dX3_rentFor_59 : decode cX3_rentFor 59 = .ok (.iload 6, 2) := by decide +kernel
theorem dX3_rentFor_61 : decode cX3_rentFor 61 = .ok (.bipush 20, 2) := by decide +kernel
theorem dX3_rentFor_63 : decode cX3_rentFor 63 = .ok (.if_icmp .gt 68, 3) := by decide +kernel
theorem dX3_rentFor_66 : decode cX3_rentFor 66 = .ok (.aload_n 0, 1) := by decide +kernel
theorem dX3_rentFor_67 : decode cX3_rentFor 67 = .ok (.getfield 16, 3) := by decide +kernel
theorem dX3_rentFor_70 : decode cX3_rentFor 70 = .ok (.aload_n 0, 1) := by decide +kernel
theorem dX3_rentFor_71 : decode cX3_rentFor 71 = .ok (.getfield 10, 3) := by decide +kernel
theorem dX3_rentFor_74 : decode cX3_rentFor 74 = .ok (.invokevirtual 144, 3) := by decide +kernel
theorem dX3_rentFor_77 : decode cX3_rentFor 77 = .ok (.aload_n 0, 1) := by decide +kernel
theorem dX3_rentFor_78 : decode cX3_rentFor 78 = .ok (.getfield 16, 3) := by decide +kernel
theorem dX3_rentFor_81 : decode cX3_rentFor 81 = .ok (.getfield 63, 3) := by decide +kernel
theorem dX3_rentFor_84 : decode cX3_rentFor 84 = .ok (.iload_n 1, 1) := by decide +kernel
theorem dX3_rentFor_85 : decode cX3_rentFor 85 = .ok (.iload 6, 2) := by decide +kernel
theorem dX3_rentFor_87 : decode cX3_rentFor 87 = .ok (.iastore, 1) := by decide +kernel
theorem dX3_rentFor_88 : decode cX3_rentFor 88 = .ok (.aload_n 0, 1) := by decide +kernel
theorem dX3_rentFor_89 : decode cX3_rentFor 89 = .ok (.getfield 16, 3) := by decide +kernel
theorem dX3_rentFor_92 : decode cX3_rentFor 92 = .ok (.iload_n 2, 1) := by decide +kernel
theorem dX3_rentFor_93 : decode cX3_rentFor 93 = .ok (.invokevirtual 129, 3) := by decide +kernel
theorem dX3_rentFor_96 : decode cX3_rentFor 96 = .ok (.aload_n 0, 1) := by decide +kernel
theorem dX3_rentFor_97 : decode cX3_rentFor 97 = .ok (.getfield 16, 3) := by decide +kernel
theorem dX3_rentFor_100 : decode cX3_rentFor 100 = .ok (.getfield 116, 3) := by decide +kernel
theorem dX3_rentFor_103 : decode cX3_rentFor 103 = .ok (.iload_n 3, 1) := by decide +kernel
theorem dX3_rentFor_104 : decode cX3_rentFor 104 = .ok (.iaload, 1) := by decide +kernel
theorem dX3_rentFor_105 : decode cX3_rentFor 105 = .ok (.iload 5, 2) := by decide +kernel
theorem dX3_rentFor_107 : decode cX3_rentFor 107 = .ok (.if_icmp .le 18, 3) := by decide +kernel
theorem dX3_rentFor_110 : decode cX3_rentFor 110 = .ok (.aload_n 0, 1) := by decide +kernel
theorem dX3_rentFor_111 : decode cX3_rentFor 111 = .ok (.getfield 16, 3) := by decide +kernel
theorem dX3_rentFor_114 : decode cX3_rentFor 114 = .ok (.getfield 116, 3) := by decide +kernel
theorem dX3_rentFor_117 : decode cX3_rentFor 117 = .ok (.iload_n 3, 1) := by decide +kernel
theorem dX3_rentFor_118 : decode cX3_rentFor 118 = .ok (.iaload, 1) := by decide +kernel
theorem dX3_rentFor_119 : decode cX3_rentFor 119 = .ok (.istore 5, 2) := by decide +kernel
theorem dX3_rentFor_121 : decode cX3_rentFor 121 = .ok (.iload 6, 2) := by decide +kernel
theorem dX3_rentFor_123 : decode cX3_rentFor 123 = .ok (.istore 4, 2) := by decide +kernel
theorem dX3_rentFor_125 : decode cX3_rentFor 125 = .ok (.iinc 6 1, 3) := by decide +kernel
theorem dX3_rentFor_128 : decode cX3_rentFor 128 = .ok (.goto (-69), 3) := by decide +kernel
theorem dX3_rentFor_131 : decode cX3_rentFor 131 = .ok (.iload 4, 2) := by decide +kernel
theorem dX3_rentFor_133 : decode cX3_rentFor 133 = .ok (.ireturn, 1) := by decide +kernel
theorem dX3_sunFor_0 : decode cX3_sunFor 0 = .ok (.iload_n 1, 1) := by decide +kernel
theorem dX3_sunFor_1 : decode cX3_sunFor 1 = .ok (.iconst 0, 1) := by decide +kernel
theorem dX3_sunFor_2 : decode cX3_sunFor 2 = .ok (.bipush 40, 2) := by decide +kernel
theorem dX3_sunFor_4 : decode cX3_sunFor 4 = .ok (.invokestatic 52, 3) := by decide +kernel
theorem dX3_sunFor_7 : decode cX3_sunFor 7 = .ok (.ifCond .ne 9, 3) := by decide +kernel
theorem dX3_sunFor_10 : decode cX3_sunFor 10 = .ok (.aload_n 0, 1) := by decide +kernel
theorem dX3_sunFor_11 : decode cX3_sunFor 11 = .ok (.iconst 0, 1) := by decide +kernel
theorem dX3_sunFor_12 : decode cX3_sunFor 12 = .ok (.invokevirtual 48, 3) := by decide +kernel
theorem dX3_sunFor_15 : decode cX3_sunFor 15 = .ok (.ireturn, 1) := by decide +kernel
theorem dX3_sunFor_16 : decode cX3_sunFor 16 = .ok (.aload_n 0, 1) := by decide +kernel
theorem dX3_sunFor_17 : decode cX3_sunFor 17 = .ok (.getfield 10, 3) := by decide +kernel
theorem dX3_sunFor_20 : decode cX3_sunFor 20 = .ok (.getfield 119, 3) := by decide +kernel
theorem dX3_sunFor_23 : decode cX3_sunFor 23 = .ok (.aload_n 0, 1) := by decide +kernel
theorem dX3_sunFor_24 : decode cX3_sunFor 24 = .ok (.getfield 10, 3) := by decide +kernel
theorem dX3_sunFor_27 : decode cX3_sunFor 27 = .ok (.getfield 88, 3) := by decide +kernel
theorem dX3_sunFor_30 : decode cX3_sunFor 30 = .ok (.invokestatic 137, 3) := by decide +kernel
theorem dX3_sunFor_33 : decode cX3_sunFor 33 = .ok (.istore_n 2, 1) := by decide +kernel
theorem dX3_sunFor_34 : decode cX3_sunFor 34 = .ok (.bipush 40, 2) := by decide +kernel
theorem dX3_sunFor_36 : decode cX3_sunFor 36 = .ok (.istore_n 3, 1) := by decide +kernel
theorem dX3_sunFor_37 : decode cX3_sunFor 37 = .ok (.iload_n 3, 1) := by decide +kernel
theorem dX3_sunFor_38 : decode cX3_sunFor 38 = .ok (.ifCond .lt 114, 3) := by decide +kernel
theorem dX3_sunFor_41 : decode cX3_sunFor 41 = .ok (.aload_n 0, 1) := by decide +kernel
theorem dX3_sunFor_42 : decode cX3_sunFor 42 = .ok (.getfield 16, 3) := by decide +kernel
theorem dX3_sunFor_45 : decode cX3_sunFor 45 = .ok (.aload_n 0, 1) := by decide +kernel
theorem dX3_sunFor_46 : decode cX3_sunFor 46 = .ok (.getfield 10, 3) := by decide +kernel
theorem dX3_sunFor_49 : decode cX3_sunFor 49 = .ok (.invokevirtual 144, 3) := by decide +kernel
theorem dX3_sunFor_52 : decode cX3_sunFor 52 = .ok (.iconst 0, 1) := by decide +kernel
theorem dX3_sunFor_53 : decode cX3_sunFor 53 = .ok (.istore 4, 2) := by decide +kernel
theorem dX3_sunFor_55 : decode cX3_sunFor 55 = .ok (.iload 4, 2) := by decide +kernel
theorem dX3_sunFor_57 : decode cX3_sunFor 57 = .ok (.bipush 6, 2) := by decide +kernel
theorem dX3_sunFor_59 : decode cX3_sunFor 59 = .ok (.if_icmp .ge 20, 3) := by decide +kernel
theorem dX3_sunFor_62 : decode cX3_sunFor 62 = .ok (.aload_n 0, 1) := by decide +kernel
theorem dX3_sunFor_63 : decode cX3_sunFor 63 = .ok (.getfield 16, 3) := by decide +kernel
theorem dX3_sunFor_66 : decode cX3_sunFor 66 = .ok (.getfield 78, 3) := by decide +kernel
theorem dX3_sunFor_69 : decode cX3_sunFor 69 = .ok (.iload 4, 2) := by decide +kernel
theorem dX3_sunFor_71 : decode cX3_sunFor 71 = .ok (.iload_n 3, 1) := by decide +kernel
theorem dX3_sunFor_72 : decode cX3_sunFor 72 = .ok (.iastore, 1) := by decide +kernel
theorem dX3_sunFor_73 : decode cX3_sunFor 73 = .ok (.iinc 4 1, 3) := by decide +kernel
theorem dX3_sunFor_76 : decode cX3_sunFor 76 = .ok (.goto (-21), 3) := by decide +kernel
theorem dX3_sunFor_79 : decode cX3_sunFor 79 = .ok (.iconst 0, 1) := by decide +kernel
theorem dX3_sunFor_80 : decode cX3_sunFor 80 = .ok (.istore 4, 2) := by decide +kernel
theorem dX3_sunFor_82 : decode cX3_sunFor 82 = .ok (.iload 4, 2) := by decide +kernel
theorem dX3_sunFor_84 : decode cX3_sunFor 84 = .ok (.iload_n 1, 1) := by decide +kernel
theorem dX3_sunFor_85 : decode cX3_sunFor 85 = .ok (.if_icmp .ge 38, 3) := by decide +kernel
theorem dX3_sunFor_88 : decode cX3_sunFor 88 = .ok (.aload_n 0, 1) := by decide +kernel
theorem dX3_sunFor_89 : decode cX3_sunFor 89 = .ok (.getfield 16, 3) := by decide +kernel
theorem dX3_sunFor_92 : decode cX3_sunFor 92 = .ok (.getfield 119, 3) := by decide +kernel
theorem dX3_sunFor_95 : decode cX3_sunFor 95 = .ok (.aload_n 0, 1) := by decide +kernel
theorem dX3_sunFor_96 : decode cX3_sunFor 96 = .ok (.getfield 16, 3) := by decide +kernel
theorem dX3_sunFor_99 : decode cX3_sunFor 99 = .ok (.getfield 88, 3) := by decide +kernel
theorem dX3_sunFor_102 : decode cX3_sunFor 102 = .ok (.invokestatic 137, 3) := by decide +kernel
theorem dX3_sunFor_105 : decode cX3_sunFor 105 = .ok (.iload_n 2, 1) := by decide +kernel
theorem dX3_sunFor_106 : decode cX3_sunFor 106 = .ok (.if_icmp .ne 17, 3) := by decide +kernel
theorem dX3_sunFor_109 : decode cX3_sunFor 109 = .ok (.aload_n 0, 1) := by decide +kernel
theorem dX3_sunFor_110 : decode cX3_sunFor 110 = .ok (.getfield 16, 3) := by decide +kernel
theorem dX3_sunFor_113 : decode cX3_sunFor 113 = .ok (.iconst 1, 1) := by decide +kernel
theorem dX3_sunFor_114 : decode cX3_sunFor 114 = .ok (.invokevirtual 129, 3) := by decide +kernel
theorem dX3_sunFor_117 : decode cX3_sunFor 117 = .ok (.iinc 4 1, 3) := by decide +kernel
theorem dX3_sunFor_120 : decode cX3_sunFor 120 = .ok (.goto (-38), 3) := by decide +kernel
theorem dX3_sunFor_123 : decode cX3_sunFor 123 = .ok (.aload_n 0, 1) := by decide +kernel
theorem dX3_sunFor_124 : decode cX3_sunFor 124 = .ok (.getfield 16, 3) := by decide +kernel
theorem dX3_sunFor_127 : decode cX3_sunFor 127 = .ok (.getfield 119, 3) := by decide +kernel
theorem dX3_sunFor_130 : decode cX3_sunFor 130 = .ok (.aload_n 0, 1) := by decide +kernel
theorem dX3_sunFor_131 : decode cX3_sunFor 131 = .ok (.getfield 16, 3) := by decide +kernel
theorem dX3_sunFor_134 : decode cX3_sunFor 134 = .ok (.getfield 88, 3) := by decide +kernel
theorem dX3_sunFor_137 : decode cX3_sunFor 137 = .ok (.invokestatic 137, 3) := by decide +kernel
theorem dX3_sunFor_140 : decode cX3_sunFor 140 = .ok (.iload_n 2, 1) := by decide +kernel
theorem dX3_sunFor_141 : decode cX3_sunFor 141 = .ok (.if_icmp .ne 5, 3) := by decide +kernel
theorem dX3_sunFor_144 : decode cX3_sunFor 144 = .ok (.iload_n 3, 1) := by decide +kernel
theorem dX3_sunFor_145 : decode cX3_sunFor 145 = .ok (.ireturn, 1) := by decide +kernel
theorem dX3_sunFor_146 : decode cX3_sunFor 146 = .ok (.iinc 3 (-1), 3) := by decide +kernel
theorem dX3_sunFor_149 : decode cX3_sunFor 149 = .ok (.goto (-112), 3) := by decide +kernel
theorem dX3_sunFor_152 : decode cX3_sunFor 152 = .ok (.aload_n 0, 1) := by decide +kernel
theorem dX3_sunFor_153 : decode cX3_sunFor 153 = .ok (.iconst 3, 1) := by decide +kernel
theorem dX3_sunFor_154 : decode cX3_sunFor 154 = .ok (.invokevirtual 48, 3) := by decide +kernel
theorem dX3_sunFor_157 : decode cX3_sunFor 157 = .ok (.ireturn, 1) := by decide +kernel
theorem dX3_away_0 : decode cX3_away 0 = .ok (.aload_n 0, 1) := by decide +kernel
theorem dX3_away_1 : decode cX3_away 1 = .ok (.getfield 10, 3) := by decide +kernel
theorem dX3_away_4 : decode cX3_away 4 = .ok (.iload_n 1, 1) := by decide +kernel
theorem dX3_away_5 : decode cX3_away 5 = .ok (.invokevirtual 66, 3) := by decide +kernel
theorem dX3_away_8 : decode cX3_away 8 = .ok (.ifCond .eq 13, 3) := by decide +kernel
theorem dX3_away_11 : decode cX3_away 11 = .ok (.iload_n 2, 1) := by decide +kernel
theorem dX3_away_12 : decode cX3_away 12 = .ok (.iconst 0, 1) := by decide +kernel
theorem dX3_away_13 : decode cX3_away 13 = .ok (.bipush 12, 2) := by decide +kernel
theorem dX3_away_15 : decode cX3_away 15 = .ok (.invokestatic 52, 3) := by decide +kernel
theorem dX3_away_18 : decode cX3_away 18 = .ok (.ifCond .ne 9, 3) := by decide +kernel
theorem dX3_away_21 : decode cX3_away 21 = .ok (.aload_n 0, 1) := by decide +kernel
theorem dX3_away_22 : decode cX3_away 22 = .ok (.iconst 0, 1) := by decide +kernel
theorem dX3_away_23 : decode cX3_away 23 = .ok (.invokevirtual 48, 3) := by decide +kernel
theorem dX3_away_26 : decode cX3_away 26 = .ok (.ireturn, 1) := by decide +kernel
theorem dX3_away_27 : decode cX3_away 27 = .ok (.iconst 1, 1) := by decide +kernel
theorem dX3_away_28 : decode cX3_away 28 = .ok (.aload_n 0, 1) := by decide +kernel
theorem dX3_away_29 : decode cX3_away 29 = .ok (.getfield 10, 3) := by decide +kernel
theorem dX3_away_32 : decode cX3_away 32 = .ok (.getfield 88, 3) := by decide +kernel
theorem dX3_away_35 : decode cX3_away 35 = .ok (.ishl, 1) := by decide +kernel
theorem dX3_away_36 : decode cX3_away 36 = .ok (.iconst 1, 1) := by decide +kernel
theorem dX3_away_37 : decode cX3_away 37 = .ok (.isub, 1) := by decide +kernel
theorem dX3_away_38 : decode cX3_away 38 = .ok (.iconst 1, 1) := by decide +kernel
theorem dX3_away_39 : decode cX3_away 39 = .ok (.iload_n 1, 1) := by decide +kernel
theorem dX3_away_40 : decode cX3_away 40 = .ok (.ishl, 1) := by decide +kernel
theorem dX3_away_41 : decode cX3_away 41 = .ok (.iconst (-1), 1) := by decide +kernel
theorem dX3_away_42 : decode cX3_away 42 = .ok (.ixor, 1) := by decide +kernel
theorem dX3_away_43 : decode cX3_away 43 = .ok (.iand, 1) := by decide +kernel
theorem dX3_away_44 : decode cX3_away 44 = .ok (.istore_n 3, 1) := by decide +kernel
theorem dX3_away_45 : decode cX3_away 45 = .ok (.iconst (-1), 1) := by decide +kernel
theorem dX3_away_46 : decode cX3_away 46 = .ok (.istore 4, 2) := by decide +kernel
theorem dX3_away_48 : decode cX3_away 48 = .ok (.iconst 0, 1) := by decide +kernel
theorem dX3_away_49 : decode cX3_away 49 = .ok (.istore 5, 2) := by decide +kernel
theorem dX3_away_51 : decode cX3_away 51 = .ok (.iload 5, 2) := by decide +kernel
theorem dX3_away_53 : decode cX3_away 53 = .ok (.iload_n 3, 1) := by decide +kernel
theorem dX3_away_54 : decode cX3_away 54 = .ok (.if_icmp .gt 96, 3) := by decide +kernel
theorem dX3_away_57 : decode cX3_away 57 = .ok (.iload 4, 2) := by decide +kernel
theorem dX3_away_59 : decode cX3_away 59 = .ok (.ifCond .lt 16, 3) := by decide +kernel
theorem dX3_away_62 : decode cX3_away 62 = .ok (.iload 5, 2) := by decide +kernel
theorem dX3_away_64 : decode cX3_away 64 = .ok (.invokestatic 148, 3) := by decide +kernel
theorem dX3_away_67 : decode cX3_away 67 = .ok (.iload 4, 2) := by decide +kernel
theorem dX3_away_69 : decode cX3_away 69 = .ok (.invokestatic 148, 3) := by decide +kernel
theorem dX3_away_72 : decode cX3_away 72 = .ok (.if_icmp .ge 7, 3) := by decide +kernel
theorem dX3_away_75 : decode cX3_away 75 = .ok (.iconst 1, 1) := by decide +kernel
theorem dX3_away_76 : decode cX3_away 76 = .ok (.goto 4, 3) := by decide +kernel
theorem dX3_away_79 : decode cX3_away 79 = .ok (.iconst 0, 1) := by decide +kernel
theorem dX3_away_80 : decode cX3_away 80 = .ok (.istore 6, 2) := by decide +kernel
theorem dX3_away_82 : decode cX3_away 82 = .ok (.iload 5, 2) := by decide +kernel
theorem dX3_away_84 : decode cX3_away 84 = .ok (.iload_n 3, 1) := by decide +kernel
theorem dX3_away_85 : decode cX3_away 85 = .ok (.iconst (-1), 1) := by decide +kernel
theorem dX3_away_86 : decode cX3_away 86 = .ok (.ixor, 1) := by decide +kernel
theorem dX3_away_87 : decode cX3_away 87 = .ok (.iand, 1) := by decide +kernel
theorem dX3_away_88 : decode cX3_away 88 = .ok (.ifCond .ne 56, 3) := by decide +kernel
theorem dX3_away_91 : decode cX3_away 91 = .ok (.iload 6, 2) := by decide +kernel
theorem dX3_away_93 : decode cX3_away 93 = .ok (.ifCond .ne 6, 3) := by decide +kernel
theorem dX3_away_96 : decode cX3_away 96 = .ok (.goto 48, 3) := by decide +kernel
theorem dX3_away_99 : decode cX3_away 99 = .ok (.aload_n 0, 1) := by decide +kernel
theorem dX3_away_100 : decode cX3_away 100 = .ok (.getfield 16, 3) := by decide +kernel
theorem dX3_away_103 : decode cX3_away 103 = .ok (.aload_n 0, 1) := by decide +kernel
theorem dX3_away_104 : decode cX3_away 104 = .ok (.getfield 10, 3) := by decide +kernel
theorem dX3_away_107 : decode cX3_away 107 = .ok (.invokevirtual 144, 3) := by decide +kernel
theorem dX3_away_110 : decode cX3_away 110 = .ok (.aload_n 0, 1) := by decide +kernel
theorem dX3_away_111 : decode cX3_away 111 = .ok (.getfield 16, 3) := by decide +kernel
theorem dX3_away_114 : decode cX3_away 114 = .ok (.iload 5, 2) := by decide +kernel
theorem dX3_away_116 : decode cX3_away 116 = .ok (.invokevirtual 153, 3) := by decide +kernel
theorem dX3_away_119 : decode cX3_away 119 = .ok (.aload_n 0, 1) := by decide +kernel
theorem dX3_away_120 : decode cX3_away 120 = .ok (.getfield 16, 3) := by decide +kernel
theorem dX3_away_123 : decode cX3_away 123 = .ok (.iload_n 2, 1) := by decide +kernel
theorem dX3_away_124 : decode cX3_away 124 = .ok (.invokevirtual 129, 3) := by decide +kernel
theorem dX3_away_127 : decode cX3_away 127 = .ok (.aload_n 0, 1) := by decide +kernel
theorem dX3_away_128 : decode cX3_away 128 = .ok (.getfield 16, 3) := by decide +kernel
theorem dX3_away_131 : decode cX3_away 131 = .ok (.getfield 110, 3) := by decide +kernel
theorem dX3_away_134 : decode cX3_away 134 = .ok (.iload_n 1, 1) := by decide +kernel
theorem dX3_away_135 : decode cX3_away 135 = .ok (.iaload, 1) := by decide +kernel
theorem dX3_away_136 : decode cX3_away 136 = .ok (.iconst (-1), 1) := by decide +kernel
theorem dX3_away_137 : decode cX3_away 137 = .ok (.if_icmp .eq 7, 3) := by decide +kernel
theorem dX3_away_140 : decode cX3_away 140 = .ok (.iload 5, 2) := by decide +kernel
theorem dX3_away_142 : decode cX3_away 142 = .ok (.istore 4, 2) := by decide +kernel
theorem dX3_away_144 : decode cX3_away 144 = .ok (.iinc 5 1, 3) := by decide +kernel
theorem dX3_away_147 : decode cX3_away 147 = .ok (.goto (-96), 3) := by decide +kernel
theorem dX3_away_150 : decode cX3_away 150 = .ok (.iload 4, 2) := by decide +kernel
theorem dX3_away_152 : decode cX3_away 152 = .ok (.ifCond .ge 11, 3) := by decide +kernel
theorem dX3_away_155 : decode cX3_away 155 = .ok (.aload_n 0, 1) := by decide +kernel
theorem dX3_away_156 : decode cX3_away 156 = .ok (.iconst 3, 1) := by decide +kernel
theorem dX3_away_157 : decode cX3_away 157 = .ok (.invokevirtual 48, 3) := by decide +kernel
theorem dX3_away_160 : decode cX3_away 160 = .ok (.goto 5, 3) := by decide +kernel
theorem dX3_away_163 : decode cX3_away 163 = .ok (.iload 4, 2) := by decide +kernel
theorem dX3_away_165 : decode cX3_away 165 = .ok (.ireturn, 1) := by decide +kernel
theorem dX3_fits_0 : decode cX3_fits 0 = .ok (.aload_n 0, 1) := by decide +kernel
theorem dX3_fits_1 : decode cX3_fits 1 = .ok (.iload_n 1, 1) := by decide +kernel
theorem dX3_fits_2 : decode cX3_fits 2 = .ok (.iload_n 2, 1) := by decide +kernel
theorem dX3_fits_3 : decode cX3_fits 3 = .ok (.invokevirtual 156, 3) := by decide +kernel
theorem dX3_fits_6 : decode cX3_fits 6 = .ok (.istore_n 3, 1) := by decide +kernel
theorem dX3_fits_7 : decode cX3_fits 7 = .ok (.iload_n 3, 1) := by decide +kernel
theorem dX3_fits_8 : decode cX3_fits 8 = .ok (.ifCond .lt 9, 3) := by decide +kernel
theorem dX3_fits_11 : decode cX3_fits 11 = .ok (.aload_n 0, 1) := by decide +kernel
theorem dX3_fits_12 : decode cX3_fits 12 = .ok (.iload_n 3, 1) := by decide +kernel
theorem dX3_fits_13 : decode cX3_fits 13 = .ok (.invokevirtual 48, 3) := by decide +kernel
theorem dX3_fits_16 : decode cX3_fits 16 = .ok (.ireturn, 1) := by decide +kernel
theorem dX3_fits_17 : decode cX3_fits 17 = .ok (.iconst 0, 1) := by decide +kernel
theorem dX3_fits_18 : decode cX3_fits 18 = .ok (.istore 4, 2) := by decide +kernel
theorem dX3_fits_20 : decode cX3_fits 20 = .ok (.iconst 0, 1) := by decide +kernel
theorem dX3_fits_21 : decode cX3_fits 21 = .ok (.istore 5, 2) := by decide +kernel
theorem dX3_fits_23 : decode cX3_fits 23 = .ok (.iload 5, 2) := by decide +kernel
theorem dX3_fits_25 : decode cX3_fits 25 = .ok (.bipush 99, 2) := by decide +kernel
theorem dX3_fits_27 : decode cX3_fits 27 = .ok (.if_icmp .gt 48, 3) := by decide +kernel
theorem dX3_fits_30 : decode cX3_fits 30 = .ok (.aload_n 0, 1) := by decide +kernel
theorem dX3_fits_31 : decode cX3_fits 31 = .ok (.getfield 16, 3) := by decide +kernel
theorem dX3_fits_34 : decode cX3_fits 34 = .ok (.aload_n 0, 1) := by decide +kernel
theorem dX3_fits_35 : decode cX3_fits 35 = .ok (.getfield 10, 3) := by decide +kernel
theorem dX3_fits_38 : decode cX3_fits 38 = .ok (.invokevirtual 144, 3) := by decide +kernel
theorem dX3_fits_41 : decode cX3_fits 41 = .ok (.aload_n 0, 1) := by decide +kernel
theorem dX3_fits_42 : decode cX3_fits 42 = .ok (.getfield 16, 3) := by decide +kernel
theorem dX3_fits_45 : decode cX3_fits 45 = .ok (.getfield 113, 3) := by decide +kernel
theorem dX3_fits_48 : decode cX3_fits 48 = .ok (.iload_n 2, 1) := by decide +kernel
theorem dX3_fits_49 : decode cX3_fits 49 = .ok (.iload 5, 2) := by decide +kernel
theorem dX3_fits_51 : decode cX3_fits 51 = .ok (.iastore, 1) := by decide +kernel
theorem dX3_fits_52 : decode cX3_fits 52 = .ok (.aload_n 0, 1) := by decide +kernel
theorem dX3_fits_53 : decode cX3_fits 53 = .ok (.iload_n 2, 1) := by decide +kernel
theorem dX3_fits_54 : decode cX3_fits 54 = .ok (.aload_n 0, 1) := by decide +kernel
theorem dX3_fits_55 : decode cX3_fits 55 = .ok (.getfield 35, 3) := by decide +kernel
theorem dX3_fits_58 : decode cX3_fits 58 = .ok (.iload_n 1, 1) := by decide +kernel
theorem dX3_fits_59 : decode cX3_fits 59 = .ok (.aaload, 1) := by decide +kernel
theorem dX3_fits_60 : decode cX3_fits 60 = .ok (.invokevirtual 159, 3) := by decide +kernel
theorem dX3_fits_63 : decode cX3_fits 63 = .ok (.ifCond .eq 6, 3) := by decide +kernel
theorem dX3_fits_66 : decode cX3_fits 66 = .ok (.iinc 4 1, 3) := by decide +kernel
theorem dX3_fits_69 : decode cX3_fits 69 = .ok (.iinc 5 1, 3) := by decide +kernel
theorem dX3_fits_72 : decode cX3_fits 72 = .ok (.goto (-49), 3) := by decide +kernel
theorem dX3_fits_75 : decode cX3_fits 75 = .ok (.iload 4, 2) := by decide +kernel
theorem dX3_fits_77 : decode cX3_fits 77 = .ok (.ireturn, 1) := by decide +kernel
theorem dX3_believed_0 : decode cX3_believed 0 = .ok (.aload_n 0, 1) := by decide +kernel
theorem dX3_believed_1 : decode cX3_believed 1 = .ok (.iload_n 1, 1) := by decide +kernel
theorem dX3_believed_2 : decode cX3_believed 2 = .ok (.iload_n 2, 1) := by decide +kernel
theorem dX3_believed_3 : decode cX3_believed 3 = .ok (.invokevirtual 156, 3) := by decide +kernel
theorem dX3_believed_6 : decode cX3_believed 6 = .ok (.istore_n 3, 1) := by decide +kernel
theorem dX3_believed_7 : decode cX3_believed 7 = .ok (.iload_n 3, 1) := by decide +kernel
theorem dX3_believed_8 : decode cX3_believed 8 = .ok (.ifCond .lt 9, 3) := by decide +kernel
theorem dX3_believed_11 : decode cX3_believed 11 = .ok (.aload_n 0, 1) := by decide +kernel
theorem dX3_believed_12 : decode cX3_believed 12 = .ok (.iload_n 3, 1) := by decide +kernel
theorem dX3_believed_13 : decode cX3_believed 13 = .ok (.invokevirtual 48, 3) := by decide +kernel
theorem dX3_believed_16 : decode cX3_believed 16 = .ok (.ireturn, 1) := by decide +kernel
theorem dX3_believed_17 : decode cX3_believed 17 = .ok (.iconst 0, 1) := by decide +kernel
theorem dX3_believed_18 : decode cX3_believed 18 = .ok (.istore 4, 2) := by decide +kernel
theorem dX3_believed_20 : decode cX3_believed 20 = .ok (.iload 4, 2) := by decide +kernel
theorem dX3_believed_22 : decode cX3_believed 22 = .ok (.bipush 99, 2) := by decide +kernel
theorem dX3_believed_24 : decode cX3_believed 24 = .ok (.if_icmp .gt 48, 3) := by decide +kernel
theorem dX3_believed_27 : decode cX3_believed 27 = .ok (.aload_n 0, 1) := by decide +kernel
theorem dX3_believed_28 : decode cX3_believed 28 = .ok (.getfield 16, 3) := by decide +kernel
theorem dX3_believed_31 : decode cX3_believed 31 = .ok (.aload_n 0, 1) := by decide +kernel
theorem dX3_believed_32 : decode cX3_believed 32 = .ok (.getfield 10, 3) := by decide +kernel
theorem dX3_believed_35 : decode cX3_believed 35 = .ok (.invokevirtual 144, 3) := by decide +kernel
theorem dX3_believed_38 : decode cX3_believed 38 = .ok (.aload_n 0, 1) := by decide +kernel
theorem dX3_believed_39 : decode cX3_believed 39 = .ok (.getfield 16, 3) := by decide +kernel
theorem dX3_believed_42 : decode cX3_believed 42 = .ok (.getfield 113, 3) := by decide +kernel
theorem dX3_believed_45 : decode cX3_believed 45 = .ok (.iload_n 2, 1) := by decide +kernel
theorem dX3_believed_46 : decode cX3_believed 46 = .ok (.iload 4, 2) := by decide +kernel
theorem dX3_believed_48 : decode cX3_believed 48 = .ok (.iastore, 1) := by decide +kernel
theorem dX3_believed_49 : decode cX3_believed 49 = .ok (.aload_n 0, 1) := by decide +kernel
theorem dX3_believed_50 : decode cX3_believed 50 = .ok (.iload_n 2, 1) := by decide +kernel
theorem dX3_believed_51 : decode cX3_believed 51 = .ok (.aload_n 0, 1) := by decide +kernel
theorem dX3_believed_52 : decode cX3_believed 52 = .ok (.getfield 35, 3) := by decide +kernel
theorem dX3_believed_55 : decode cX3_believed 55 = .ok (.iload_n 1, 1) := by decide +kernel
theorem dX3_believed_56 : decode cX3_believed 56 = .ok (.aaload, 1) := by decide +kernel
theorem dX3_believed_57 : decode cX3_believed 57 = .ok (.invokevirtual 159, 3) := by decide +kernel
theorem dX3_believed_60 : decode cX3_believed 60 = .ok (.ifCond .eq 6, 3) := by decide +kernel
theorem dX3_believed_63 : decode cX3_believed 63 = .ok (.iload 4, 2) := by decide +kernel
theorem dX3_believed_65 : decode cX3_believed 65 = .ok (.ireturn, 1) := by decide +kernel
theorem dX3_believed_66 : decode cX3_believed 66 = .ok (.iinc 4 1, 3) := by decide +kernel
theorem dX3_believed_69 : decode cX3_believed 69 = .ok (.goto (-49), 3) := by decide +kernel
theorem dX3_believed_72 : decode cX3_believed 72 = .ok (.aload_n 0, 1) := by decide +kernel
theorem dX3_believed_73 : decode cX3_believed 73 = .ok (.iconst 3, 1) := by decide +kernel
theorem dX3_believed_74 : decode cX3_believed 74 = .ok (.invokevirtual 48, 3) := by decide +kernel
theorem dX3_believed_77 : decode cX3_believed 77 = .ok (.ireturn, 1) := by decide +kernel
theorem dX3_kinds_0 : decode cX3_kinds 0 = .ok (.aload_n 0, 1) := by decide +kernel
theorem dX3_kinds_1 : decode cX3_kinds 1 = .ok (.iload_n 1, 1) := by decide +kernel
theorem dX3_kinds_2 : decode cX3_kinds 2 = .ok (.iload_n 2, 1) := by decide +kernel
theorem dX3_kinds_3 : decode cX3_kinds 3 = .ok (.invokevirtual 156, 3) := by decide +kernel
theorem dX3_kinds_6 : decode cX3_kinds 6 = .ok (.istore_n 3, 1) := by decide +kernel
theorem dX3_kinds_7 : decode cX3_kinds 7 = .ok (.iload_n 3, 1) := by decide +kernel
theorem dX3_kinds_8 : decode cX3_kinds 8 = .ok (.ifCond .lt 9, 3) := by decide +kernel
theorem dX3_kinds_11 : decode cX3_kinds 11 = .ok (.aload_n 0, 1) := by decide +kernel
theorem dX3_kinds_12 : decode cX3_kinds 12 = .ok (.iload_n 3, 1) := by decide +kernel
theorem dX3_kinds_13 : decode cX3_kinds 13 = .ok (.invokevirtual 48, 3) := by decide +kernel
theorem dX3_kinds_16 : decode cX3_kinds 16 = .ok (.ireturn, 1) := by decide +kernel
theorem dX3_kinds_17 : decode cX3_kinds 17 = .ok (.iconst 0, 1) := by decide +kernel
theorem dX3_kinds_18 : decode cX3_kinds 18 = .ok (.istore 4, 2) := by decide +kernel
theorem dX3_kinds_20 : decode cX3_kinds 20 = .ok (.iconst 0, 1) := by decide +kernel
theorem dX3_kinds_21 : decode cX3_kinds 21 = .ok (.istore 5, 2) := by decide +kernel
theorem dX3_kinds_23 : decode cX3_kinds 23 = .ok (.iload 5, 2) := by decide +kernel
theorem dX3_kinds_25 : decode cX3_kinds 25 = .ok (.bipush 7, 2) := by decide +kernel
theorem dX3_kinds_27 : decode cX3_kinds 27 = .ok (.if_icmp .ge 54, 3) := by decide +kernel
theorem dX3_kinds_30 : decode cX3_kinds 30 = .ok (.aload_n 0, 1) := by decide +kernel
theorem dX3_kinds_31 : decode cX3_kinds 31 = .ok (.getfield 16, 3) := by decide +kernel
theorem dX3_kinds_34 : decode cX3_kinds 34 = .ok (.aload_n 0, 1) := by decide +kernel
theorem dX3_kinds_35 : decode cX3_kinds 35 = .ok (.getfield 10, 3) := by decide +kernel
theorem dX3_kinds_38 : decode cX3_kinds 38 = .ok (.invokevirtual 144, 3) := by decide +kernel
theorem dX3_kinds_41 : decode cX3_kinds 41 = .ok (.aload_n 0, 1) := by decide +kernel
theorem dX3_kinds_42 : decode cX3_kinds 42 = .ok (.getfield 16, 3) := by decide +kernel
theorem dX3_kinds_45 : decode cX3_kinds 45 = .ok (.getfield 94, 3) := by decide +kernel
theorem dX3_kinds_48 : decode cX3_kinds 48 = .ok (.iload_n 2, 1) := by decide +kernel
theorem dX3_kinds_49 : decode cX3_kinds 49 = .ok (.iload 5, 2) := by decide +kernel
theorem dX3_kinds_51 : decode cX3_kinds 51 = .ok (.iastore, 1) := by decide +kernel
theorem dX3_kinds_52 : decode cX3_kinds 52 = .ok (.aload_n 0, 1) := by decide +kernel
theorem dX3_kinds_53 : decode cX3_kinds 53 = .ok (.iload_n 2, 1) := by decide +kernel
theorem dX3_kinds_54 : decode cX3_kinds 54 = .ok (.aload_n 0, 1) := by decide +kernel
theorem dX3_kinds_55 : decode cX3_kinds 55 = .ok (.getfield 35, 3) := by decide +kernel
theorem dX3_kinds_58 : decode cX3_kinds 58 = .ok (.iload_n 1, 1) := by decide +kernel
theorem dX3_kinds_59 : decode cX3_kinds 59 = .ok (.aaload, 1) := by decide +kernel
theorem dX3_kinds_60 : decode cX3_kinds 60 = .ok (.invokevirtual 159, 3) := by decide +kernel
theorem dX3_kinds_63 : decode cX3_kinds 63 = .ok (.ifCond .eq 12, 3) := by decide +kernel
theorem dX3_kinds_66 : decode cX3_kinds 66 = .ok (.iload 4, 2) := by decide +kernel
theorem dX3_kinds_68 : decode cX3_kinds 68 = .ok (.iconst 1, 1) := by decide +kernel
theorem dX3_kinds_69 : decode cX3_kinds 69 = .ok (.iload 5, 2) := by decide +kernel
theorem dX3_kinds_71 : decode cX3_kinds 71 = .ok (.ishl, 1) := by decide +kernel
theorem dX3_kinds_72 : decode cX3_kinds 72 = .ok (.ior, 1) := by decide +kernel
theorem dX3_kinds_73 : decode cX3_kinds 73 = .ok (.istore 4, 2) := by decide +kernel
theorem dX3_kinds_75 : decode cX3_kinds 75 = .ok (.iinc 5 1, 3) := by decide +kernel
theorem dX3_kinds_78 : decode cX3_kinds 78 = .ok (.goto (-55), 3) := by decide +kernel
theorem dX3_kinds_81 : decode cX3_kinds 81 = .ok (.iload 4, 2) := by decide +kernel
theorem dX3_kinds_83 : decode cX3_kinds 83 = .ok (.ireturn, 1) := by decide +kernel
theorem dX3_fine_0 : decode cX3_fine 0 = .ok (.iload_n 1, 1) := by decide +kernel
theorem dX3_fine_1 : decode cX3_fine 1 = .ok (.iconst 1, 1) := by decide +kernel
theorem dX3_fine_2 : decode cX3_fine 2 = .ok (.bipush 20, 2) := by decide +kernel
theorem dX3_fine_4 : decode cX3_fine 4 = .ok (.invokestatic 52, 3) := by decide +kernel
theorem dX3_fine_7 : decode cX3_fine 7 = .ok (.ifCond .ne 9, 3) := by decide +kernel
theorem dX3_fine_10 : decode cX3_fine 10 = .ok (.aload_n 0, 1) := by decide +kernel
theorem dX3_fine_11 : decode cX3_fine 11 = .ok (.iconst 0, 1) := by decide +kernel
theorem dX3_fine_12 : decode cX3_fine 12 = .ok (.invokevirtual 48, 3) := by decide +kernel
theorem dX3_fine_15 : decode cX3_fine 15 = .ok (.ireturn, 1) := by decide +kernel
theorem dX3_fine_16 : decode cX3_fine 16 = .ok (.aload_n 0, 1) := by decide +kernel
theorem dX3_fine_17 : decode cX3_fine 17 = .ok (.getfield 10, 3) := by decide +kernel
theorem dX3_fine_20 : decode cX3_fine 20 = .ok (.getfield 125, 3) := by decide +kernel
theorem dX3_fine_23 : decode cX3_fine 23 = .ok (.iload_n 1, 1) := by decide +kernel
theorem dX3_fine_24 : decode cX3_fine 24 = .ok (.iadd, 1) := by decide +kernel
theorem dX3_fine_25 : decode cX3_fine 25 = .ok (.ldc 128, 2) := by decide +kernel
theorem dX3_fine_27 : decode cX3_fine 27 = .ok (.if_icmp .le 9, 3) := by decide +kernel
theorem dX3_fine_30 : decode cX3_fine 30 = .ok (.aload_n 0, 1) := by decide +kernel
theorem dX3_fine_31 : decode cX3_fine 31 = .ok (.iconst 4, 1) := by decide +kernel
theorem dX3_fine_32 : decode cX3_fine 32 = .ok (.invokevirtual 48, 3) := by decide +kernel
theorem dX3_fine_35 : decode cX3_fine 35 = .ok (.ireturn, 1) := by decide +kernel
theorem dX3_fine_36 : decode cX3_fine 36 = .ok (.iconst 0, 1) := by decide +kernel
theorem dX3_fine_37 : decode cX3_fine 37 = .ok (.istore_n 2, 1) := by decide +kernel
theorem dX3_fine_38 : decode cX3_fine 38 = .ok (.iload_n 2, 1) := by decide +kernel
theorem dX3_fine_39 : decode cX3_fine 39 = .ok (.iload_n 1, 1) := by decide +kernel
theorem dX3_fine_40 : decode cX3_fine 40 = .ok (.if_icmp .ge 64, 3) := by decide +kernel
theorem dX3_fine_43 : decode cX3_fine 43 = .ok (.aload_n 0, 1) := by decide +kernel
theorem dX3_fine_44 : decode cX3_fine 44 = .ok (.getfield 10, 3) := by decide +kernel
theorem dX3_fine_47 : decode cX3_fine 47 = .ok (.getfield 78, 3) := by decide +kernel
theorem dX3_fine_50 : decode cX3_fine 50 = .ok (.aload_n 0, 1) := by decide +kernel
theorem dX3_fine_51 : decode cX3_fine 51 = .ok (.getfield 10, 3) := by decide +kernel
theorem dX3_fine_54 : decode cX3_fine 54 = .ok (.getfield 125, 3) := by decide +kernel
theorem dX3_fine_57 : decode cX3_fine 57 = .ok (.bipush 6, 2) := by decide +kernel
theorem dX3_fine_59 : decode cX3_fine 59 = .ok (.irem, 1) := by decide +kernel
theorem dX3_fine_60 : decode cX3_fine 60 = .ok (.aload_n 0, 1) := by decide +kernel
theorem dX3_fine_61 : decode cX3_fine 61 = .ok (.getfield 10, 3) := by decide +kernel
theorem dX3_fine_64 : decode cX3_fine 64 = .ok (.invokevirtual 163, 3) := by decide +kernel
theorem dX3_fine_67 : decode cX3_fine 67 = .ok (.bipush 41, 2) := by decide +kernel
theorem dX3_fine_69 : decode cX3_fine 69 = .ok (.irem, 1) := by decide +kernel
theorem dX3_fine_70 : decode cX3_fine 70 = .ok (.iastore, 1) := by decide +kernel
theorem dX3_fine_71 : decode cX3_fine 71 = .ok (.aload_n 0, 1) := by decide +kernel
theorem dX3_fine_72 : decode cX3_fine 72 = .ok (.getfield 10, 3) := by decide +kernel
theorem dX3_fine_75 : decode cX3_fine 75 = .ok (.getfield 69, 3) := by decide +kernel
theorem dX3_fine_78 : decode cX3_fine 78 = .ok (.aload_n 0, 1) := by decide +kernel
theorem dX3_fine_79 : decode cX3_fine 79 = .ok (.getfield 10, 3) := by decide +kernel
theorem dX3_fine_82 : decode cX3_fine 82 = .ok (.invokevirtual 163, 3) := by decide +kernel
theorem dX3_fine_85 : decode cX3_fine 85 = .ok (.bipush 10, 2) := by decide +kernel
theorem dX3_fine_87 : decode cX3_fine 87 = .ok (.irem, 1) := by decide +kernel
theorem dX3_fine_88 : decode cX3_fine 88 = .ok (.iconst (-1), 1) := by decide +kernel
theorem dX3_fine_89 : decode cX3_fine 89 = .ok (.iastore, 1) := by decide +kernel
theorem dX3_fine_90 : decode cX3_fine 90 = .ok (.aload_n 0, 1) := by decide +kernel
theorem dX3_fine_91 : decode cX3_fine 91 = .ok (.getfield 10, 3) := by decide +kernel
theorem dX3_fine_94 : decode cX3_fine 94 = .ok (.iconst 1, 1) := by decide +kernel
theorem dX3_fine_95 : decode cX3_fine 95 = .ok (.invokevirtual 129, 3) := by decide +kernel
theorem dX3_fine_98 : decode cX3_fine 98 = .ok (.iinc 2 1, 3) := by decide +kernel
theorem dX3_fine_101 : decode cX3_fine 101 = .ok (.goto (-63), 3) := by decide +kernel
theorem dX3_fine_104 : decode cX3_fine 104 = .ok (.aload_n 0, 1) := by decide +kernel
theorem dX3_fine_105 : decode cX3_fine 105 = .ok (.getfield 10, 3) := by decide +kernel
theorem dX3_fine_108 : decode cX3_fine 108 = .ok (.invokevirtual 133, 3) := by decide +kernel
theorem dX3_fine_111 : decode cX3_fine 111 = .ok (.ireturn, 1) := by decide +kernel
theorem dX3_odds_0 : decode cX3_odds 0 = .ok (.aload_n 0, 1) := by decide +kernel
theorem dX3_odds_1 : decode cX3_odds 1 = .ok (.getfield 10, 3) := by decide +kernel
theorem dX3_odds_4 : decode cX3_odds 4 = .ok (.iload_n 1, 1) := by decide +kernel
theorem dX3_odds_5 : decode cX3_odds 5 = .ok (.invokevirtual 66, 3) := by decide +kernel
theorem dX3_odds_8 : decode cX3_odds 8 = .ok (.ifCond .eq 22, 3) := by decide +kernel
theorem dX3_odds_11 : decode cX3_odds 11 = .ok (.iload_n 2, 1) := by decide +kernel
theorem dX3_odds_12 : decode cX3_odds 12 = .ok (.iconst 0, 1) := by decide +kernel
theorem dX3_odds_13 : decode cX3_odds 13 = .ok (.bipush 18, 2) := by decide +kernel
theorem dX3_odds_15 : decode cX3_odds 15 = .ok (.invokestatic 52, 3) := by decide +kernel
theorem dX3_odds_18 : decode cX3_odds 18 = .ok (.ifCond .eq 12, 3) := by decide +kernel
theorem dX3_odds_21 : decode cX3_odds 21 = .ok (.iload_n 3, 1) := by decide +kernel
theorem dX3_odds_22 : decode cX3_odds 22 = .ok (.iconst 0, 1) := by decide +kernel
theorem dX3_odds_23 : decode cX3_odds 23 = .ok (.iconst 1, 1) := by decide +kernel
theorem dX3_odds_24 : decode cX3_odds 24 = .ok (.invokestatic 52, 3) := by decide +kernel
theorem dX3_odds_27 : decode cX3_odds 27 = .ok (.ifCond .ne 10, 3) := by decide +kernel
theorem dX3_odds_30 : decode cX3_odds 30 = .ok (.aload_n 0, 1) := by decide +kernel
theorem dX3_odds_31 : decode cX3_odds 31 = .ok (.iconst 0, 1) := by decide +kernel
theorem dX3_odds_32 : decode cX3_odds 32 = .ok (.invokevirtual 48, 3) := by decide +kernel
theorem dX3_odds_35 : decode cX3_odds 35 = .ok (.i2l, 1) := by decide +kernel
theorem dX3_odds_36 : decode cX3_odds 36 = .ok (.lreturn, 1) := by decide +kernel
theorem dX3_odds_37 : decode cX3_odds 37 = .ok (.iconst 0, 1) := by decide +kernel
theorem dX3_odds_38 : decode cX3_odds 38 = .ok (.istore 4, 2) := by decide +kernel
theorem dX3_odds_40 : decode cX3_odds 40 = .ok (.iconst 0, 1) := by decide +kernel
theorem dX3_odds_41 : decode cX3_odds 41 = .ok (.istore 5, 2) := by decide +kernel
theorem dX3_odds_43 : decode cX3_odds 43 = .ok (.iload 5, 2) := by decide +kernel
theorem dX3_odds_45 : decode cX3_odds 45 = .ok (.bipush 10, 2) := by decide +kernel
theorem dX3_odds_47 : decode cX3_odds 47 = .ok (.if_icmp .ge 25, 3) := by decide +kernel
theorem dX3_odds_50 : decode cX3_odds 50 = .ok (.aload_n 0, 1) := by decide +kernel
theorem dX3_odds_51 : decode cX3_odds 51 = .ok (.getfield 10, 3) := by decide +kernel
theorem dX3_odds_54 : decode cX3_odds 54 = .ok (.iload_n 1, 1) := by decide +kernel
theorem dX3_odds_55 : decode cX3_odds 55 = .ok (.iload 5, 2) := by decide +kernel
theorem dX3_odds_57 : decode cX3_odds 57 = .ok (.invokevirtual 166, 3) := by decide +kernel
theorem dX3_odds_60 : decode cX3_odds 60 = .ok (.ifCond .eq 6, 3) := by decide +kernel
theorem dX3_odds_63 : decode cX3_odds 63 = .ok (.iinc 4 1, 3) := by decide +kernel
theorem dX3_odds_66 : decode cX3_odds 66 = .ok (.iinc 5 1, 3) := by decide +kernel
theorem dX3_odds_69 : decode cX3_odds 69 = .ok (.goto (-26), 3) := by decide +kernel
theorem dX3_odds_72 : decode cX3_odds 72 = .ok (.iload 4, 2) := by decide +kernel
theorem dX3_odds_74 : decode cX3_odds 74 = .ok (.bipush 10, 2) := by decide +kernel
theorem dX3_odds_76 : decode cX3_odds 76 = .ok (.invokestatic 170, 3) := by decide +kernel
theorem dX3_odds_79 : decode cX3_odds 79 = .ok (.istore 5, 2) := by decide +kernel
theorem dX3_odds_81 : decode cX3_odds 81 = .ok (.iload_n 3, 1) := by decide +kernel
theorem dX3_odds_82 : decode cX3_odds 82 = .ok (.ifCond .ne 11, 3) := by decide +kernel
theorem dX3_odds_85 : decode cX3_odds 85 = .ok (.iload 4, 2) := by decide +kernel
theorem dX3_odds_87 : decode cX3_odds 87 = .ok (.iload 5, 2) := by decide +kernel
theorem dX3_odds_89 : decode cX3_odds 89 = .ok (.idiv, 1) := by decide +kernel
theorem dX3_odds_90 : decode cX3_odds 90 = .ok (.goto 8, 3) := by decide +kernel
theorem dX3_odds_93 : decode cX3_odds 93 = .ok (.bipush 10, 2) := by decide +kernel
theorem dX3_odds_95 : decode cX3_odds 95 = .ok (.iload 5, 2) := by decide +kernel
theorem dX3_odds_97 : decode cX3_odds 97 = .ok (.idiv, 1) := by decide +kernel
theorem dX3_odds_98 : decode cX3_odds 98 = .ok (.istore 6, 2) := by decide +kernel
theorem dX3_odds_100 : decode cX3_odds 100 = .ok (.lconst 1, 1) := by decide +kernel
theorem dX3_odds_101 : decode cX3_odds 101 = .ok (.lstore 7, 2) := by decide +kernel
theorem dX3_odds_103 : decode cX3_odds 103 = .ok (.iconst 0, 1) := by decide +kernel
theorem dX3_odds_104 : decode cX3_odds 104 = .ok (.istore 9, 2) := by decide +kernel
theorem dX3_odds_106 : decode cX3_odds 106 = .ok (.iload 9, 2) := by decide +kernel
theorem dX3_odds_108 : decode cX3_odds 108 = .ok (.iload_n 2, 1) := by decide +kernel
theorem dX3_odds_109 : decode cX3_odds 109 = .ok (.if_icmp .ge 17, 3) := by decide +kernel
theorem dX3_odds_112 : decode cX3_odds 112 = .ok (.lload 7, 2) := by decide +kernel
theorem dX3_odds_114 : decode cX3_odds 114 = .ok (.iload 6, 2) := by decide +kernel
theorem dX3_odds_116 : decode cX3_odds 116 = .ok (.i2l, 1) := by decide +kernel
theorem dX3_odds_117 : decode cX3_odds 117 = .ok (.lmul, 1) := by decide +kernel
theorem dX3_odds_118 : decode cX3_odds 118 = .ok (.lstore 7, 2) := by decide +kernel
theorem dX3_odds_120 : decode cX3_odds 120 = .ok (.iinc 9 1, 3) := by decide +kernel
theorem dX3_odds_123 : decode cX3_odds 123 = .ok (.goto (-17), 3) := by decide +kernel
theorem dX3_odds_126 : decode cX3_odds 126 = .ok (.lload 7, 2) := by decide +kernel
theorem dX3_odds_128 : decode cX3_odds 128 = .ok (.lreturn, 1) := by decide +kernel
theorem dX3_seed_0 : decode cX3_seed 0 = .ok (.aload_n 0, 1) := by decide +kernel
theorem dX3_seed_1 : decode cX3_seed 1 = .ok (.getfield 10, 3) := by decide +kernel
theorem dX3_seed_4 : decode cX3_seed 4 = .ok (.getfield 173, 3) := by decide +kernel
theorem dX3_seed_7 : decode cX3_seed 7 = .ok (.istore_n 2, 1) := by decide +kernel
theorem dX3_seed_8 : decode cX3_seed 8 = .ok (.aload_n 0, 1) := by decide +kernel
theorem dX3_seed_9 : decode cX3_seed 9 = .ok (.getfield 10, 3) := by decide +kernel
theorem dX3_seed_12 : decode cX3_seed 12 = .ok (.iload_n 1, 1) := by decide +kernel
theorem dX3_seed_13 : decode cX3_seed 13 = .ok (.putfield 173, 3) := by decide +kernel
theorem dX3_seed_16 : decode cX3_seed 16 = .ok (.iload_n 2, 1) := by decide +kernel
theorem dX3_seed_17 : decode cX3_seed 17 = .ok (.ireturn, 1) := by decide +kernel
theorem dX3_feed_0 : decode cX3_feed 0 = .ok (.iload_n 2, 1) := by decide +kernel
theorem dX3_feed_1 : decode cX3_feed 1 = .ok (.iconst 1, 1) := by decide +kernel
theorem dX3_feed_2 : decode cX3_feed 2 = .ok (.iconst 4, 1) := by decide +kernel
theorem dX3_feed_3 : decode cX3_feed 3 = .ok (.invokestatic 52, 3) := by decide +kernel
theorem dX3_feed_6 : decode cX3_feed 6 = .ok (.ifCond .ne 9, 3) := by decide +kernel
theorem dX3_feed_9 : decode cX3_feed 9 = .ok (.aload_n 0, 1) := by decide +kernel
theorem dX3_feed_10 : decode cX3_feed 10 = .ok (.iconst 0, 1) := by decide +kernel
theorem dX3_feed_11 : decode cX3_feed 11 = .ok (.invokevirtual 48, 3) := by decide +kernel
theorem dX3_feed_14 : decode cX3_feed 14 = .ok (.ireturn, 1) := by decide +kernel
theorem dX3_feed_15 : decode cX3_feed 15 = .ok (.aload_n 0, 1) := by decide +kernel
theorem dX3_feed_16 : decode cX3_feed 16 = .ok (.getfield 29, 3) := by decide +kernel
theorem dX3_feed_19 : decode cX3_feed 19 = .ok (.getfield 176, 3) := by decide +kernel
theorem dX3_feed_22 : decode cX3_feed 22 = .ok (.iload_n 2, 1) := by decide +kernel
theorem dX3_feed_23 : decode cX3_feed 23 = .ok (.iadd, 1) := by decide +kernel
theorem dX3_feed_24 : decode cX3_feed 24 = .ok (.bipush 120, 2) := by decide +kernel
theorem dX3_feed_26 : decode cX3_feed 26 = .ok (.if_icmp .le 9, 3) := by decide +kernel
theorem dX3_feed_29 : decode cX3_feed 29 = .ok (.aload_n 0, 1) := by decide +kernel
theorem dX3_feed_30 : decode cX3_feed 30 = .ok (.iconst 1, 1) := by decide +kernel
theorem dX3_feed_31 : decode cX3_feed 31 = .ok (.invokevirtual 48, 3) := by decide +kernel
theorem dX3_feed_34 : decode cX3_feed 34 = .ok (.ireturn, 1) := by decide +kernel
theorem dX3_feed_35 : decode cX3_feed 35 = .ok (.iload_n 2, 1) := by decide +kernel
theorem dX3_feed_36 : decode cX3_feed 36 = .ok (.iconst 1, 1) := by decide +kernel
theorem dX3_feed_37 : decode cX3_feed 37 = .ok (.isub, 1) := by decide +kernel
theorem dX3_feed_38 : decode cX3_feed 38 = .ok (.istore_n 3, 1) := by decide +kernel
theorem dX3_feed_39 : decode cX3_feed 39 = .ok (.iload_n 3, 1) := by decide +kernel
theorem dX3_feed_40 : decode cX3_feed 40 = .ok (.ifCond .lt 22, 3) := by decide +kernel
theorem dX3_feed_43 : decode cX3_feed 43 = .ok (.aload_n 0, 1) := by decide +kernel
theorem dX3_feed_44 : decode cX3_feed 44 = .ok (.getfield 29, 3) := by decide +kernel
theorem dX3_feed_47 : decode cX3_feed 47 = .ok (.iload_n 1, 1) := by decide +kernel
theorem dX3_feed_48 : decode cX3_feed 48 = .ok (.bipush 8, 2) := by decide +kernel
theorem dX3_feed_50 : decode cX3_feed 50 = .ok (.iload_n 3, 1) := by decide +kernel
theorem dX3_feed_51 : decode cX3_feed 51 = .ok (.imul, 1) := by decide +kernel
theorem dX3_feed_52 : decode cX3_feed 52 = .ok (.iushr, 1) := by decide +kernel
theorem dX3_feed_53 : decode cX3_feed 53 = .ok (.invokevirtual 179, 3) := by decide +kernel
theorem dX3_feed_56 : decode cX3_feed 56 = .ok (.iinc 3 (-1), 3) := by decide +kernel
theorem dX3_feed_59 : decode cX3_feed 59 = .ok (.goto (-20), 3) := by decide +kernel
theorem dX3_feed_62 : decode cX3_feed 62 = .ok (.aload_n 0, 1) := by decide +kernel
theorem dX3_feed_63 : decode cX3_feed 63 = .ok (.getfield 29, 3) := by decide +kernel
theorem dX3_feed_66 : decode cX3_feed 66 = .ok (.getfield 176, 3) := by decide +kernel
theorem dX3_feed_69 : decode cX3_feed 69 = .ok (.ireturn, 1) := by decide +kernel
theorem dX3_wipe_0 : decode cX3_wipe 0 = .ok (.aload_n 0, 1) := by decide +kernel
theorem dX3_wipe_1 : decode cX3_wipe 1 = .ok (.getfield 29, 3) := by decide +kernel
theorem dX3_wipe_4 : decode cX3_wipe 4 = .ok (.getfield 176, 3) := by decide +kernel
theorem dX3_wipe_7 : decode cX3_wipe 7 = .ok (.istore_n 1, 1) := by decide +kernel
theorem dX3_wipe_8 : decode cX3_wipe 8 = .ok (.aload_n 0, 1) := by decide +kernel
theorem dX3_wipe_9 : decode cX3_wipe 9 = .ok (.getfield 29, 3) := by decide +kernel
theorem dX3_wipe_12 : decode cX3_wipe 12 = .ok (.iconst 0, 1) := by decide +kernel
theorem dX3_wipe_13 : decode cX3_wipe 13 = .ok (.putfield 176, 3) := by decide +kernel
theorem dX3_wipe_16 : decode cX3_wipe 16 = .ok (.iload_n 1, 1) := by decide +kernel
theorem dX3_wipe_17 : decode cX3_wipe 17 = .ok (.ireturn, 1) := by decide +kernel
theorem dX3_text_0 : decode cX3_text 0 = .ok (.aload_n 0, 1) := by decide +kernel
theorem dX3_text_1 : decode cX3_text 1 = .ok (.getfield 16, 3) := by decide +kernel
theorem dX3_text_4 : decode cX3_text 4 = .ok (.aload_n 0, 1) := by decide +kernel
theorem dX3_text_5 : decode cX3_text 5 = .ok (.getfield 10, 3) := by decide +kernel
theorem dX3_text_8 : decode cX3_text 8 = .ok (.invokevirtual 144, 3) := by decide +kernel
theorem dX3_text_11 : decode cX3_text 11 = .ok (.aload_n 0, 1) := by decide +kernel
theorem dX3_text_12 : decode cX3_text 12 = .ok (.getfield 29, 3) := by decide +kernel
theorem dX3_text_15 : decode cX3_text 15 = .ok (.aload_n 0, 1) := by decide +kernel
theorem dX3_text_16 : decode cX3_text 16 = .ok (.getfield 16, 3) := by decide +kernel
theorem dX3_text_19 : decode cX3_text 19 = .ok (.invokevirtual 182, 3) := by decide +kernel
theorem dX3_text_22 : decode cX3_text 22 = .ok (.istore_n 1, 1) := by decide +kernel
theorem dX3_text_23 : decode cX3_text 23 = .ok (.aload_n 0, 1) := by decide +kernel
theorem dX3_text_24 : decode cX3_text 24 = .ok (.getfield 29, 3) := by decide +kernel
theorem dX3_text_27 : decode cX3_text 27 = .ok (.iconst 0, 1) := by decide +kernel
theorem dX3_text_28 : decode cX3_text 28 = .ok (.putfield 176, 3) := by decide +kernel
theorem dX3_text_31 : decode cX3_text 31 = .ok (.aload_n 0, 1) := by decide +kernel
theorem dX3_text_32 : decode cX3_text 32 = .ok (.getfield 29, 3) := by decide +kernel
theorem dX3_text_35 : decode cX3_text 35 = .ok (.getfield 186, 3) := by decide +kernel
theorem dX3_text_38 : decode cX3_text 38 = .ok (.ifCond .lt 13, 3) := by decide +kernel
theorem dX3_text_41 : decode cX3_text 41 = .ok (.iconst (-1), 1) := by decide +kernel
theorem dX3_text_42 : decode cX3_text 42 = .ok (.aload_n 0, 1) := by decide +kernel
theorem dX3_text_43 : decode cX3_text 43 = .ok (.getfield 29, 3) := by decide +kernel
theorem dX3_text_46 : decode cX3_text 46 = .ok (.getfield 186, 3) := by decide +kernel
theorem dX3_text_49 : decode cX3_text 49 = .ok (.isub, 1) := by decide +kernel
theorem dX3_text_50 : decode cX3_text 50 = .ok (.ireturn, 1) := by decide +kernel
theorem dX3_text_51 : decode cX3_text 51 = .ok (.aload_n 0, 1) := by decide +kernel
theorem dX3_text_52 : decode cX3_text 52 = .ok (.getfield 10, 3) := by decide +kernel
theorem dX3_text_55 : decode cX3_text 55 = .ok (.aload_n 0, 1) := by decide +kernel
theorem dX3_text_56 : decode cX3_text 56 = .ok (.getfield 16, 3) := by decide +kernel
theorem dX3_text_59 : decode cX3_text 59 = .ok (.invokevirtual 144, 3) := by decide +kernel
theorem dX3_text_62 : decode cX3_text 62 = .ok (.iload_n 1, 1) := by decide +kernel
theorem dX3_text_63 : decode cX3_text 63 = .ok (.ireturn, 1) := by decide +kernel
theorem dX3_hold_0 : decode cX3_hold 0 = .ok (.iload_n 1, 1) := by decide +kernel
theorem dX3_hold_1 : decode cX3_hold 1 = .ok (.iconst 0, 1) := by decide +kernel
theorem dX3_hold_2 : decode cX3_hold 2 = .ok (.bipush 9, 2) := by decide +kernel
theorem dX3_hold_4 : decode cX3_hold 4 = .ok (.invokestatic 52, 3) := by decide +kernel
theorem dX3_hold_7 : decode cX3_hold 7 = .ok (.ifCond .eq 19, 3) := by decide +kernel
theorem dX3_hold_10 : decode cX3_hold 10 = .ok (.iload_n 2, 1) := by decide +kernel
theorem dX3_hold_11 : decode cX3_hold 11 = .ok (.iconst (-1), 1) := by decide +kernel
theorem dX3_hold_12 : decode cX3_hold 12 = .ok (.if_icmp .eq 20, 3) := by decide +kernel
theorem dX3_hold_15 : decode cX3_hold 15 = .ok (.aload_n 0, 1) := by decide +kernel
theorem dX3_hold_16 : decode cX3_hold 16 = .ok (.getfield 10, 3) := by decide +kernel
theorem dX3_hold_19 : decode cX3_hold 19 = .ok (.iload_n 2, 1) := by decide +kernel
theorem dX3_hold_20 : decode cX3_hold 20 = .ok (.invokevirtual 66, 3) := by decide +kernel
theorem dX3_hold_23 : decode cX3_hold 23 = .ok (.ifCond .ne 9, 3) := by decide +kernel
theorem dX3_hold_26 : decode cX3_hold 26 = .ok (.aload_n 0, 1) := by decide +kernel
theorem dX3_hold_27 : decode cX3_hold 27 = .ok (.iconst 0, 1) := by decide +kernel
theorem dX3_hold_28 : decode cX3_hold 28 = .ok (.invokevirtual 48, 3) := by decide +kernel
theorem dX3_hold_31 : decode cX3_hold 31 = .ok (.ireturn, 1) := by decide +kernel
theorem dX3_hold_32 : decode cX3_hold 32 = .ok (.aload_n 0, 1) := by decide +kernel
theorem dX3_hold_33 : decode cX3_hold 33 = .ok (.getfield 10, 3) := by decide +kernel
theorem dX3_hold_36 : decode cX3_hold 36 = .ok (.getfield 189, 3) := by decide +kernel
theorem dX3_hold_39 : decode cX3_hold 39 = .ok (.iload_n 1, 1) := by decide +kernel
theorem dX3_hold_40 : decode cX3_hold 40 = .ok (.iload_n 2, 1) := by decide +kernel
theorem dX3_hold_41 : decode cX3_hold 41 = .ok (.iastore, 1) := by decide +kernel
theorem dX3_hold_42 : decode cX3_hold 42 = .ok (.iconst 1, 1) := by decide +kernel
theorem dX3_hold_43 : decode cX3_hold 43 = .ok (.ireturn, 1) := by decide +kernel
theorem dX3_as_0 : decode cX3_as 0 = .ok (.iload_n 1, 1) := by decide +kernel
theorem dX3_as_1 : decode cX3_as 1 = .ok (.iconst 0, 1) := by decide +kernel
theorem dX3_as_2 : decode cX3_as 2 = .ok (.bipush 9, 2) := by decide +kernel
theorem dX3_as_4 : decode cX3_as 4 = .ok (.invokestatic 52, 3) := by decide +kernel
theorem dX3_as_7 : decode cX3_as 7 = .ok (.ifCond .eq 10, 3) := by decide +kernel
theorem dX3_as_10 : decode cX3_as 10 = .ok (.iload_n 2, 1) := by decide +kernel
theorem dX3_as_11 : decode cX3_as 11 = .ok (.invokestatic 85, 3) := by decide +kernel
theorem dX3_as_14 : decode cX3_as 14 = .ok (.ifCond .ne 9, 3) := by decide +kernel
theorem dX3_as_17 : decode cX3_as 17 = .ok (.aload_n 0, 1) := by decide +kernel
theorem dX3_as_18 : decode cX3_as 18 = .ok (.iconst 0, 1) := by decide +kernel
theorem dX3_as_19 : decode cX3_as 19 = .ok (.invokevirtual 48, 3) := by decide +kernel
theorem dX3_as_22 : decode cX3_as 22 = .ok (.ireturn, 1) := by decide +kernel
theorem dX3_as_23 : decode cX3_as 23 = .ok (.aload_n 0, 1) := by decide +kernel
theorem dX3_as_24 : decode cX3_as 24 = .ok (.getfield 10, 3) := by decide +kernel
theorem dX3_as_27 : decode cX3_as 27 = .ok (.getfield 189, 3) := by decide +kernel
theorem dX3_as_30 : decode cX3_as 30 = .ok (.iload_n 1, 1) := by decide +kernel
theorem dX3_as_31 : decode cX3_as 31 = .ok (.iaload, 1) := by decide +kernel
theorem dX3_as_32 : decode cX3_as 32 = .ok (.istore_n 3, 1) := by decide +kernel
theorem dX3_as_33 : decode cX3_as 33 = .ok (.aload_n 0, 1) := by decide +kernel
theorem dX3_as_34 : decode cX3_as 34 = .ok (.getfield 10, 3) := by decide +kernel
theorem dX3_as_37 : decode cX3_as 37 = .ok (.iload_n 3, 1) := by decide +kernel
theorem dX3_as_38 : decode cX3_as 38 = .ok (.invokevirtual 66, 3) := by decide +kernel
theorem dX3_as_41 : decode cX3_as 41 = .ok (.ifCond .ne 9, 3) := by decide +kernel
theorem dX3_as_44 : decode cX3_as 44 = .ok (.aload_n 0, 1) := by decide +kernel
theorem dX3_as_45 : decode cX3_as 45 = .ok (.iconst 5, 1) := by decide +kernel
theorem dX3_as_46 : decode cX3_as 46 = .ok (.invokevirtual 48, 3) := by decide +kernel
theorem dX3_as_49 : decode cX3_as 49 = .ok (.ireturn, 1) := by decide +kernel
theorem dX3_as_50 : decode cX3_as 50 = .ok (.aload_n 0, 1) := by decide +kernel
theorem dX3_as_51 : decode cX3_as 51 = .ok (.getfield 10, 3) := by decide +kernel
theorem dX3_as_54 : decode cX3_as 54 = .ok (.getfield 94, 3) := by decide +kernel
theorem dX3_as_57 : decode cX3_as 57 = .ok (.iload_n 3, 1) := by decide +kernel
theorem dX3_as_58 : decode cX3_as 58 = .ok (.iaload, 1) := by decide +kernel
theorem dX3_as_59 : decode cX3_as 59 = .ok (.iload_n 2, 1) := by decide +kernel
theorem dX3_as_60 : decode cX3_as 60 = .ok (.invokestatic 192, 3) := by decide +kernel
theorem dX3_as_63 : decode cX3_as 63 = .ok (.ifCond .ne 9, 3) := by decide +kernel
theorem dX3_as_66 : decode cX3_as 66 = .ok (.aload_n 0, 1) := by decide +kernel
theorem dX3_as_67 : decode cX3_as 67 = .ok (.iconst 2, 1) := by decide +kernel
theorem dX3_as_68 : decode cX3_as 68 = .ok (.invokevirtual 48, 3) := by decide +kernel
theorem dX3_as_71 : decode cX3_as 71 = .ok (.ireturn, 1) := by decide +kernel
theorem dX3_as_72 : decode cX3_as 72 = .ok (.iload_n 3, 1) := by decide +kernel
theorem dX3_as_73 : decode cX3_as 73 = .ok (.ireturn, 1) := by decide +kernel
theorem dX3_sheet_0 : decode cX3_sheet 0 = .ok (.iload_n 2, 1) := by decide +kernel
theorem dX3_sheet_1 : decode cX3_sheet 1 = .ok (.ifCond .eq 21, 3) := by decide +kernel
theorem dX3_sheet_4 : decode cX3_sheet 4 = .ok (.iload_n 2, 1) := by decide +kernel
theorem dX3_sheet_5 : decode cX3_sheet 5 = .ok (.bipush 8, 2) := by decide +kernel
theorem dX3_sheet_7 : decode cX3_sheet 7 = .ok (.if_icmp .eq 15, 3) := by decide +kernel
theorem dX3_sheet_10 : decode cX3_sheet 10 = .ok (.iload_n 2, 1) := by decide +kernel
theorem dX3_sheet_11 : decode cX3_sheet 11 = .ok (.bipush 16, 2) := by decide +kernel
theorem dX3_sheet_13 : decode cX3_sheet 13 = .ok (.if_icmp .eq 9, 3) := by decide +kernel
theorem dX3_sheet_16 : decode cX3_sheet 16 = .ok (.iload_n 2, 1) := by decide +kernel
theorem dX3_sheet_17 : decode cX3_sheet 17 = .ok (.bipush 32, 2) := by decide +kernel
theorem dX3_sheet_19 : decode cX3_sheet 19 = .ok (.if_icmp .ne 7, 3) := by decide +kernel
theorem dX3_sheet_22 : decode cX3_sheet 22 = .ok (.iconst 1, 1) := by decide +kernel
theorem dX3_sheet_23 : decode cX3_sheet 23 = .ok (.goto 4, 3) := by decide +kernel
theorem dX3_sheet_26 : decode cX3_sheet 26 = .ok (.iconst 0, 1) := by decide +kernel
theorem dX3_sheet_27 : decode cX3_sheet 27 = .ok (.istore 4, 2) := by decide +kernel
theorem dX3_sheet_29 : decode cX3_sheet 29 = .ok (.iload_n 1, 1) := by decide +kernel
theorem dX3_sheet_30 : decode cX3_sheet 30 = .ok (.invokestatic 195, 3) := by decide +kernel
theorem dX3_sheet_33 : decode cX3_sheet 33 = .ok (.ifCond .eq 8, 3) := by decide +kernel
theorem dX3_sheet_36 : decode cX3_sheet 36 = .ok (.iload 4, 2) := by decide +kernel
theorem dX3_sheet_38 : decode cX3_sheet 38 = .ok (.ifCond .ne 9, 3) := by decide +kernel
theorem dX3_sheet_41 : decode cX3_sheet 41 = .ok (.aload_n 0, 1) := by decide +kernel
theorem dX3_sheet_42 : decode cX3_sheet 42 = .ok (.iconst 0, 1) := by decide +kernel
theorem dX3_sheet_43 : decode cX3_sheet 43 = .ok (.invokevirtual 48, 3) := by decide +kernel
theorem dX3_sheet_46 : decode cX3_sheet 46 = .ok (.ireturn, 1) := by decide +kernel
theorem dX3_sheet_47 : decode cX3_sheet 47 = .ok (.iload_n 3, 1) := by decide +kernel
theorem dX3_sheet_48 : decode cX3_sheet 48 = .ok (.ifCond .ge 10, 3) := by decide +kernel
theorem dX3_sheet_51 : decode cX3_sheet 51 = .ok (.aload_n 0, 1) := by decide +kernel
theorem dX3_sheet_52 : decode cX3_sheet 52 = .ok (.bipush 6, 2) := by decide +kernel
theorem dX3_sheet_54 : decode cX3_sheet 54 = .ok (.invokevirtual 48, 3) := by decide +kernel
theorem dX3_sheet_57 : decode cX3_sheet 57 = .ok (.ireturn, 1) := by decide +kernel
theorem dX3_sheet_58 : decode cX3_sheet 58 = .ok (.iload_n 3, 1) := by decide +kernel
theorem dX3_sheet_59 : decode cX3_sheet 59 = .ok (.bipush 40, 2) := by decide +kernel
theorem dX3_sheet_61 : decode cX3_sheet 61 = .ok (.if_icmp .le 9, 3) := by decide +kernel
theorem dX3_sheet_64 : decode cX3_sheet 64 = .ok (.aload_n 0, 1) := by decide +kernel
theorem dX3_sheet_65 : decode cX3_sheet 65 = .ok (.iconst 0, 1) := by decide +kernel
theorem dX3_sheet_66 : decode cX3_sheet 66 = .ok (.invokevirtual 48, 3) := by decide +kernel
theorem dX3_sheet_69 : decode cX3_sheet 69 = .ok (.ireturn, 1) := by decide +kernel
theorem dX3_sheet_70 : decode cX3_sheet 70 = .ok (.aload_n 0, 1) := by decide +kernel
theorem dX3_sheet_71 : decode cX3_sheet 71 = .ok (.getfield 35, 3) := by decide +kernel
theorem dX3_sheet_74 : decode cX3_sheet 74 = .ok (.iload_n 1, 1) := by decide +kernel
theorem dX3_sheet_75 : decode cX3_sheet 75 = .ok (.aaload, 1) := by decide +kernel
theorem dX3_sheet_76 : decode cX3_sheet 76 = .ok (.iload_n 2, 1) := by decide +kernel
theorem dX3_sheet_77 : decode cX3_sheet 77 = .ok (.iload_n 3, 1) := by decide +kernel
theorem dX3_sheet_78 : decode cX3_sheet 78 = .ok (.invokevirtual 198, 3) := by decide +kernel
theorem dX3_sheet_81 : decode cX3_sheet 81 = .ok (.aload_n 0, 1) := by decide +kernel
theorem dX3_sheet_82 : decode cX3_sheet 82 = .ok (.getfield 35, 3) := by decide +kernel
theorem dX3_sheet_85 : decode cX3_sheet 85 = .ok (.iload_n 1, 1) := by decide +kernel
theorem dX3_sheet_86 : decode cX3_sheet 86 = .ok (.aaload, 1) := by decide +kernel
theorem dX3_sheet_87 : decode cX3_sheet 87 = .ok (.getfield 202, 3) := by decide +kernel
theorem dX3_sheet_90 : decode cX3_sheet 90 = .ok (.ireturn, 1) := by decide +kernel
theorem dX3_write_0 : decode cX3_write 0 = .ok (.iload_n 1, 1) := by decide +kernel
theorem dX3_write_1 : decode cX3_write 1 = .ok (.invokestatic 195, 3) := by decide +kernel
theorem dX3_write_4 : decode cX3_write 4 = .ok (.ifCond .ne 9, 3) := by decide +kernel
theorem dX3_write_7 : decode cX3_write 7 = .ok (.aload_n 0, 1) := by decide +kernel
theorem dX3_write_8 : decode cX3_write 8 = .ok (.iconst 0, 1) := by decide +kernel
theorem dX3_write_9 : decode cX3_write 9 = .ok (.invokevirtual 48, 3) := by decide +kernel
theorem dX3_write_12 : decode cX3_write 12 = .ok (.ireturn, 1) := by decide +kernel
theorem dX3_write_13 : decode cX3_write 13 = .ok (.aload_n 0, 1) := by decide +kernel
theorem dX3_write_14 : decode cX3_write 14 = .ok (.getfield 35, 3) := by decide +kernel
theorem dX3_write_17 : decode cX3_write 17 = .ok (.iload_n 1, 1) := by decide +kernel
theorem dX3_write_18 : decode cX3_write 18 = .ok (.aaload, 1) := by decide +kernel
theorem dX3_write_19 : decode cX3_write 19 = .ok (.invokevirtual 203, 3) := by decide +kernel
theorem dX3_write_22 : decode cX3_write 22 = .ok (.ifCond .eq 9, 3) := by decide +kernel
theorem dX3_write_25 : decode cX3_write 25 = .ok (.aload_n 0, 1) := by decide +kernel
theorem dX3_write_26 : decode cX3_write 26 = .ok (.iconst 5, 1) := by decide +kernel
theorem dX3_write_27 : decode cX3_write 27 = .ok (.invokevirtual 48, 3) := by decide +kernel
theorem dX3_write_30 : decode cX3_write 30 = .ok (.ireturn, 1) := by decide +kernel
theorem dX3_write_31 : decode cX3_write 31 = .ok (.iload_n 2, 1) := by decide +kernel
theorem dX3_write_32 : decode cX3_write 32 = .ok (.iconst 0, 1) := by decide +kernel
theorem dX3_write_33 : decode cX3_write 33 = .ok (.aload_n 0, 1) := by decide +kernel
theorem dX3_write_34 : decode cX3_write 34 = .ok (.getfield 35, 3) := by decide +kernel
theorem dX3_write_37 : decode cX3_write 37 = .ok (.iload_n 1, 1) := by decide +kernel
theorem dX3_write_38 : decode cX3_write 38 = .ok (.aaload, 1) := by decide +kernel
theorem dX3_write_39 : decode cX3_write 39 = .ok (.getfield 202, 3) := by decide +kernel
theorem dX3_write_42 : decode cX3_write 42 = .ok (.iconst 1, 1) := by decide +kernel
theorem dX3_write_43 : decode cX3_write 43 = .ok (.isub, 1) := by decide +kernel
theorem dX3_write_44 : decode cX3_write 44 = .ok (.invokestatic 52, 3) := by decide +kernel
theorem dX3_write_47 : decode cX3_write 47 = .ok (.ifCond .ne 9, 3) := by decide +kernel
theorem dX3_write_50 : decode cX3_write 50 = .ok (.aload_n 0, 1) := by decide +kernel
theorem dX3_write_51 : decode cX3_write 51 = .ok (.iconst 0, 1) := by decide +kernel
theorem dX3_write_52 : decode cX3_write 52 = .ok (.invokevirtual 48, 3) := by decide +kernel
theorem dX3_write_55 : decode cX3_write 55 = .ok (.ireturn, 1) := by decide +kernel
theorem dX3_write_56 : decode cX3_write 56 = .ok (.aload_n 0, 1) := by decide +kernel
theorem dX3_write_57 : decode cX3_write 57 = .ok (.getfield 35, 3) := by decide +kernel
theorem dX3_write_60 : decode cX3_write 60 = .ok (.iload_n 1, 1) := by decide +kernel
theorem dX3_write_61 : decode cX3_write 61 = .ok (.aaload, 1) := by decide +kernel
theorem dX3_write_62 : decode cX3_write 62 = .ok (.iload_n 2, 1) := by decide +kernel
theorem dX3_write_63 : decode cX3_write 63 = .ok (.iload_n 3, 1) := by decide +kernel
theorem dX3_write_64 : decode cX3_write 64 = .ok (.invokevirtual 207, 3) := by decide +kernel
theorem dX3_write_67 : decode cX3_write 67 = .ok (.iconst 1, 1) := by decide +kernel
theorem dX3_write_68 : decode cX3_write 68 = .ok (.ireturn, 1) := by decide +kernel
theorem dX3_copy_0 : decode cX3_copy 0 = .ok (.iload_n 1, 1) := by decide +kernel
theorem dX3_copy_1 : decode cX3_copy 1 = .ok (.invokestatic 195, 3) := by decide +kernel
theorem dX3_copy_4 : decode cX3_copy 4 = .ok (.ifCond .eq 10, 3) := by decide +kernel
theorem dX3_copy_7 : decode cX3_copy 7 = .ok (.iload_n 3, 1) := by decide +kernel
theorem dX3_copy_8 : decode cX3_copy 8 = .ok (.invokestatic 195, 3) := by decide +kernel
theorem dX3_copy_11 : decode cX3_copy 11 = .ok (.ifCond .ne 9, 3) := by decide +kernel
theorem dX3_copy_14 : decode cX3_copy 14 = .ok (.aload_n 0, 1) := by decide +kernel
theorem dX3_copy_15 : decode cX3_copy 15 = .ok (.iconst 0, 1) := by decide +kernel
theorem dX3_copy_16 : decode cX3_copy 16 = .ok (.invokevirtual 48, 3) := by decide +kernel
theorem dX3_copy_19 : decode cX3_copy 19 = .ok (.ireturn, 1) := by decide +kernel
theorem dX3_copy_20 : decode cX3_copy 20 = .ok (.aload_n 0, 1) := by decide +kernel
theorem dX3_copy_21 : decode cX3_copy 21 = .ok (.getfield 35, 3) := by decide +kernel
theorem dX3_copy_24 : decode cX3_copy 24 = .ok (.iload_n 1, 1) := by decide +kernel
theorem dX3_copy_25 : decode cX3_copy 25 = .ok (.aaload, 1) := by decide +kernel
theorem dX3_copy_26 : decode cX3_copy 26 = .ok (.invokevirtual 203, 3) := by decide +kernel
theorem dX3_copy_29 : decode cX3_copy 29 = .ok (.ifCond .ne 15, 3) := by decide +kernel
theorem dX3_copy_32 : decode cX3_copy 32 = .ok (.aload_n 0, 1) := by decide +kernel
theorem dX3_copy_33 : decode cX3_copy 33 = .ok (.getfield 35, 3) := by decide +kernel
theorem dX3_copy_36 : decode cX3_copy 36 = .ok (.iload_n 3, 1) := by decide +kernel
theorem dX3_copy_37 : decode cX3_copy 37 = .ok (.aaload, 1) := by decide +kernel
theorem dX3_copy_38 : decode cX3_copy 38 = .ok (.invokevirtual 203, 3) := by decide +kernel
theorem dX3_copy_41 : decode cX3_copy 41 = .ok (.ifCond .eq 9, 3) := by decide +kernel
theorem dX3_copy_44 : decode cX3_copy 44 = .ok (.aload_n 0, 1) := by decide +kernel
theorem dX3_copy_45 : decode cX3_copy 45 = .ok (.iconst 5, 1) := by decide +kernel
theorem dX3_copy_46 : decode cX3_copy 46 = .ok (.invokevirtual 48, 3) := by decide +kernel
theorem dX3_copy_49 : decode cX3_copy 49 = .ok (.ireturn, 1) := by decide +kernel
theorem dX3_copy_50 : decode cX3_copy 50 = .ok (.aload_n 0, 1) := by decide +kernel
theorem dX3_copy_51 : decode cX3_copy 51 = .ok (.getfield 35, 3) := by decide +kernel
theorem dX3_copy_54 : decode cX3_copy 54 = .ok (.iload_n 1, 1) := by decide +kernel
theorem dX3_copy_55 : decode cX3_copy 55 = .ok (.aaload, 1) := by decide +kernel
theorem dX3_copy_56 : decode cX3_copy 56 = .ok (.getfield 210, 3) := by decide +kernel
theorem dX3_copy_59 : decode cX3_copy 59 = .ok (.aload_n 0, 1) := by decide +kernel
theorem dX3_copy_60 : decode cX3_copy 60 = .ok (.getfield 35, 3) := by decide +kernel
theorem dX3_copy_63 : decode cX3_copy 63 = .ok (.iload_n 3, 1) := by decide +kernel
theorem dX3_copy_64 : decode cX3_copy 64 = .ok (.aaload, 1) := by decide +kernel
theorem dX3_copy_65 : decode cX3_copy 65 = .ok (.getfield 210, 3) := by decide +kernel
theorem dX3_copy_68 : decode cX3_copy 68 = .ok (.if_icmp .eq 9, 3) := by decide +kernel
theorem dX3_copy_71 : decode cX3_copy 71 = .ok (.aload_n 0, 1) := by decide +kernel
theorem dX3_copy_72 : decode cX3_copy 72 = .ok (.iconst 2, 1) := by decide +kernel
theorem dX3_copy_73 : decode cX3_copy 73 = .ok (.invokevirtual 48, 3) := by decide +kernel
theorem dX3_copy_76 : decode cX3_copy 76 = .ok (.ireturn, 1) := by decide +kernel
theorem dX3_copy_77 : decode cX3_copy 77 = .ok (.aload_n 0, 1) := by decide +kernel
theorem dX3_copy_78 : decode cX3_copy 78 = .ok (.getfield 35, 3) := by decide +kernel
theorem dX3_copy_81 : decode cX3_copy 81 = .ok (.iload_n 1, 1) := by decide +kernel
theorem dX3_copy_82 : decode cX3_copy 82 = .ok (.aaload, 1) := by decide +kernel
theorem dX3_copy_83 : decode cX3_copy 83 = .ok (.iload_n 2, 1) := by decide +kernel
theorem dX3_copy_84 : decode cX3_copy 84 = .ok (.iload 5, 2) := by decide +kernel
theorem dX3_copy_86 : decode cX3_copy 86 = .ok (.invokevirtual 213, 3) := by decide +kernel
theorem dX3_copy_89 : decode cX3_copy 89 = .ok (.ifCond .eq 19, 3) := by decide +kernel
theorem dX3_copy_92 : decode cX3_copy 92 = .ok (.aload_n 0, 1) := by decide +kernel
theorem dX3_copy_93 : decode cX3_copy 93 = .ok (.getfield 35, 3) := by decide +kernel
theorem dX3_copy_96 : decode cX3_copy 96 = .ok (.iload_n 3, 1) := by decide +kernel
theorem dX3_copy_97 : decode cX3_copy 97 = .ok (.aaload, 1) := by decide +kernel
theorem dX3_copy_98 : decode cX3_copy 98 = .ok (.iload 4, 2) := by decide +kernel
theorem dX3_copy_100 : decode cX3_copy 100 = .ok (.iload 5, 2) := by decide +kernel
theorem dX3_copy_102 : decode cX3_copy 102 = .ok (.invokevirtual 213, 3) := by decide +kernel
theorem dX3_copy_105 : decode cX3_copy 105 = .ok (.ifCond .ne 9, 3) := by decide +kernel
theorem dX3_copy_108 : decode cX3_copy 108 = .ok (.aload_n 0, 1) := by decide +kernel
theorem dX3_copy_109 : decode cX3_copy 109 = .ok (.iconst 0, 1) := by decide +kernel
theorem dX3_copy_110 : decode cX3_copy 110 = .ok (.invokevirtual 48, 3) := by decide +kernel
theorem dX3_copy_113 : decode cX3_copy 113 = .ok (.ireturn, 1) := by decide +kernel
theorem dX3_copy_114 : decode cX3_copy 114 = .ok (.aload_n 0, 1) := by decide +kernel
theorem dX3_copy_115 : decode cX3_copy 115 = .ok (.getfield 35, 3) := by decide +kernel
theorem dX3_copy_118 : decode cX3_copy 118 = .ok (.iload_n 1, 1) := by decide +kernel
theorem dX3_copy_119 : decode cX3_copy 119 = .ok (.aaload, 1) := by decide +kernel
theorem dX3_copy_120 : decode cX3_copy 120 = .ok (.getfield 216, 3) := by decide +kernel
theorem dX3_copy_123 : decode cX3_copy 123 = .ok (.iload_n 2, 1) := by decide +kernel
theorem dX3_copy_124 : decode cX3_copy 124 = .ok (.aload_n 0, 1) := by decide +kernel
theorem dX3_copy_125 : decode cX3_copy 125 = .ok (.getfield 35, 3) := by decide +kernel
theorem dX3_copy_128 : decode cX3_copy 128 = .ok (.iload_n 3, 1) := by decide +kernel
theorem dX3_copy_129 : decode cX3_copy 129 = .ok (.aaload, 1) := by decide +kernel
theorem dX3_copy_130 : decode cX3_copy 130 = .ok (.getfield 216, 3) := by decide +kernel
theorem dX3_copy_133 : decode cX3_copy 133 = .ok (.iload 4, 2) := by decide +kernel
theorem dX3_copy_135 : decode cX3_copy 135 = .ok (.iload 5, 2) := by decide +kernel
theorem dX3_copy_137 : decode cX3_copy 137 = .ok (.invokestatic 219, 3) := by decide +kernel
theorem dX3_copy_140 : decode cX3_copy 140 = .ok (.iload 5, 2) := by decide +kernel
theorem dX3_copy_142 : decode cX3_copy 142 = .ok (.ireturn, 1) := by decide +kernel
theorem dX3_load_0 : decode cX3_load 0 = .ok (.iload_n 1, 1) := by decide +kernel
theorem dX3_load_1 : decode cX3_load 1 = .ok (.invokestatic 195, 3) := by decide +kernel
theorem dX3_load_4 : decode cX3_load 4 = .ok (.ifCond .ne 9, 3) := by decide +kernel
theorem dX3_load_7 : decode cX3_load 7 = .ok (.aload_n 0, 1) := by decide +kernel
theorem dX3_load_8 : decode cX3_load 8 = .ok (.iconst 0, 1) := by decide +kernel
theorem dX3_load_9 : decode cX3_load 9 = .ok (.invokevirtual 48, 3) := by decide +kernel
theorem dX3_load_12 : decode cX3_load 12 = .ok (.ireturn, 1) := by decide +kernel
theorem dX3_load_13 : decode cX3_load 13 = .ok (.aload_n 0, 1) := by decide +kernel
theorem dX3_load_14 : decode cX3_load 14 = .ok (.getfield 35, 3) := by decide +kernel
theorem dX3_load_17 : decode cX3_load 17 = .ok (.iload_n 1, 1) := by decide +kernel
theorem dX3_load_18 : decode cX3_load 18 = .ok (.aaload, 1) := by decide +kernel
theorem dX3_load_19 : decode cX3_load 19 = .ok (.astore_n 2, 1) := by decide +kernel
theorem dX3_load_20 : decode cX3_load 20 = .ok (.aload_n 2, 1) := by decide +kernel
theorem dX3_load_21 : decode cX3_load 21 = .ok (.invokevirtual 203, 3) := by decide +kernel
theorem dX3_load_24 : decode cX3_load 24 = .ok (.ifCond .eq 9, 3) := by decide +kernel
theorem dX3_load_27 : decode cX3_load 27 = .ok (.aload_n 0, 1) := by decide +kernel
theorem dX3_load_28 : decode cX3_load 28 = .ok (.iconst 5, 1) := by decide +kernel
theorem dX3_load_29 : decode cX3_load 29 = .ok (.invokevirtual 48, 3) := by decide +kernel
theorem dX3_load_32 : decode cX3_load 32 = .ok (.ireturn, 1) := by decide +kernel
theorem dX3_load_33 : decode cX3_load 33 = .ok (.iconst 0, 1) := by decide +kernel
theorem dX3_load_34 : decode cX3_load 34 = .ok (.istore_n 3, 1) := by decide +kernel
theorem dX3_load_35 : decode cX3_load 35 = .ok (.iload_n 3, 1) := by decide +kernel
theorem dX3_load_36 : decode cX3_load 36 = .ok (.bipush 10, 2) := by decide +kernel
theorem dX3_load_38 : decode cX3_load 38 = .ok (.if_icmp .ge 47, 3) := by decide +kernel
theorem dX3_load_41 : decode cX3_load 41 = .ok (.iload_n 3, 1) := by decide +kernel
theorem dX3_load_42 : decode cX3_load 42 = .ok (.aload_n 2, 1) := by decide +kernel
theorem dX3_load_43 : decode cX3_load 43 = .ok (.getfield 202, 3) := by decide +kernel
theorem dX3_load_46 : decode cX3_load 46 = .ok (.if_icmp .ge 39, 3) := by decide +kernel
theorem dX3_load_49 : decode cX3_load 49 = .ok (.aload_n 2, 1) := by decide +kernel
theorem dX3_load_50 : decode cX3_load 50 = .ok (.getfield 216, 3) := by decide +kernel
theorem dX3_load_53 : decode cX3_load 53 = .ok (.iload_n 3, 1) := by decide +kernel
theorem dX3_load_54 : decode cX3_load 54 = .ok (.iaload, 1) := by decide +kernel
theorem dX3_load_55 : decode cX3_load 55 = .ok (.iconst 0, 1) := by decide +kernel
theorem dX3_load_56 : decode cX3_load 56 = .ok (.bipush 99, 2) := by decide +kernel
theorem dX3_load_58 : decode cX3_load 58 = .ok (.invokestatic 52, 3) := by decide +kernel
theorem dX3_load_61 : decode cX3_load 61 = .ok (.ifCond .eq 24, 3) := by decide +kernel
theorem dX3_load_64 : decode cX3_load 64 = .ok (.aload_n 0, 1) := by decide +kernel
theorem dX3_load_65 : decode cX3_load 65 = .ok (.getfield 10, 3) := by decide +kernel
theorem dX3_load_68 : decode cX3_load 68 = .ok (.getfield 56, 3) := by decide +kernel
theorem dX3_load_71 : decode cX3_load 71 = .ok (.iload_n 3, 1) := by decide +kernel
theorem dX3_load_72 : decode cX3_load 72 = .ok (.aload_n 2, 1) := by decide +kernel
theorem dX3_load_73 : decode cX3_load 73 = .ok (.getfield 216, 3) := by decide +kernel
theorem dX3_load_76 : decode cX3_load 76 = .ok (.iload_n 3, 1) := by decide +kernel
theorem dX3_load_77 : decode cX3_load 77 = .ok (.iaload, 1) := by decide +kernel
theorem dX3_load_78 : decode cX3_load 78 = .ok (.iastore, 1) := by decide +kernel
theorem dX3_load_79 : decode cX3_load 79 = .ok (.iinc 3 1, 3) := by decide +kernel
theorem dX3_load_82 : decode cX3_load 82 = .ok (.goto (-47), 3) := by decide +kernel
theorem dX3_load_85 : decode cX3_load 85 = .ok (.iload_n 3, 1) := by decide +kernel
theorem dX3_load_86 : decode cX3_load 86 = .ok (.ireturn, 1) := by decide +kernel
theorem dX3_judge_0 : decode cX3_judge 0 = .ok (.iload_n 1, 1) := by decide +kernel
theorem dX3_judge_1 : decode cX3_judge 1 = .ok (.invokestatic 195, 3) := by decide +kernel
theorem dX3_judge_4 : decode cX3_judge 4 = .ok (.ifCond .ne 9, 3) := by decide +kernel
theorem dX3_judge_7 : decode cX3_judge 7 = .ok (.aload_n 0, 1) := by decide +kernel
theorem dX3_judge_8 : decode cX3_judge 8 = .ok (.iconst 0, 1) := by decide +kernel
theorem dX3_judge_9 : decode cX3_judge 9 = .ok (.invokevirtual 48, 3) := by decide +kernel
theorem dX3_judge_12 : decode cX3_judge 12 = .ok (.ireturn, 1) := by decide +kernel
theorem dX3_judge_13 : decode cX3_judge 13 = .ok (.aload_n 0, 1) := by decide +kernel
theorem dX3_judge_14 : decode cX3_judge 14 = .ok (.getfield 35, 3) := by decide +kernel
theorem dX3_judge_17 : decode cX3_judge 17 = .ok (.iload_n 1, 1) := by decide +kernel
theorem dX3_judge_18 : decode cX3_judge 18 = .ok (.aaload, 1) := by decide +kernel
theorem dX3_judge_19 : decode cX3_judge 19 = .ok (.astore_n 2, 1) := by decide +kernel
theorem dX3_judge_20 : decode cX3_judge 20 = .ok (.aload_n 2, 1) := by decide +kernel
theorem dX3_judge_21 : decode cX3_judge 21 = .ok (.invokevirtual 203, 3) := by decide +kernel
theorem dX3_judge_24 : decode cX3_judge 24 = .ok (.ifCond .eq 9, 3) := by decide +kernel
theorem dX3_judge_27 : decode cX3_judge 27 = .ok (.aload_n 0, 1) := by decide +kernel
theorem dX3_judge_28 : decode cX3_judge 28 = .ok (.iconst 5, 1) := by decide +kernel
theorem dX3_judge_29 : decode cX3_judge 29 = .ok (.invokevirtual 48, 3) := by decide +kernel
theorem dX3_judge_32 : decode cX3_judge 32 = .ok (.ireturn, 1) := by decide +kernel
theorem dX3_judge_33 : decode cX3_judge 33 = .ok (.iconst 0, 1) := by decide +kernel
theorem dX3_judge_34 : decode cX3_judge 34 = .ok (.istore_n 3, 1) := by decide +kernel
theorem dX3_judge_35 : decode cX3_judge 35 = .ok (.iload_n 3, 1) := by decide +kernel
theorem dX3_judge_36 : decode cX3_judge 36 = .ok (.aload_n 2, 1) := by decide +kernel
theorem dX3_judge_37 : decode cX3_judge 37 = .ok (.getfield 202, 3) := by decide +kernel
theorem dX3_judge_40 : decode cX3_judge 40 = .ok (.if_icmp .ge 42, 3) := by decide +kernel
theorem dX3_judge_43 : decode cX3_judge 43 = .ok (.aload_n 0, 1) := by decide +kernel
theorem dX3_judge_44 : decode cX3_judge 44 = .ok (.getfield 10, 3) := by decide +kernel
theorem dX3_judge_47 : decode cX3_judge 47 = .ok (.iload_n 3, 1) := by decide +kernel
theorem dX3_judge_48 : decode cX3_judge 48 = .ok (.invokevirtual 66, 3) := by decide +kernel
theorem dX3_judge_51 : decode cX3_judge 51 = .ok (.ifCond .eq 21, 3) := by decide +kernel
theorem dX3_judge_54 : decode cX3_judge 54 = .ok (.aload_n 0, 1) := by decide +kernel
theorem dX3_judge_55 : decode cX3_judge 55 = .ok (.getfield 10, 3) := by decide +kernel
theorem dX3_judge_58 : decode cX3_judge 58 = .ok (.getfield 110, 3) := by decide +kernel
theorem dX3_judge_61 : decode cX3_judge 61 = .ok (.iload_n 3, 1) := by decide +kernel
theorem dX3_judge_62 : decode cX3_judge 62 = .ok (.iaload, 1) := by decide +kernel
theorem dX3_judge_63 : decode cX3_judge 63 = .ok (.aload_n 2, 1) := by decide +kernel
theorem dX3_judge_64 : decode cX3_judge 64 = .ok (.getfield 216, 3) := by decide +kernel
theorem dX3_judge_67 : decode cX3_judge 67 = .ok (.iload_n 3, 1) := by decide +kernel
theorem dX3_judge_68 : decode cX3_judge 68 = .ok (.iaload, 1) := by decide +kernel
theorem dX3_judge_69 : decode cX3_judge 69 = .ok (.if_icmp .eq 7, 3) := by decide +kernel
theorem dX3_judge_72 : decode cX3_judge 72 = .ok (.iconst 1, 1) := by decide +kernel
theorem dX3_judge_73 : decode cX3_judge 73 = .ok (.iload_n 3, 1) := by decide +kernel
theorem dX3_judge_74 : decode cX3_judge 74 = .ok (.iadd, 1) := by decide +kernel
theorem dX3_judge_75 : decode cX3_judge 75 = .ok (.ireturn, 1) := by decide +kernel
theorem dX3_judge_76 : decode cX3_judge 76 = .ok (.iinc 3 1, 3) := by decide +kernel
theorem dX3_judge_79 : decode cX3_judge 79 = .ok (.goto (-44), 3) := by decide +kernel
theorem dX3_judge_82 : decode cX3_judge 82 = .ok (.iconst 0, 1) := by decide +kernel
theorem dX3_judge_83 : decode cX3_judge 83 = .ok (.ireturn, 1) := by decide +kernel
theorem dX3_image_0 : decode cX3_image 0 = .ok (.aload_n 0, 1) := by decide +kernel
theorem dX3_image_1 : decode cX3_image 1 = .ok (.getfield 19, 3) := by decide +kernel
theorem dX3_image_4 : decode cX3_image 4 = .ok (.aload_n 0, 1) := by decide +kernel
theorem dX3_image_5 : decode cX3_image 5 = .ok (.getfield 10, 3) := by decide +kernel
theorem dX3_image_8 : decode cX3_image 8 = .ok (.invokevirtual 144, 3) := by decide +kernel
theorem dX3_image_11 : decode cX3_image 11 = .ok (.aload_n 0, 1) := by decide +kernel
theorem dX3_image_12 : decode cX3_image 12 = .ok (.iconst 1, 1) := by decide +kernel
theorem dX3_image_13 : decode cX3_image 13 = .ok (.putfield 22, 3) := by decide +kernel
theorem dX3_image_16 : decode cX3_image 16 = .ok (.iconst 1, 1) := by decide +kernel
theorem dX3_image_17 : decode cX3_image 17 = .ok (.ireturn, 1) := by decide +kernel
theorem dX3_undo_0 : decode cX3_undo 0 = .ok (.aload_n 0, 1) := by decide +kernel
theorem dX3_undo_1 : decode cX3_undo 1 = .ok (.getfield 22, 3) := by decide +kernel
theorem dX3_undo_4 : decode cX3_undo 4 = .ok (.ifCond .ne 9, 3) := by decide +kernel
theorem dX3_undo_7 : decode cX3_undo 7 = .ok (.aload_n 0, 1) := by decide +kernel
theorem dX3_undo_8 : decode cX3_undo 8 = .ok (.iconst 3, 1) := by decide +kernel
theorem dX3_undo_9 : decode cX3_undo 9 = .ok (.invokevirtual 48, 3) := by decide +kernel
theorem dX3_undo_12 : decode cX3_undo 12 = .ok (.ireturn, 1) := by decide +kernel
theorem dX3_undo_13 : decode cX3_undo 13 = .ok (.aload_n 0, 1) := by decide +kernel
theorem dX3_undo_14 : decode cX3_undo 14 = .ok (.getfield 10, 3) := by decide +kernel
theorem dX3_undo_17 : decode cX3_undo 17 = .ok (.aload_n 0, 1) := by decide +kernel
theorem dX3_undo_18 : decode cX3_undo 18 = .ok (.getfield 19, 3) := by decide +kernel
theorem dX3_undo_21 : decode cX3_undo 21 = .ok (.invokevirtual 144, 3) := by decide +kernel
theorem dX3_undo_24 : decode cX3_undo 24 = .ok (.aload_n 0, 1) := by decide +kernel
theorem dX3_undo_25 : decode cX3_undo 25 = .ok (.getfield 10, 3) := by decide +kernel
theorem dX3_undo_28 : decode cX3_undo 28 = .ok (.getfield 125, 3) := by decide +kernel
theorem dX3_undo_31 : decode cX3_undo 31 = .ok (.ireturn, 1) := by decide +kernel
theorem dX3_tear_0 : decode cX3_tear 0 = .ok (.aload_n 0, 1) := by decide +kernel
theorem dX3_tear_1 : decode cX3_tear 1 = .ok (.getfield 22, 3) := by decide +kernel
theorem dX3_tear_4 : decode cX3_tear 4 = .ok (.ifCond .eq 7, 3) := by decide +kernel
theorem dX3_tear_7 : decode cX3_tear 7 = .ok (.iconst 1, 1) := by decide +kernel
theorem dX3_tear_8 : decode cX3_tear 8 = .ok (.goto 4, 3) := by decide +kernel
theorem dX3_tear_11 : decode cX3_tear 11 = .ok (.iconst 0, 1) := by decide +kernel
theorem dX3_tear_12 : decode cX3_tear 12 = .ok (.istore_n 1, 1) := by decide +kernel
theorem dX3_tear_13 : decode cX3_tear 13 = .ok (.aload_n 0, 1) := by decide +kernel
theorem dX3_tear_14 : decode cX3_tear 14 = .ok (.iconst 0, 1) := by decide +kernel
theorem dX3_tear_15 : decode cX3_tear 15 = .ok (.putfield 22, 3) := by decide +kernel
theorem dX3_tear_18 : decode cX3_tear 18 = .ok (.iload_n 1, 1) := by decide +kernel
theorem dX3_tear_19 : decode cX3_tear 19 = .ok (.ireturn, 1) := by decide +kernel
theorem dX3_count_0 : decode cX3_count 0 = .ok (.iload_n 1, 1) := by decide +kernel
theorem dX3_count_1 : decode cX3_count 1 = .ok (.tableswitch 134 0 7 #[47, 55, 63, 74, 92, 110, 118, 126], 47) := by decide +kernel
theorem dX3_count_48 : decode cX3_count 48 = .ok (.aload_n 0, 1) := by decide +kernel
theorem dX3_count_49 : decode cX3_count 49 = .ok (.getfield 10, 3) := by decide +kernel
theorem dX3_count_52 : decode cX3_count 52 = .ok (.getfield 125, 3) := by decide +kernel
theorem dX3_count_55 : decode cX3_count 55 = .ok (.ireturn, 1) := by decide +kernel
theorem dX3_count_56 : decode cX3_count 56 = .ok (.aload_n 0, 1) := by decide +kernel
theorem dX3_count_57 : decode cX3_count 57 = .ok (.getfield 10, 3) := by decide +kernel
theorem dX3_count_60 : decode cX3_count 60 = .ok (.getfield 88, 3) := by decide +kernel
theorem dX3_count_63 : decode cX3_count 63 = .ok (.ireturn, 1) := by decide +kernel
theorem dX3_count_64 : decode cX3_count 64 = .ok (.aload_n 0, 1) := by decide +kernel
theorem dX3_count_65 : decode cX3_count 65 = .ok (.getfield 10, 3) := by decide +kernel
theorem dX3_count_68 : decode cX3_count 68 = .ok (.invokevirtual 133, 3) := by decide +kernel
theorem dX3_count_71 : decode cX3_count 71 = .ok (.invokestatic 148, 3) := by decide +kernel
theorem dX3_count_74 : decode cX3_count 74 = .ok (.ireturn, 1) := by decide +kernel
theorem dX3_count_75 : decode cX3_count 75 = .ok (.aload_n 0, 1) := by decide +kernel
theorem dX3_count_76 : decode cX3_count 76 = .ok (.getfield 10, 3) := by decide +kernel
theorem dX3_count_79 : decode cX3_count 79 = .ok (.getfield 119, 3) := by decide +kernel
theorem dX3_count_82 : decode cX3_count 82 = .ok (.aload_n 0, 1) := by decide +kernel
theorem dX3_count_83 : decode cX3_count 83 = .ok (.getfield 10, 3) := by decide +kernel
theorem dX3_count_86 : decode cX3_count 86 = .ok (.getfield 88, 3) := by decide +kernel
theorem dX3_count_89 : decode cX3_count 89 = .ok (.invokestatic 137, 3) := by decide +kernel
theorem dX3_count_92 : decode cX3_count 92 = .ok (.ireturn, 1) := by decide +kernel
theorem dX3_count_93 : decode cX3_count 93 = .ok (.aload_n 0, 1) := by decide +kernel
theorem dX3_count_94 : decode cX3_count 94 = .ok (.getfield 10, 3) := by decide +kernel
theorem dX3_count_97 : decode cX3_count 97 = .ok (.getfield 116, 3) := by decide +kernel
theorem dX3_count_100 : decode cX3_count 100 = .ok (.aload_n 0, 1) := by decide +kernel
theorem dX3_count_101 : decode cX3_count 101 = .ok (.getfield 10, 3) := by decide +kernel
theorem dX3_count_104 : decode cX3_count 104 = .ok (.getfield 88, 3) := by decide +kernel
theorem dX3_count_107 : decode cX3_count 107 = .ok (.invokestatic 137, 3) := by decide +kernel
theorem dX3_count_110 : decode cX3_count 110 = .ok (.ireturn, 1) := by decide +kernel
theorem dX3_count_111 : decode cX3_count 111 = .ok (.aload_n 0, 1) := by decide +kernel
theorem dX3_count_112 : decode cX3_count 112 = .ok (.getfield 29, 3) := by decide +kernel
theorem dX3_count_115 : decode cX3_count 115 = .ok (.getfield 176, 3) := by decide +kernel
theorem dX3_count_118 : decode cX3_count 118 = .ok (.ireturn, 1) := by decide +kernel
theorem dX3_count_119 : decode cX3_count 119 = .ok (.aload_n 0, 1) := by decide +kernel
theorem dX3_count_120 : decode cX3_count 120 = .ok (.getfield 10, 3) := by decide +kernel
theorem dX3_count_123 : decode cX3_count 123 = .ok (.getfield 173, 3) := by decide +kernel
theorem dX3_count_126 : decode cX3_count 126 = .ok (.ireturn, 1) := by decide +kernel
theorem dX3_count_127 : decode cX3_count 127 = .ok (.aload_n 0, 1) := by decide +kernel
theorem dX3_count_128 : decode cX3_count 128 = .ok (.getfield 10, 3) := by decide +kernel
theorem dX3_count_131 : decode cX3_count 131 = .ok (.invokevirtual 225, 3) := by decide +kernel
theorem dX3_count_134 : decode cX3_count 134 = .ok (.ireturn, 1) := by decide +kernel
theorem dX3_count_135 : decode cX3_count 135 = .ok (.aload_n 0, 1) := by decide +kernel
theorem dX3_count_136 : decode cX3_count 136 = .ok (.iconst 0, 1) := by decide +kernel
theorem dX3_count_137 : decode cX3_count 137 = .ok (.invokevirtual 48, 3) := by decide +kernel
theorem dX3_count_140 : decode cX3_count 140 = .ok (.ireturn, 1) := by decide +kernel
theorem dX3_status_0 : decode cX3_status 0 = .ok (.iload_n 1, 1) := by decide +kernel
theorem dX3_status_1 : decode cX3_status 1 = .ok (.iconst (-1), 1) := by decide +kernel
theorem dX3_status_2 : decode cX3_status 2 = .ok (.if_icmp .ne 13, 3) := by decide +kernel
theorem dX3_status_5 : decode cX3_status 5 = .ok (.aload_n 0, 1) := by decide +kernel
theorem dX3_status_6 : decode cX3_status 6 = .ok (.getfield 40, 3) := by decide +kernel
theorem dX3_status_9 : decode cX3_status 9 = .ok (.bipush 7, 2) := by decide +kernel
theorem dX3_status_11 : decode cX3_status 11 = .ok (.invokestatic 137, 3) := by decide +kernel
theorem dX3_status_14 : decode cX3_status 14 = .ok (.ireturn, 1) := by decide +kernel
theorem dX3_status_15 : decode cX3_status 15 = .ok (.iload_n 1, 1) := by decide +kernel
theorem dX3_status_16 : decode cX3_status 16 = .ok (.iconst 0, 1) := by decide +kernel
theorem dX3_status_17 : decode cX3_status 17 = .ok (.bipush 6, 2) := by decide +kernel
theorem dX3_status_19 : decode cX3_status 19 = .ok (.invokestatic 52, 3) := by decide +kernel
theorem dX3_status_22 : decode cX3_status 22 = .ok (.ifCond .ne 9, 3) := by decide +kernel
theorem dX3_status_25 : decode cX3_status 25 = .ok (.aload_n 0, 1) := by decide +kernel
theorem dX3_status_26 : decode cX3_status 26 = .ok (.iconst 0, 1) := by decide +kernel
theorem dX3_status_27 : decode cX3_status 27 = .ok (.invokevirtual 48, 3) := by decide +kernel
theorem dX3_status_30 : decode cX3_status 30 = .ok (.ireturn, 1) := by decide +kernel
theorem dX3_status_31 : decode cX3_status 31 = .ok (.aload_n 0, 1) := by decide +kernel
theorem dX3_status_32 : decode cX3_status 32 = .ok (.getfield 40, 3) := by decide +kernel
theorem dX3_status_35 : decode cX3_status 35 = .ok (.iload_n 1, 1) := by decide +kernel
theorem dX3_status_36 : decode cX3_status 36 = .ok (.iaload, 1) := by decide +kernel
theorem dX3_status_37 : decode cX3_status 37 = .ok (.ireturn, 1) := by decide +kernel
theorem dX3_finding_0 : decode cX3_finding 0 = .ok (.aload_n 0, 1) := by decide +kernel
theorem dX3_finding_1 : decode cX3_finding 1 = .ok (.getfield 40, 3) := by decide +kernel
theorem dX3_finding_4 : decode cX3_finding 4 = .ok (.iload_n 1, 1) := by decide +kernel
theorem dX3_finding_5 : decode cX3_finding 5 = .ok (.dup2, 1) := by decide +kernel
theorem dX3_finding_6 : decode cX3_finding 6 = .ok (.iaload, 1) := by decide +kernel
theorem dX3_finding_7 : decode cX3_finding 7 = .ok (.iconst 1, 1) := by decide +kernel
theorem dX3_finding_8 : decode cX3_finding 8 = .ok (.iadd, 1) := by decide +kernel
theorem dX3_finding_9 : decode cX3_finding 9 = .ok (.iastore, 1) := by decide +kernel
theorem dX3_finding_10 : decode cX3_finding 10 = .ok (.ldc 228, 2) := by decide +kernel
theorem dX3_finding_12 : decode cX3_finding 12 = .ok (.iload_n 1, 1) := by decide +kernel
theorem dX3_finding_13 : decode cX3_finding 13 = .ok (.isub, 1) := by decide +kernel
theorem dX3_finding_14 : decode cX3_finding 14 = .ok (.ireturn, 1) := by decide +kernel
theorem dX3_faultOfTold_0 : decode cX3_faultOfTold 0 = .ok (.iload_n 1, 1) := by decide +kernel
theorem dX3_faultOfTold_1 : decode cX3_faultOfTold 1 = .ok (.invokestatic 195, 3) := by decide +kernel
theorem dX3_faultOfTold_4 : decode cX3_faultOfTold 4 = .ok (.ifCond .ne 5, 3) := by decide +kernel
theorem dX3_faultOfTold_7 : decode cX3_faultOfTold 7 = .ok (.iconst 0, 1) := by decide +kernel
theorem dX3_faultOfTold_8 : decode cX3_faultOfTold 8 = .ok (.ireturn, 1) := by decide +kernel
theorem dX3_faultOfTold_9 : decode cX3_faultOfTold 9 = .ok (.aload_n 0, 1) := by decide +kernel
theorem dX3_faultOfTold_10 : decode cX3_faultOfTold 10 = .ok (.getfield 35, 3) := by decide +kernel
theorem dX3_faultOfTold_13 : decode cX3_faultOfTold 13 = .ok (.iload_n 1, 1) := by decide +kernel
theorem dX3_faultOfTold_14 : decode cX3_faultOfTold 14 = .ok (.aaload, 1) := by decide +kernel
theorem dX3_faultOfTold_15 : decode cX3_faultOfTold 15 = .ok (.invokevirtual 203, 3) := by decide +kernel
theorem dX3_faultOfTold_18 : decode cX3_faultOfTold 18 = .ok (.ifCond .eq 5, 3) := by decide +kernel
theorem dX3_faultOfTold_21 : decode cX3_faultOfTold 21 = .ok (.iconst 5, 1) := by decide +kernel
theorem dX3_faultOfTold_22 : decode cX3_faultOfTold 22 = .ok (.ireturn, 1) := by decide +kernel
theorem dX3_faultOfTold_23 : decode cX3_faultOfTold 23 = .ok (.aload_n 0, 1) := by decide +kernel
theorem dX3_faultOfTold_24 : decode cX3_faultOfTold 24 = .ok (.getfield 10, 3) := by decide +kernel
theorem dX3_faultOfTold_27 : decode cX3_faultOfTold 27 = .ok (.iload_n 2, 1) := by decide +kernel
theorem dX3_faultOfTold_28 : decode cX3_faultOfTold 28 = .ok (.invokevirtual 66, 3) := by decide +kernel
theorem dX3_faultOfTold_31 : decode cX3_faultOfTold 31 = .ok (.ifCond .eq 7, 3) := by decide +kernel
theorem dX3_faultOfTold_34 : decode cX3_faultOfTold 34 = .ok (.iconst (-1), 1) := by decide +kernel
theorem dX3_faultOfTold_35 : decode cX3_faultOfTold 35 = .ok (.goto 4, 3) := by decide +kernel
theorem dX3_faultOfTold_38 : decode cX3_faultOfTold 38 = .ok (.iconst 0, 1) := by decide +kernel
theorem dX3_faultOfTold_39 : decode cX3_faultOfTold 39 = .ok (.ireturn, 1) := by decide +kernel
theorem dX3_goesAsTold_0 : decode cX3_goesAsTold 0 = .ok (.iconst 0, 1) := by decide +kernel
theorem dX3_goesAsTold_1 : decode cX3_goesAsTold 1 = .ok (.istore_n 3, 1) := by decide +kernel
theorem dX3_goesAsTold_2 : decode cX3_goesAsTold 2 = .ok (.iload_n 3, 1) := by decide +kernel
theorem dX3_goesAsTold_3 : decode cX3_goesAsTold 3 = .ok (.aload_n 2, 1) := by decide +kernel
theorem dX3_goesAsTold_4 : decode cX3_goesAsTold 4 = .ok (.getfield 202, 3) := by decide +kernel
theorem dX3_goesAsTold_7 : decode cX3_goesAsTold 7 = .ok (.if_icmp .ge 52, 3) := by decide +kernel
theorem dX3_goesAsTold_10 : decode cX3_goesAsTold 10 = .ok (.iload_n 3, 1) := by decide +kernel
theorem dX3_goesAsTold_11 : decode cX3_goesAsTold 11 = .ok (.ifCond .le 11, 3) := by decide +kernel
theorem dX3_goesAsTold_14 : decode cX3_goesAsTold 14 = .ok (.aload_n 0, 1) := by decide +kernel
theorem dX3_goesAsTold_15 : decode cX3_goesAsTold 15 = .ok (.getfield 16, 3) := by decide +kernel
theorem dX3_goesAsTold_18 : decode cX3_goesAsTold 18 = .ok (.iconst 1, 1) := by decide +kernel
theorem dX3_goesAsTold_19 : decode cX3_goesAsTold 19 = .ok (.invokevirtual 129, 3) := by decide +kernel
theorem dX3_goesAsTold_22 : decode cX3_goesAsTold 22 = .ok (.aload_n 2, 1) := by decide +kernel
theorem dX3_goesAsTold_23 : decode cX3_goesAsTold 23 = .ok (.getfield 216, 3) := by decide +kernel
theorem dX3_goesAsTold_26 : decode cX3_goesAsTold 26 = .ok (.iload_n 3, 1) := by decide +kernel
theorem dX3_goesAsTold_27 : decode cX3_goesAsTold 27 = .ok (.iaload, 1) := by decide +kernel
theorem dX3_goesAsTold_28 : decode cX3_goesAsTold 28 = .ok (.istore 4, 2) := by decide +kernel
theorem dX3_goesAsTold_30 : decode cX3_goesAsTold 30 = .ok (.iload 4, 2) := by decide +kernel
theorem dX3_goesAsTold_32 : decode cX3_goesAsTold 32 = .ok (.bipush (-2), 2) := by decide +kernel
theorem dX3_goesAsTold_34 : decode cX3_goesAsTold 34 = .ok (.if_icmp .eq 19, 3) := by decide +kernel
theorem dX3_goesAsTold_37 : decode cX3_goesAsTold 37 = .ok (.iload 4, 2) := by decide +kernel
theorem dX3_goesAsTold_39 : decode cX3_goesAsTold 39 = .ok (.aload_n 0, 1) := by decide +kernel
theorem dX3_goesAsTold_40 : decode cX3_goesAsTold 40 = .ok (.getfield 16, 3) := by decide +kernel
theorem dX3_goesAsTold_43 : decode cX3_goesAsTold 43 = .ok (.getfield 110, 3) := by decide +kernel
theorem dX3_goesAsTold_46 : decode cX3_goesAsTold 46 = .ok (.iload_n 1, 1) := by decide +kernel
theorem dX3_goesAsTold_47 : decode cX3_goesAsTold 47 = .ok (.iaload, 1) := by decide +kernel
theorem dX3_goesAsTold_48 : decode cX3_goesAsTold 48 = .ok (.if_icmp .eq 5, 3) := by decide +kernel
theorem dX3_goesAsTold_51 : decode cX3_goesAsTold 51 = .ok (.iconst 0, 1) := by decide +kernel
theorem dX3_goesAsTold_52 : decode cX3_goesAsTold 52 = .ok (.ireturn, 1) := by decide +kernel
theorem dX3_goesAsTold_53 : decode cX3_goesAsTold 53 = .ok (.iinc 3 1, 3) := by decide +kernel
theorem dX3_goesAsTold_56 : decode cX3_goesAsTold 56 = .ok (.goto (-54), 3) := by decide +kernel
theorem dX3_goesAsTold_59 : decode cX3_goesAsTold 59 = .ok (.iconst 1, 1) := by decide +kernel
theorem dX3_goesAsTold_60 : decode cX3_goesAsTold 60 = .ok (.ireturn, 1) := by decide +kernel
theorem dX3_within_0 : decode cX3_within 0 = .ok (.iload_n 0, 1) := by decide +kernel
theorem dX3_within_1 : decode cX3_within 1 = .ok (.iload_n 1, 1) := by decide +kernel
theorem dX3_within_2 : decode cX3_within 2 = .ok (.if_icmp .lt 12, 3) := by decide +kernel
theorem dX3_within_5 : decode cX3_within 5 = .ok (.iload_n 0, 1) := by decide +kernel
theorem dX3_within_6 : decode cX3_within 6 = .ok (.iload_n 2, 1) := by decide +kernel
theorem dX3_within_7 : decode cX3_within 7 = .ok (.if_icmp .gt 7, 3) := by decide +kernel
theorem dX3_within_10 : decode cX3_within 10 = .ok (.iconst 1, 1) := by decide +kernel
theorem dX3_within_11 : decode cX3_within 11 = .ok (.goto 4, 3) := by decide +kernel
theorem dX3_within_14 : decode cX3_within 14 = .ok (.iconst 0, 1) := by decide +kernel
theorem dX3_within_15 : decode cX3_within 15 = .ok (.ireturn, 1) := by decide +kernel
theorem dX3_isLot_0 : decode cX3_isLot 0 = .ok (.iload_n 0, 1) := by decide +kernel
theorem dX3_isLot_1 : decode cX3_isLot 1 = .ok (.ifCond .lt 13, 3) := by decide +kernel
theorem dX3_isLot_4 : decode cX3_isLot 4 = .ok (.iload_n 0, 1) := by decide +kernel
theorem dX3_isLot_5 : decode cX3_isLot 5 = .ok (.bipush 10, 2) := by decide +kernel
theorem dX3_isLot_7 : decode cX3_isLot 7 = .ok (.if_icmp .ge 7, 3) := by decide +kernel
theorem dX3_isLot_10 : decode cX3_isLot 10 = .ok (.iconst 1, 1) := by decide +kernel
theorem dX3_isLot_11 : decode cX3_isLot 11 = .ok (.goto 4, 3) := by decide +kernel
theorem dX3_isLot_14 : decode cX3_isLot 14 = .ok (.iconst 0, 1) := by decide +kernel
theorem dX3_isLot_15 : decode cX3_isLot 15 = .ok (.ireturn, 1) := by decide +kernel
theorem dX3_isKind_0 : decode cX3_isKind 0 = .ok (.iload_n 0, 1) := by decide +kernel
theorem dX3_isKind_1 : decode cX3_isKind 1 = .ok (.ifCond .lt 13, 3) := by decide +kernel
theorem dX3_isKind_4 : decode cX3_isKind 4 = .ok (.iload_n 0, 1) := by decide +kernel
theorem dX3_isKind_5 : decode cX3_isKind 5 = .ok (.bipush 7, 2) := by decide +kernel
theorem dX3_isKind_7 : decode cX3_isKind 7 = .ok (.if_icmp .ge 7, 3) := by decide +kernel
theorem dX3_isKind_10 : decode cX3_isKind 10 = .ok (.iconst 1, 1) := by decide +kernel
theorem dX3_isKind_11 : decode cX3_isKind 11 = .ok (.goto 4, 3) := by decide +kernel
theorem dX3_isKind_14 : decode cX3_isKind 14 = .ok (.iconst 0, 1) := by decide +kernel
theorem dX3_isKind_15 : decode cX3_isKind 15 = .ok (.ireturn, 1) := by decide +kernel
theorem dX3_isSheet_0 : decode cX3_isSheet 0 = .ok (.iload_n 0, 1) := by decide +kernel
theorem dX3_isSheet_1 : decode cX3_isSheet 1 = .ok (.ifCond .lt 12, 3) := by decide +kernel
theorem dX3_isSheet_4 : decode cX3_isSheet 4 = .ok (.iload_n 0, 1) := by decide +kernel
theorem dX3_isSheet_5 : decode cX3_isSheet 5 = .ok (.iconst 4, 1) := by decide +kernel
theorem dX3_isSheet_6 : decode cX3_isSheet 6 = .ok (.if_icmp .ge 7, 3) := by decide +kernel
theorem dX3_isSheet_9 : decode cX3_isSheet 9 = .ok (.iconst 1, 1) := by decide +kernel
theorem dX3_isSheet_10 : decode cX3_isSheet 10 = .ok (.goto 4, 3) := by decide +kernel
theorem dX3_isSheet_13 : decode cX3_isSheet 13 = .ok (.iconst 0, 1) := by decide +kernel
theorem dX3_isSheet_14 : decode cX3_isSheet 14 = .ok (.ireturn, 1) := by decide +kernel
theorem dX3_exchange_0 : decode cX3_exchange 0 = .ok (.aload_n 0, 1) := by decide +kernel
theorem dX3_exchange_1 : decode cX3_exchange 1 = .ok (.iload_n 1, 1) := by decide +kernel
theorem dX3_exchange_2 : decode cX3_exchange 2 = .ok (.iaload, 1) := by decide +kernel
theorem dX3_exchange_3 : decode cX3_exchange 3 = .ok (.istore_n 3, 1) := by decide +kernel
theorem dX3_exchange_4 : decode cX3_exchange 4 = .ok (.aload_n 0, 1) := by decide +kernel
theorem dX3_exchange_5 : decode cX3_exchange 5 = .ok (.iload_n 1, 1) := by decide +kernel
theorem dX3_exchange_6 : decode cX3_exchange 6 = .ok (.iload_n 2, 1) := by decide +kernel
theorem dX3_exchange_7 : decode cX3_exchange 7 = .ok (.iastore, 1) := by decide +kernel
theorem dX3_exchange_8 : decode cX3_exchange 8 = .ok (.iload_n 3, 1) := by decide +kernel
theorem dX3_exchange_9 : decode cX3_exchange 9 = .ok (.ireturn, 1) := by decide +kernel
theorem dX3_sumOf_0 : decode cX3_sumOf 0 = .ok (.iconst 0, 1) := by decide +kernel
theorem dX3_sumOf_1 : decode cX3_sumOf 1 = .ok (.istore_n 2, 1) := by decide +kernel
theorem dX3_sumOf_2 : decode cX3_sumOf 2 = .ok (.iconst 0, 1) := by decide +kernel
theorem dX3_sumOf_3 : decode cX3_sumOf 3 = .ok (.istore_n 3, 1) := by decide +kernel
theorem dX3_sumOf_4 : decode cX3_sumOf 4 = .ok (.iload_n 3, 1) := by decide +kernel
theorem dX3_sumOf_5 : decode cX3_sumOf 5 = .ok (.iload_n 1, 1) := by decide +kernel
theorem dX3_sumOf_6 : decode cX3_sumOf 6 = .ok (.if_icmp .ge 15, 3) := by decide +kernel
theorem dX3_sumOf_9 : decode cX3_sumOf 9 = .ok (.iload_n 2, 1) := by decide +kernel
theorem dX3_sumOf_10 : decode cX3_sumOf 10 = .ok (.aload_n 0, 1) := by decide +kernel
theorem dX3_sumOf_11 : decode cX3_sumOf 11 = .ok (.iload_n 3, 1) := by decide +kernel
theorem dX3_sumOf_12 : decode cX3_sumOf 12 = .ok (.iaload, 1) := by decide +kernel
theorem dX3_sumOf_13 : decode cX3_sumOf 13 = .ok (.iadd, 1) := by decide +kernel
theorem dX3_sumOf_14 : decode cX3_sumOf 14 = .ok (.istore_n 2, 1) := by decide +kernel
theorem dX3_sumOf_15 : decode cX3_sumOf 15 = .ok (.iinc 3 1, 3) := by decide +kernel
theorem dX3_sumOf_18 : decode cX3_sumOf 18 = .ok (.goto (-14), 3) := by decide +kernel
theorem dX3_sumOf_21 : decode cX3_sumOf 21 = .ok (.iload_n 2, 1) := by decide +kernel
theorem dX3_sumOf_22 : decode cX3_sumOf 22 = .ok (.ireturn, 1) := by decide +kernel
theorem dX3_firstGreatest_0 : decode cX3_firstGreatest 0 = .ok (.iconst (-1), 1) := by decide +kernel
theorem dX3_firstGreatest_1 : decode cX3_firstGreatest 1 = .ok (.istore_n 2, 1) := by decide +kernel
theorem dX3_firstGreatest_2 : decode cX3_firstGreatest 2 = .ok (.iconst 0, 1) := by decide +kernel
theorem dX3_firstGreatest_3 : decode cX3_firstGreatest 3 = .ok (.istore_n 3, 1) := by decide +kernel
theorem dX3_firstGreatest_4 : decode cX3_firstGreatest 4 = .ok (.iload_n 3, 1) := by decide +kernel
theorem dX3_firstGreatest_5 : decode cX3_firstGreatest 5 = .ok (.iload_n 1, 1) := by decide +kernel
theorem dX3_firstGreatest_6 : decode cX3_firstGreatest 6 = .ok (.if_icmp .ge 24, 3) := by decide +kernel
theorem dX3_firstGreatest_9 : decode cX3_firstGreatest 9 = .ok (.iload_n 2, 1) := by decide +kernel
theorem dX3_firstGreatest_10 : decode cX3_firstGreatest 10 = .ok (.ifCond .lt 12, 3) := by decide +kernel
theorem dX3_firstGreatest_13 : decode cX3_firstGreatest 13 = .ok (.aload_n 0, 1) := by decide +kernel
theorem dX3_firstGreatest_14 : decode cX3_firstGreatest 14 = .ok (.iload_n 3, 1) := by decide +kernel
theorem dX3_firstGreatest_15 : decode cX3_firstGreatest 15 = .ok (.iaload, 1) := by decide +kernel
theorem dX3_firstGreatest_16 : decode cX3_firstGreatest 16 = .ok (.aload_n 0, 1) := by decide +kernel
theorem dX3_firstGreatest_17 : decode cX3_firstGreatest 17 = .ok (.iload_n 2, 1) := by decide +kernel
theorem dX3_firstGreatest_18 : decode cX3_firstGreatest 18 = .ok (.iaload, 1) := by decide +kernel
theorem dX3_firstGreatest_19 : decode cX3_firstGreatest 19 = .ok (.if_icmp .le 5, 3) := by decide +kernel
theorem dX3_firstGreatest_22 : decode cX3_firstGreatest 22 = .ok (.iload_n 3, 1) := by decide +kernel
theorem dX3_firstGreatest_23 : decode cX3_firstGreatest 23 = .ok (.istore_n 2, 1) := by decide +kernel
theorem dX3_firstGreatest_24 : decode cX3_firstGreatest 24 = .ok (.iinc 3 1, 3) := by decide +kernel
theorem dX3_firstGreatest_27 : decode cX3_firstGreatest 27 = .ok (.goto (-23), 3) := by decide +kernel
theorem dX3_firstGreatest_30 : decode cX3_firstGreatest 30 = .ok (.iload_n 2, 1) := by decide +kernel
theorem dX3_firstGreatest_31 : decode cX3_firstGreatest 31 = .ok (.ireturn, 1) := by decide +kernel
theorem dX3_greatestCommon_0 : decode cX3_greatestCommon 0 = .ok (.iconst 1, 1) := by decide +kernel
theorem dX3_greatestCommon_1 : decode cX3_greatestCommon 1 = .ok (.istore_n 2, 1) := by decide +kernel
theorem dX3_greatestCommon_2 : decode cX3_greatestCommon 2 = .ok (.iconst 2, 1) := by decide +kernel
theorem dX3_greatestCommon_3 : decode cX3_greatestCommon 3 = .ok (.istore_n 3, 1) := by decide +kernel
theorem dX3_greatestCommon_4 : decode cX3_greatestCommon 4 = .ok (.iload_n 3, 1) := by decide +kernel
theorem dX3_greatestCommon_5 : decode cX3_greatestCommon 5 = .ok (.iload_n 1, 1) := by decide +kernel
theorem dX3_greatestCommon_6 : decode cX3_greatestCommon 6 = .ok (.if_icmp .gt 23, 3) := by decide +kernel
theorem dX3_greatestCommon_9 : decode cX3_greatestCommon 9 = .ok (.iload_n 0, 1) := by decide +kernel
theorem dX3_greatestCommon_10 : decode cX3_greatestCommon 10 = .ok (.iload_n 3, 1) := by decide +kernel
theorem dX3_greatestCommon_11 : decode cX3_greatestCommon 11 = .ok (.irem, 1) := by decide +kernel
theorem dX3_greatestCommon_12 : decode cX3_greatestCommon 12 = .ok (.ifCond .ne 11, 3) := by decide +kernel
theorem dX3_greatestCommon_15 : decode cX3_greatestCommon 15 = .ok (.iload_n 1, 1) := by decide +kernel
theorem dX3_greatestCommon_16 : decode cX3_greatestCommon 16 = .ok (.iload_n 3, 1) := by decide +kernel
theorem dX3_greatestCommon_17 : decode cX3_greatestCommon 17 = .ok (.irem, 1) := by decide +kernel
theorem dX3_greatestCommon_18 : decode cX3_greatestCommon 18 = .ok (.ifCond .ne 5, 3) := by decide +kernel
theorem dX3_greatestCommon_21 : decode cX3_greatestCommon 21 = .ok (.iload_n 3, 1) := by decide +kernel
theorem dX3_greatestCommon_22 : decode cX3_greatestCommon 22 = .ok (.istore_n 2, 1) := by decide +kernel
theorem dX3_greatestCommon_23 : decode cX3_greatestCommon 23 = .ok (.iinc 3 1, 3) := by decide +kernel
theorem dX3_greatestCommon_26 : decode cX3_greatestCommon 26 = .ok (.goto (-22), 3) := by decide +kernel
theorem dX3_greatestCommon_29 : decode cX3_greatestCommon 29 = .ok (.iload_n 2, 1) := by decide +kernel
theorem dX3_greatestCommon_30 : decode cX3_greatestCommon 30 = .ok (.ireturn, 1) := by decide +kernel
theorem dX3_losesOf_0 : decode cX3_losesOf 0 = .ok (.iload_n 0, 1) := by decide +kernel
theorem dX3_losesOf_1 : decode cX3_losesOf 1 = .ok (.tableswitch 48 1 6 #[39, 48, 41, 43, 45, 39], 39) := by decide +kernel
theorem dX3_losesOf_40 : decode cX3_losesOf 40 = .ok (.iconst 2, 1) := by decide +kernel
theorem dX3_losesOf_41 : decode cX3_losesOf 41 = .ok (.ireturn, 1) := by decide +kernel
theorem dX3_losesOf_42 : decode cX3_losesOf 42 = .ok (.iconst 5, 1) := by decide +kernel
theorem dX3_losesOf_43 : decode cX3_losesOf 43 = .ok (.ireturn, 1) := by decide +kernel
theorem dX3_losesOf_44 : decode cX3_losesOf 44 = .ok (.iconst 0, 1) := by decide +kernel
theorem dX3_losesOf_45 : decode cX3_losesOf 45 = .ok (.ireturn, 1) := by decide +kernel
theorem dX3_losesOf_46 : decode cX3_losesOf 46 = .ok (.bipush 20, 2) := by decide +kernel
theorem dX3_losesOf_48 : decode cX3_losesOf 48 = .ok (.ireturn, 1) := by decide +kernel
theorem dX3_losesOf_49 : decode cX3_losesOf 49 = .ok (.bipush 10, 2) := by decide +kernel
theorem dX3_losesOf_51 : decode cX3_losesOf 51 = .ok (.ireturn, 1) := by decide +kernel
theorem dX3_kindAbove_0 : decode cX3_kindAbove 0 = .ok (.iload_n 0, 1) := by decide +kernel
theorem dX3_kindAbove_1 : decode cX3_kindAbove 1 = .ok (.tableswitch 47 1 6 #[39, 39, 41, 43, 39, 45], 39) := by decide +kernel
theorem dX3_kindAbove_40 : decode cX3_kindAbove 40 = .ok (.iconst 0, 1) := by decide +kernel
theorem dX3_kindAbove_41 : decode cX3_kindAbove 41 = .ok (.ireturn, 1) := by decide +kernel
theorem dX3_kindAbove_42 : decode cX3_kindAbove 42 = .ok (.iconst 2, 1) := by decide +kernel
theorem dX3_kindAbove_43 : decode cX3_kindAbove 43 = .ok (.ireturn, 1) := by decide +kernel
theorem dX3_kindAbove_44 : decode cX3_kindAbove 44 = .ok (.iconst 3, 1) := by decide +kernel
theorem dX3_kindAbove_45 : decode cX3_kindAbove 45 = .ok (.ireturn, 1) := by decide +kernel
theorem dX3_kindAbove_46 : decode cX3_kindAbove 46 = .ok (.iconst 1, 1) := by decide +kernel
theorem dX3_kindAbove_47 : decode cX3_kindAbove 47 = .ok (.ireturn, 1) := by decide +kernel
theorem dX3_kindAbove_48 : decode cX3_kindAbove 48 = .ok (.iconst (-1), 1) := by decide +kernel
theorem dX3_kindAbove_49 : decode cX3_kindAbove 49 = .ok (.ireturn, 1) := by decide +kernel
theorem dX3_isUnder_0 : decode cX3_isUnder 0 = .ok (.iload_n 0, 1) := by decide +kernel
theorem dX3_isUnder_1 : decode cX3_isUnder 1 = .ok (.istore_n 2, 1) := by decide +kernel
theorem dX3_isUnder_2 : decode cX3_isUnder 2 = .ok (.iconst 0, 1) := by decide +kernel
theorem dX3_isUnder_3 : decode cX3_isUnder 3 = .ok (.istore_n 3, 1) := by decide +kernel
theorem dX3_isUnder_4 : decode cX3_isUnder 4 = .ok (.iload_n 3, 1) := by decide +kernel
theorem dX3_isUnder_5 : decode cX3_isUnder 5 = .ok (.bipush 7, 2) := by decide +kernel
theorem dX3_isUnder_7 : decode cX3_isUnder 7 = .ok (.if_icmp .ge 23, 3) := by decide +kernel
theorem dX3_isUnder_10 : decode cX3_isUnder 10 = .ok (.iload_n 2, 1) := by decide +kernel
theorem dX3_isUnder_11 : decode cX3_isUnder 11 = .ok (.iload_n 1, 1) := by decide +kernel
theorem dX3_isUnder_12 : decode cX3_isUnder 12 = .ok (.if_icmp .eq 18, 3) := by decide +kernel
theorem dX3_isUnder_15 : decode cX3_isUnder 15 = .ok (.iload_n 2, 1) := by decide +kernel
theorem dX3_isUnder_16 : decode cX3_isUnder 16 = .ok (.ifCond .lt 14, 3) := by decide +kernel
theorem dX3_isUnder_19 : decode cX3_isUnder 19 = .ok (.iload_n 2, 1) := by decide +kernel
theorem dX3_isUnder_20 : decode cX3_isUnder 20 = .ok (.invokestatic 229, 3) := by decide +kernel
theorem dX3_isUnder_23 : decode cX3_isUnder 23 = .ok (.istore_n 2, 1) := by decide +kernel
theorem dX3_isUnder_24 : decode cX3_isUnder 24 = .ok (.iinc 3 1, 3) := by decide +kernel
theorem dX3_isUnder_27 : decode cX3_isUnder 27 = .ok (.goto (-23), 3) := by decide +kernel
theorem dX3_isUnder_30 : decode cX3_isUnder 30 = .ok (.iload_n 2, 1) := by decide +kernel
theorem dX3_isUnder_31 : decode cX3_isUnder 31 = .ok (.iload_n 1, 1) := by decide +kernel
theorem dX3_isUnder_32 : decode cX3_isUnder 32 = .ok (.if_icmp .ne 7, 3) := by decide +kernel
theorem dX3_isUnder_35 : decode cX3_isUnder 35 = .ok (.iconst 1, 1) := by decide +kernel
theorem dX3_isUnder_36 : decode cX3_isUnder 36 = .ok (.goto 4, 3) := by decide +kernel
theorem dX3_isUnder_39 : decode cX3_isUnder 39 = .ok (.iconst 0, 1) := by decide +kernel
theorem dX3_isUnder_40 : decode cX3_isUnder 40 = .ok (.ireturn, 1) := by decide +kernel
