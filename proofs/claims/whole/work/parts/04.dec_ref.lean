theorem dX4_no_0 : decode cX4_no 0 = .ok (.aload_n 0, 1) := by decide +kernel
theorem dX4_no_1 : decode cX4_no 1 = .ok (.getfield 19, 3) := by decide +kernel
theorem dX4_no_4 : decode cX4_no 4 = .ok (.iload_n 1, 1) := by decide +kernel
theorem dX4_no_5 : decode cX4_no 5 = .ok (.dup2, 1) := by decide +kernel
theorem dX4_no_6 : decode cX4_no 6 = .ok (.iaload, 1) := by decide +kernel
theorem dX4_no_7 : decode cX4_no 7 = .ok (.iconst 1, 1) := by decide +kernel
theorem dX4_no_8 : decode cX4_no 8 = .ok (.iadd, 1) := by decide +kernel
theorem dX4_no_9 : decode cX4_no 9 = .ok (.iastore, 1) := by decide +kernel
theorem dX4_no_10 : decode cX4_no 10 = .ok (.ldc 60, 2) := by decide +kernel
theorem dX4_no_12 : decode cX4_no 12 = .ok (.iload_n 1, 1) := by decide +kernel
theorem dX4_no_13 : decode cX4_no 13 = .ok (.isub, 1) := by decide +kernel
theorem dX4_no_14 : decode cX4_no 14 = .ok (.ireturn, 1) := by decide +kernel
theorem dX4_in1_0 : decode cX4_in1 0 = .ok (.iload_n 0, 1) := by decide +kernel
theorem dX4_in1_1 : decode cX4_in1 1 = .ok (.iload_n 1, 1) := by decide +kernel
theorem dX4_in1_2 : decode cX4_in1 2 = .ok (.if_icmp .lt 12, 3) := by decide +kernel
theorem dX4_in1_5 : decode cX4_in1 5 = .ok (.iload_n 0, 1) := by decide +kernel
theorem dX4_in1_6 : decode cX4_in1 6 = .ok (.iload_n 2, 1) := by decide +kernel
theorem dX4_in1_7 : decode cX4_in1 7 = .ok (.if_icmp .gt 7, 3) := by decide +kernel
theorem dX4_in1_10 : decode cX4_in1 10 = .ok (.iconst 1, 1) := by decide +kernel
theorem dX4_in1_11 : decode cX4_in1 11 = .ok (.goto 4, 3) := by decide +kernel
theorem dX4_in1_14 : decode cX4_in1 14 = .ok (.iconst 0, 1) := by decide +kernel
theorem dX4_in1_15 : decode cX4_in1 15 = .ok (.ireturn, 1) := by decide +kernel
theorem dX4_less_0 : decode cX4_less 0 = .ok (.iload_n 0, 1) := by decide +kernel
theorem dX4_less_1 : decode cX4_less 1 = .ok (.iload_n 1, 1) := by decide +kernel
theorem dX4_less_2 : decode cX4_less 2 = .ok (.if_icmp .ge 7, 3) := by decide +kernel
theorem dX4_less_5 : decode cX4_less 5 = .ok (.iload_n 0, 1) := by decide +kernel
theorem dX4_less_6 : decode cX4_less 6 = .ok (.goto 4, 3) := by decide +kernel
theorem dX4_less_9 : decode cX4_less 9 = .ok (.iload_n 1, 1) := by decide +kernel
theorem dX4_less_10 : decode cX4_less 10 = .ok (.ireturn, 1) := by decide +kernel
theorem dX4_bits_0 : decode cX4_bits 0 = .ok (.iconst 0, 1) := by decide +kernel
theorem dX4_bits_1 : decode cX4_bits 1 = .ok (.istore_n 1, 1) := by decide +kernel
theorem dX4_bits_2 : decode cX4_bits 2 = .ok (.iload_n 0, 1) := by decide +kernel
theorem dX4_bits_3 : decode cX4_bits 3 = .ok (.istore_n 2, 1) := by decide +kernel
theorem dX4_bits_4 : decode cX4_bits 4 = .ok (.iload_n 2, 1) := by decide +kernel
theorem dX4_bits_5 : decode cX4_bits 5 = .ok (.ifCond .eq 15, 3) := by decide +kernel
theorem dX4_bits_8 : decode cX4_bits 8 = .ok (.iinc 1 1, 3) := by decide +kernel
theorem dX4_bits_11 : decode cX4_bits 11 = .ok (.iload_n 2, 1) := by decide +kernel
theorem dX4_bits_12 : decode cX4_bits 12 = .ok (.iload_n 2, 1) := by decide +kernel
theorem dX4_bits_13 : decode cX4_bits 13 = .ok (.iconst 1, 1) := by decide +kernel
theorem dX4_bits_14 : decode cX4_bits 14 = .ok (.isub, 1) := by decide +kernel
theorem dX4_bits_15 : decode cX4_bits 15 = .ok (.iand, 1) := by decide +kernel
theorem dX4_bits_16 : decode cX4_bits 16 = .ok (.istore_n 2, 1) := by decide +kernel
theorem dX4_bits_17 : decode cX4_bits 17 = .ok (.goto (-13), 3) := by decide +kernel
theorem dX4_bits_20 : decode cX4_bits 20 = .ok (.iload_n 1, 1) := by decide +kernel
theorem dX4_bits_21 : decode cX4_bits 21 = .ok (.ireturn, 1) := by decide +kernel
theorem dX4_isLot_0 : decode cX4_isLot 0 = .ok (.iload_n 0, 1) := by decide +kernel
theorem dX4_isLot_1 : decode cX4_isLot 1 = .ok (.iconst 0, 1) := by decide +kernel
theorem dX4_isLot_2 : decode cX4_isLot 2 = .ok (.bipush 9, 2) := by decide +kernel
theorem dX4_isLot_4 : decode cX4_isLot 4 = .ok (.invokestatic 61, 3) := by decide +kernel
theorem dX4_isLot_7 : decode cX4_isLot 7 = .ok (.ireturn, 1) := by decide +kernel
theorem dX4_isPerson_0 : decode cX4_isPerson 0 = .ok (.iload_n 1, 1) := by decide +kernel
theorem dX4_isPerson_1 : decode cX4_isPerson 1 = .ok (.iconst 0, 1) := by decide +kernel
theorem dX4_isPerson_2 : decode cX4_isPerson 2 = .ok (.aload_n 0, 1) := by decide +kernel
theorem dX4_isPerson_3 : decode cX4_isPerson 3 = .ok (.getfield 9, 3) := by decide +kernel
theorem dX4_isPerson_6 : decode cX4_isPerson 6 = .ok (.iconst 1, 1) := by decide +kernel
theorem dX4_isPerson_7 : decode cX4_isPerson 7 = .ok (.iaload, 1) := by decide +kernel
theorem dX4_isPerson_8 : decode cX4_isPerson 8 = .ok (.iconst 1, 1) := by decide +kernel
theorem dX4_isPerson_9 : decode cX4_isPerson 9 = .ok (.isub, 1) := by decide +kernel
theorem dX4_isPerson_10 : decode cX4_isPerson 10 = .ok (.invokestatic 61, 3) := by decide +kernel
theorem dX4_isPerson_13 : decode cX4_isPerson 13 = .ok (.ireturn, 1) := by decide +kernel
theorem dX4_of1_0 : decode cX4_of1 0 = .ok (.aload_n 0, 1) := by decide +kernel
theorem dX4_of1_1 : decode cX4_of1 1 = .ok (.getfield 9, 3) := by decide +kernel
theorem dX4_of1_4 : decode cX4_of1 4 = .ok (.bipush 10, 2) := by decide +kernel
theorem dX4_of1_6 : decode cX4_of1 6 = .ok (.iconst 3, 1) := by decide +kernel
theorem dX4_of1_7 : decode cX4_of1 7 = .ok (.iload_n 1, 1) := by decide +kernel
theorem dX4_of1_8 : decode cX4_of1 8 = .ok (.imul, 1) := by decide +kernel
theorem dX4_of1_9 : decode cX4_of1 9 = .ok (.iadd, 1) := by decide +kernel
theorem dX4_of1_10 : decode cX4_of1 10 = .ok (.iload_n 2, 1) := by decide +kernel
theorem dX4_of1_11 : decode cX4_of1 11 = .ok (.iadd, 1) := by decide +kernel
theorem dX4_of1_12 : decode cX4_of1 12 = .ok (.iaload, 1) := by decide +kernel
theorem dX4_of1_13 : decode cX4_of1 13 = .ok (.ireturn, 1) := by decide +kernel
theorem dX4_lays1_0 : decode cX4_lays1 0 = .ok (.aload_n 0, 1) := by decide +kernel
theorem dX4_lays1_1 : decode cX4_lays1 1 = .ok (.getfield 9, 3) := by decide +kernel
theorem dX4_lays1_4 : decode cX4_lays1 4 = .ok (.bipush 10, 2) := by decide +kernel
theorem dX4_lays1_6 : decode cX4_lays1 6 = .ok (.iconst 3, 1) := by decide +kernel
theorem dX4_lays1_7 : decode cX4_lays1 7 = .ok (.iload_n 1, 1) := by decide +kernel
theorem dX4_lays1_8 : decode cX4_lays1 8 = .ok (.imul, 1) := by decide +kernel
theorem dX4_lays1_9 : decode cX4_lays1 9 = .ok (.iadd, 1) := by decide +kernel
theorem dX4_lays1_10 : decode cX4_lays1 10 = .ok (.iload_n 2, 1) := by decide +kernel
theorem dX4_lays1_11 : decode cX4_lays1 11 = .ok (.iadd, 1) := by decide +kernel
theorem dX4_lays1_12 : decode cX4_lays1 12 = .ok (.iload_n 3, 1) := by decide +kernel
theorem dX4_lays1_13 : decode cX4_lays1 13 = .ok (.iastore, 1) := by decide +kernel
theorem dX4_lays1_14 : decode cX4_lays1 14 = .ok (.return_, 1) := by decide +kernel
theorem dX4_get_0 : decode cX4_get 0 = .ok (.aload_n 0, 1) := by decide +kernel
theorem dX4_get_1 : decode cX4_get 1 = .ok (.getfield 9, 3) := by decide +kernel
theorem dX4_get_4 : decode cX4_get 4 = .ok (.bipush 40, 2) := by decide +kernel
theorem dX4_get_6 : decode cX4_get 6 = .ok (.iconst 5, 1) := by decide +kernel
theorem dX4_get_7 : decode cX4_get 7 = .ok (.iload_n 1, 1) := by decide +kernel
theorem dX4_get_8 : decode cX4_get 8 = .ok (.imul, 1) := by decide +kernel
theorem dX4_get_9 : decode cX4_get 9 = .ok (.iadd, 1) := by decide +kernel
theorem dX4_get_10 : decode cX4_get 10 = .ok (.iload_n 2, 1) := by decide +kernel
theorem dX4_get_11 : decode cX4_get 11 = .ok (.iadd, 1) := by decide +kernel
theorem dX4_get_12 : decode cX4_get 12 = .ok (.iaload, 1) := by decide +kernel
theorem dX4_get_13 : decode cX4_get 13 = .ok (.ireturn, 1) := by decide +kernel
theorem dX4_puts_0 : decode cX4_puts 0 = .ok (.aload_n 0, 1) := by decide +kernel
theorem dX4_puts_1 : decode cX4_puts 1 = .ok (.getfield 9, 3) := by decide +kernel
theorem dX4_puts_4 : decode cX4_puts 4 = .ok (.bipush 40, 2) := by decide +kernel
theorem dX4_puts_6 : decode cX4_puts 6 = .ok (.iconst 5, 1) := by decide +kernel
theorem dX4_puts_7 : decode cX4_puts 7 = .ok (.iload_n 1, 1) := by decide +kernel
theorem dX4_puts_8 : decode cX4_puts 8 = .ok (.imul, 1) := by decide +kernel
theorem dX4_puts_9 : decode cX4_puts 9 = .ok (.iadd, 1) := by decide +kernel
theorem dX4_puts_10 : decode cX4_puts 10 = .ok (.iload_n 2, 1) := by decide +kernel
theorem dX4_puts_11 : decode cX4_puts 11 = .ok (.iadd, 1) := by decide +kernel
theorem dX4_puts_12 : decode cX4_puts 12 = .ok (.iload_n 3, 1) := by decide +kernel
theorem dX4_puts_13 : decode cX4_puts 13 = .ok (.iastore, 1) := by decide +kernel
theorem dX4_puts_14 : decode cX4_puts 14 = .ok (.return_, 1) := by decide +kernel
theorem dX4_setsAside_0 : decode cX4_setsAside 0 = .ok (.iconst 0, 1) := by decide +kernel
theorem dX4_setsAside_1 : decode cX4_setsAside 1 = .ok (.istore_n 1, 1) := by decide +kernel
theorem dX4_setsAside_2 : decode cX4_setsAside 2 = .ok (.iload_n 1, 1) := by decide +kernel
theorem dX4_setsAside_3 : decode cX4_setsAside 3 = .ok (.bipush 90, 2) := by decide +kernel
theorem dX4_setsAside_5 : decode cX4_setsAside 5 = .ok (.if_icmp .ge 21, 3) := by decide +kernel
theorem dX4_setsAside_8 : decode cX4_setsAside 8 = .ok (.aload_n 0, 1) := by decide +kernel
theorem dX4_setsAside_9 : decode cX4_setsAside 9 = .ok (.getfield 16, 3) := by decide +kernel
theorem dX4_setsAside_12 : decode cX4_setsAside 12 = .ok (.iload_n 1, 1) := by decide +kernel
theorem dX4_setsAside_13 : decode cX4_setsAside 13 = .ok (.aload_n 0, 1) := by decide +kernel
theorem dX4_setsAside_14 : decode cX4_setsAside 14 = .ok (.getfield 9, 3) := by decide +kernel
theorem dX4_setsAside_17 : decode cX4_setsAside 17 = .ok (.iload_n 1, 1) := by decide +kernel
theorem dX4_setsAside_18 : decode cX4_setsAside 18 = .ok (.iaload, 1) := by decide +kernel
theorem dX4_setsAside_19 : decode cX4_setsAside 19 = .ok (.iastore, 1) := by decide +kernel
theorem dX4_setsAside_20 : decode cX4_setsAside 20 = .ok (.iinc 1 1, 3) := by decide +kernel
theorem dX4_setsAside_23 : decode cX4_setsAside 23 = .ok (.goto (-21), 3) := by decide +kernel
theorem dX4_setsAside_26 : decode cX4_setsAside 26 = .ok (.return_, 1) := by decide +kernel
theorem dX4_laysBack_0 : decode cX4_laysBack 0 = .ok (.iconst 0, 1) := by decide +kernel
theorem dX4_laysBack_1 : decode cX4_laysBack 1 = .ok (.istore_n 1, 1) := by decide +kernel
theorem dX4_laysBack_2 : decode cX4_laysBack 2 = .ok (.iload_n 1, 1) := by decide +kernel
theorem dX4_laysBack_3 : decode cX4_laysBack 3 = .ok (.bipush 90, 2) := by decide +kernel
theorem dX4_laysBack_5 : decode cX4_laysBack 5 = .ok (.if_icmp .ge 21, 3) := by decide +kernel
theorem dX4_laysBack_8 : decode cX4_laysBack 8 = .ok (.aload_n 0, 1) := by decide +kernel
theorem dX4_laysBack_9 : decode cX4_laysBack 9 = .ok (.getfield 9, 3) := by decide +kernel
theorem dX4_laysBack_12 : decode cX4_laysBack 12 = .ok (.iload_n 1, 1) := by decide +kernel
theorem dX4_laysBack_13 : decode cX4_laysBack 13 = .ok (.aload_n 0, 1) := by decide +kernel
theorem dX4_laysBack_14 : decode cX4_laysBack 14 = .ok (.getfield 16, 3) := by decide +kernel
theorem dX4_laysBack_17 : decode cX4_laysBack 17 = .ok (.iload_n 1, 1) := by decide +kernel
theorem dX4_laysBack_18 : decode cX4_laysBack 18 = .ok (.iaload, 1) := by decide +kernel
theorem dX4_laysBack_19 : decode cX4_laysBack 19 = .ok (.iastore, 1) := by decide +kernel
theorem dX4_laysBack_20 : decode cX4_laysBack 20 = .ok (.iinc 1 1, 3) := by decide +kernel
theorem dX4_laysBack_23 : decode cX4_laysBack 23 = .ok (.goto (-21), 3) := by decide +kernel
theorem dX4_laysBack_26 : decode cX4_laysBack 26 = .ok (.return_, 1) := by decide +kernel
theorem dX4_whoIsOn_0 : decode cX4_whoIsOn 0 = .ok (.iconst 0, 1) := by decide +kernel
theorem dX4_whoIsOn_1 : decode cX4_whoIsOn 1 = .ok (.istore_n 2, 1) := by decide +kernel
theorem dX4_whoIsOn_2 : decode cX4_whoIsOn 2 = .ok (.iconst 0, 1) := by decide +kernel
theorem dX4_whoIsOn_3 : decode cX4_whoIsOn 3 = .ok (.istore_n 3, 1) := by decide +kernel
theorem dX4_whoIsOn_4 : decode cX4_whoIsOn 4 = .ok (.iload_n 3, 1) := by decide +kernel
theorem dX4_whoIsOn_5 : decode cX4_whoIsOn 5 = .ok (.aload_n 0, 1) := by decide +kernel
theorem dX4_whoIsOn_6 : decode cX4_whoIsOn 6 = .ok (.getfield 9, 3) := by decide +kernel
theorem dX4_whoIsOn_9 : decode cX4_whoIsOn 9 = .ok (.iconst 1, 1) := by decide +kernel
theorem dX4_whoIsOn_10 : decode cX4_whoIsOn 10 = .ok (.iaload, 1) := by decide +kernel
theorem dX4_whoIsOn_11 : decode cX4_whoIsOn 11 = .ok (.if_icmp .ge 29, 3) := by decide +kernel
theorem dX4_whoIsOn_14 : decode cX4_whoIsOn 14 = .ok (.iload_n 2, 1) := by decide +kernel
theorem dX4_whoIsOn_15 : decode cX4_whoIsOn 15 = .ok (.aload_n 0, 1) := by decide +kernel
theorem dX4_whoIsOn_16 : decode cX4_whoIsOn 16 = .ok (.iload_n 3, 1) := by decide +kernel
theorem dX4_whoIsOn_17 : decode cX4_whoIsOn 17 = .ok (.iconst 1, 1) := by decide +kernel
theorem dX4_whoIsOn_18 : decode cX4_whoIsOn 18 = .ok (.invokevirtual 65, 3) := by decide +kernel
theorem dX4_whoIsOn_21 : decode cX4_whoIsOn 21 = .ok (.iload_n 1, 1) := by decide +kernel
theorem dX4_whoIsOn_22 : decode cX4_whoIsOn 22 = .ok (.if_icmp .ne 9, 3) := by decide +kernel
theorem dX4_whoIsOn_25 : decode cX4_whoIsOn 25 = .ok (.iconst 1, 1) := by decide +kernel
theorem dX4_whoIsOn_26 : decode cX4_whoIsOn 26 = .ok (.iload_n 3, 1) := by decide +kernel
theorem dX4_whoIsOn_27 : decode cX4_whoIsOn 27 = .ok (.ishl, 1) := by decide +kernel
theorem dX4_whoIsOn_28 : decode cX4_whoIsOn 28 = .ok (.goto 4, 3) := by decide +kernel
theorem dX4_whoIsOn_31 : decode cX4_whoIsOn 31 = .ok (.iconst 0, 1) := by decide +kernel
theorem dX4_whoIsOn_32 : decode cX4_whoIsOn 32 = .ok (.ior, 1) := by decide +kernel
theorem dX4_whoIsOn_33 : decode cX4_whoIsOn 33 = .ok (.istore_n 2, 1) := by decide +kernel
theorem dX4_whoIsOn_34 : decode cX4_whoIsOn 34 = .ok (.iinc 3 1, 3) := by decide +kernel
theorem dX4_whoIsOn_37 : decode cX4_whoIsOn 37 = .ok (.goto (-33), 3) := by decide +kernel
theorem dX4_whoIsOn_40 : decode cX4_whoIsOn 40 = .ok (.iload_n 2, 1) := by decide +kernel
theorem dX4_whoIsOn_41 : decode cX4_whoIsOn 41 = .ok (.ireturn, 1) := by decide +kernel
theorem dX4_onLots_0 : decode cX4_onLots 0 = .ok (.iconst 1, 1) := by decide +kernel
theorem dX4_onLots_1 : decode cX4_onLots 1 = .ok (.aload_n 0, 1) := by decide +kernel
theorem dX4_onLots_2 : decode cX4_onLots 2 = .ok (.getfield 9, 3) := by decide +kernel
theorem dX4_onLots_5 : decode cX4_onLots 5 = .ok (.iconst 1, 1) := by decide +kernel
theorem dX4_onLots_6 : decode cX4_onLots 6 = .ok (.iaload, 1) := by decide +kernel
theorem dX4_onLots_7 : decode cX4_onLots 7 = .ok (.ishl, 1) := by decide +kernel
theorem dX4_onLots_8 : decode cX4_onLots 8 = .ok (.iconst 1, 1) := by decide +kernel
theorem dX4_onLots_9 : decode cX4_onLots 9 = .ok (.isub, 1) := by decide +kernel
theorem dX4_onLots_10 : decode cX4_onLots 10 = .ok (.aload_n 0, 1) := by decide +kernel
theorem dX4_onLots_11 : decode cX4_onLots 11 = .ok (.iconst (-1), 1) := by decide +kernel
theorem dX4_onLots_12 : decode cX4_onLots 12 = .ok (.invokevirtual 69, 3) := by decide +kernel
theorem dX4_onLots_15 : decode cX4_onLots 15 = .ok (.iconst (-1), 1) := by decide +kernel
theorem dX4_onLots_16 : decode cX4_onLots 16 = .ok (.ixor, 1) := by decide +kernel
theorem dX4_onLots_17 : decode cX4_onLots 17 = .ok (.iand, 1) := by decide +kernel
theorem dX4_onLots_18 : decode cX4_onLots 18 = .ok (.ireturn, 1) := by decide +kernel
theorem dX4_sumOf_0 : decode cX4_sumOf 0 = .ok (.iconst 0, 1) := by decide +kernel
theorem dX4_sumOf_1 : decode cX4_sumOf 1 = .ok (.istore_n 2, 1) := by decide +kernel
theorem dX4_sumOf_2 : decode cX4_sumOf 2 = .ok (.iconst 0, 1) := by decide +kernel
theorem dX4_sumOf_3 : decode cX4_sumOf 3 = .ok (.istore_n 3, 1) := by decide +kernel
theorem dX4_sumOf_4 : decode cX4_sumOf 4 = .ok (.iload_n 3, 1) := by decide +kernel
theorem dX4_sumOf_5 : decode cX4_sumOf 5 = .ok (.aload_n 0, 1) := by decide +kernel
theorem dX4_sumOf_6 : decode cX4_sumOf 6 = .ok (.getfield 9, 3) := by decide +kernel
theorem dX4_sumOf_9 : decode cX4_sumOf 9 = .ok (.iconst 1, 1) := by decide +kernel
theorem dX4_sumOf_10 : decode cX4_sumOf 10 = .ok (.iaload, 1) := by decide +kernel
theorem dX4_sumOf_11 : decode cX4_sumOf 11 = .ok (.if_icmp .ge 18, 3) := by decide +kernel
theorem dX4_sumOf_14 : decode cX4_sumOf 14 = .ok (.iload_n 2, 1) := by decide +kernel
theorem dX4_sumOf_15 : decode cX4_sumOf 15 = .ok (.aload_n 0, 1) := by decide +kernel
theorem dX4_sumOf_16 : decode cX4_sumOf 16 = .ok (.iload_n 3, 1) := by decide +kernel
theorem dX4_sumOf_17 : decode cX4_sumOf 17 = .ok (.iload_n 1, 1) := by decide +kernel
theorem dX4_sumOf_18 : decode cX4_sumOf 18 = .ok (.invokevirtual 65, 3) := by decide +kernel
theorem dX4_sumOf_21 : decode cX4_sumOf 21 = .ok (.iadd, 1) := by decide +kernel
theorem dX4_sumOf_22 : decode cX4_sumOf 22 = .ok (.istore_n 2, 1) := by decide +kernel
theorem dX4_sumOf_23 : decode cX4_sumOf 23 = .ok (.iinc 3 1, 3) := by decide +kernel
theorem dX4_sumOf_26 : decode cX4_sumOf 26 = .ok (.goto (-22), 3) := by decide +kernel
theorem dX4_sumOf_29 : decode cX4_sumOf 29 = .ok (.iload_n 2, 1) := by decide +kernel
theorem dX4_sumOf_30 : decode cX4_sumOf 30 = .ok (.ireturn, 1) := by decide +kernel
theorem dX4_trustOf_0 : decode cX4_trustOf 0 = .ok (.aload_n 0, 1) := by decide +kernel
theorem dX4_trustOf_1 : decode cX4_trustOf 1 = .ok (.iload_n 1, 1) := by decide +kernel
theorem dX4_trustOf_2 : decode cX4_trustOf 2 = .ok (.iconst 2, 1) := by decide +kernel
theorem dX4_trustOf_3 : decode cX4_trustOf 3 = .ok (.invokevirtual 65, 3) := by decide +kernel
theorem dX4_trustOf_6 : decode cX4_trustOf 6 = .ok (.iconst 2, 1) := by decide +kernel
theorem dX4_trustOf_7 : decode cX4_trustOf 7 = .ok (.idiv, 1) := by decide +kernel
theorem dX4_trustOf_8 : decode cX4_trustOf 8 = .ok (.istore_n 3, 1) := by decide +kernel
theorem dX4_trustOf_9 : decode cX4_trustOf 9 = .ok (.iload_n 3, 1) := by decide +kernel
theorem dX4_trustOf_10 : decode cX4_trustOf 10 = .ok (.bipush 10, 2) := by decide +kernel
theorem dX4_trustOf_12 : decode cX4_trustOf 12 = .ok (.if_icmp .ge 7, 3) := by decide +kernel
theorem dX4_trustOf_15 : decode cX4_trustOf 15 = .ok (.iconst 0, 1) := by decide +kernel
theorem dX4_trustOf_16 : decode cX4_trustOf 16 = .ok (.goto 7, 3) := by decide +kernel
theorem dX4_trustOf_19 : decode cX4_trustOf 19 = .ok (.iload_n 3, 1) := by decide +kernel
theorem dX4_trustOf_20 : decode cX4_trustOf 20 = .ok (.bipush 10, 2) := by decide +kernel
theorem dX4_trustOf_22 : decode cX4_trustOf 22 = .ok (.isub, 1) := by decide +kernel
theorem dX4_trustOf_23 : decode cX4_trustOf 23 = .ok (.istore 4, 2) := by decide +kernel
theorem dX4_trustOf_25 : decode cX4_trustOf 25 = .ok (.aload_n 0, 1) := by decide +kernel
theorem dX4_trustOf_26 : decode cX4_trustOf 26 = .ok (.iload_n 1, 1) := by decide +kernel
theorem dX4_trustOf_27 : decode cX4_trustOf 27 = .ok (.iconst 0, 1) := by decide +kernel
theorem dX4_trustOf_28 : decode cX4_trustOf 28 = .ok (.invokevirtual 65, 3) := by decide +kernel
theorem dX4_trustOf_31 : decode cX4_trustOf 31 = .ok (.tableswitch 92 1 6 #[37, 42, 45, 65, 68, 70], 37) := by decide +kernel
theorem dX4_trustOf_68 : decode cX4_trustOf 68 = .ok (.iload_n 3, 1) := by decide +kernel
theorem dX4_trustOf_69 : decode cX4_trustOf 69 = .ok (.bipush 20, 2) := by decide +kernel
theorem dX4_trustOf_71 : decode cX4_trustOf 71 = .ok (.iadd, 1) := by decide +kernel
theorem dX4_trustOf_72 : decode cX4_trustOf 72 = .ok (.ireturn, 1) := by decide +kernel
theorem dX4_trustOf_73 : decode cX4_trustOf 73 = .ok (.iload 4, 2) := by decide +kernel
theorem dX4_trustOf_75 : decode cX4_trustOf 75 = .ok (.ireturn, 1) := by decide +kernel
theorem dX4_trustOf_76 : decode cX4_trustOf 76 = .ok (.iload 4, 2) := by decide +kernel
theorem dX4_trustOf_78 : decode cX4_trustOf 78 = .ok (.aload_n 0, 1) := by decide +kernel
theorem dX4_trustOf_79 : decode cX4_trustOf 79 = .ok (.iload_n 2, 1) := by decide +kernel
theorem dX4_trustOf_80 : decode cX4_trustOf 80 = .ok (.iconst 2, 1) := by decide +kernel
theorem dX4_trustOf_81 : decode cX4_trustOf 81 = .ok (.invokevirtual 73, 3) := by decide +kernel
theorem dX4_trustOf_84 : decode cX4_trustOf 84 = .ok (.iload_n 1, 1) := by decide +kernel
theorem dX4_trustOf_85 : decode cX4_trustOf 85 = .ok (.if_icmp .ne 8, 3) := by decide +kernel
theorem dX4_trustOf_88 : decode cX4_trustOf 88 = .ok (.bipush 30, 2) := by decide +kernel
theorem dX4_trustOf_90 : decode cX4_trustOf 90 = .ok (.goto 4, 3) := by decide +kernel
theorem dX4_trustOf_93 : decode cX4_trustOf 93 = .ok (.iconst 0, 1) := by decide +kernel
theorem dX4_trustOf_94 : decode cX4_trustOf 94 = .ok (.iadd, 1) := by decide +kernel
theorem dX4_trustOf_95 : decode cX4_trustOf 95 = .ok (.ireturn, 1) := by decide +kernel
theorem dX4_trustOf_96 : decode cX4_trustOf 96 = .ok (.bipush 60, 2) := by decide +kernel
theorem dX4_trustOf_98 : decode cX4_trustOf 98 = .ok (.ireturn, 1) := by decide +kernel
theorem dX4_trustOf_99 : decode cX4_trustOf 99 = .ok (.iconst 0, 1) := by decide +kernel
theorem dX4_trustOf_100 : decode cX4_trustOf 100 = .ok (.ireturn, 1) := by decide +kernel
theorem dX4_trustOf_101 : decode cX4_trustOf 101 = .ok (.iload_n 3, 1) := by decide +kernel
theorem dX4_trustOf_102 : decode cX4_trustOf 102 = .ok (.bipush 20, 2) := by decide +kernel
theorem dX4_trustOf_104 : decode cX4_trustOf 104 = .ok (.iadd, 1) := by decide +kernel
theorem dX4_trustOf_105 : decode cX4_trustOf 105 = .ok (.iconst 2, 1) := by decide +kernel
theorem dX4_trustOf_106 : decode cX4_trustOf 106 = .ok (.aload_n 0, 1) := by decide +kernel
theorem dX4_trustOf_107 : decode cX4_trustOf 107 = .ok (.iload_n 2, 1) := by decide +kernel
theorem dX4_trustOf_108 : decode cX4_trustOf 108 = .ok (.invokevirtual 69, 3) := by decide +kernel
theorem dX4_trustOf_111 : decode cX4_trustOf 111 = .ok (.iconst 1, 1) := by decide +kernel
theorem dX4_trustOf_112 : decode cX4_trustOf 112 = .ok (.iload_n 1, 1) := by decide +kernel
theorem dX4_trustOf_113 : decode cX4_trustOf 113 = .ok (.ishl, 1) := by decide +kernel
theorem dX4_trustOf_114 : decode cX4_trustOf 114 = .ok (.iconst (-1), 1) := by decide +kernel
theorem dX4_trustOf_115 : decode cX4_trustOf 115 = .ok (.ixor, 1) := by decide +kernel
theorem dX4_trustOf_116 : decode cX4_trustOf 116 = .ok (.iand, 1) := by decide +kernel
theorem dX4_trustOf_117 : decode cX4_trustOf 117 = .ok (.invokestatic 76, 3) := by decide +kernel
theorem dX4_trustOf_120 : decode cX4_trustOf 120 = .ok (.imul, 1) := by decide +kernel
theorem dX4_trustOf_121 : decode cX4_trustOf 121 = .ok (.iadd, 1) := by decide +kernel
theorem dX4_trustOf_122 : decode cX4_trustOf 122 = .ok (.ireturn, 1) := by decide +kernel
theorem dX4_trustOf_123 : decode cX4_trustOf 123 = .ok (.iload_n 3, 1) := by decide +kernel
theorem dX4_trustOf_124 : decode cX4_trustOf 124 = .ok (.ireturn, 1) := by decide +kernel
theorem dX4_stands_0 : decode cX4_stands 0 = .ok (.aload_n 0, 1) := by decide +kernel
theorem dX4_stands_1 : decode cX4_stands 1 = .ok (.iload_n 2, 1) := by decide +kernel
theorem dX4_stands_2 : decode cX4_stands 2 = .ok (.iconst 0, 1) := by decide +kernel
theorem dX4_stands_3 : decode cX4_stands 3 = .ok (.invokevirtual 73, 3) := by decide +kernel
theorem dX4_stands_6 : decode cX4_stands 6 = .ok (.aload_n 0, 1) := by decide +kernel
theorem dX4_stands_7 : decode cX4_stands 7 = .ok (.iload_n 1, 1) := by decide +kernel
theorem dX4_stands_8 : decode cX4_stands 8 = .ok (.iload_n 2, 1) := by decide +kernel
theorem dX4_stands_9 : decode cX4_stands 9 = .ok (.invokevirtual 79, 3) := by decide +kernel
theorem dX4_stands_12 : decode cX4_stands 12 = .ok (.iadd, 1) := by decide +kernel
theorem dX4_stands_13 : decode cX4_stands 13 = .ok (.bipush 60, 2) := by decide +kernel
theorem dX4_stands_15 : decode cX4_stands 15 = .ok (.if_icmp .lt 7, 3) := by decide +kernel
theorem dX4_stands_18 : decode cX4_stands 18 = .ok (.iconst 1, 1) := by decide +kernel
theorem dX4_stands_19 : decode cX4_stands 19 = .ok (.goto 4, 3) := by decide +kernel
theorem dX4_stands_22 : decode cX4_stands 22 = .ok (.iconst 0, 1) := by decide +kernel
theorem dX4_stands_23 : decode cX4_stands 23 = .ok (.ireturn, 1) := by decide +kernel
theorem dX4_losesOf_0 : decode cX4_losesOf 0 = .ok (.aload_n 0, 1) := by decide +kernel
theorem dX4_losesOf_1 : decode cX4_losesOf 1 = .ok (.iload_n 1, 1) := by decide +kernel
theorem dX4_losesOf_2 : decode cX4_losesOf 2 = .ok (.iconst 0, 1) := by decide +kernel
theorem dX4_losesOf_3 : decode cX4_losesOf 3 = .ok (.invokevirtual 65, 3) := by decide +kernel
theorem dX4_losesOf_6 : decode cX4_losesOf 6 = .ok (.tableswitch 47 1 6 #[38, 47, 40, 42, 44, 38], 38) := by decide +kernel
theorem dX4_losesOf_44 : decode cX4_losesOf 44 = .ok (.iconst 2, 1) := by decide +kernel
theorem dX4_losesOf_45 : decode cX4_losesOf 45 = .ok (.ireturn, 1) := by decide +kernel
theorem dX4_losesOf_46 : decode cX4_losesOf 46 = .ok (.iconst 5, 1) := by decide +kernel
theorem dX4_losesOf_47 : decode cX4_losesOf 47 = .ok (.ireturn, 1) := by decide +kernel
theorem dX4_losesOf_48 : decode cX4_losesOf 48 = .ok (.iconst 0, 1) := by decide +kernel
theorem dX4_losesOf_49 : decode cX4_losesOf 49 = .ok (.ireturn, 1) := by decide +kernel
theorem dX4_losesOf_50 : decode cX4_losesOf 50 = .ok (.bipush 20, 2) := by decide +kernel
theorem dX4_losesOf_52 : decode cX4_losesOf 52 = .ok (.ireturn, 1) := by decide +kernel
theorem dX4_losesOf_53 : decode cX4_losesOf 53 = .ok (.bipush 10, 2) := by decide +kernel
theorem dX4_losesOf_55 : decode cX4_losesOf 55 = .ok (.ireturn, 1) := by decide +kernel
theorem dX4_isBetter_0 : decode cX4_isBetter 0 = .ok (.aload_n 0, 1) := by decide +kernel
theorem dX4_isBetter_1 : decode cX4_isBetter 1 = .ok (.iload_n 1, 1) := by decide +kernel
theorem dX4_isBetter_2 : decode cX4_isBetter 2 = .ok (.iconst 0, 1) := by decide +kernel
theorem dX4_isBetter_3 : decode cX4_isBetter 3 = .ok (.invokevirtual 65, 3) := by decide +kernel
theorem dX4_isBetter_6 : decode cX4_isBetter 6 = .ok (.istore 4, 2) := by decide +kernel
theorem dX4_isBetter_8 : decode cX4_isBetter 8 = .ok (.iload 4, 2) := by decide +kernel
theorem dX4_isBetter_10 : decode cX4_isBetter 10 = .ok (.iconst 1, 1) := by decide +kernel
theorem dX4_isBetter_11 : decode cX4_isBetter 11 = .ok (.if_icmp .le 13, 3) := by decide +kernel
theorem dX4_isBetter_14 : decode cX4_isBetter 14 = .ok (.iload 4, 2) := by decide +kernel
theorem dX4_isBetter_16 : decode cX4_isBetter 16 = .ok (.iconst 5, 1) := by decide +kernel
theorem dX4_isBetter_17 : decode cX4_isBetter 17 = .ok (.if_icmp .ge 7, 3) := by decide +kernel
theorem dX4_isBetter_20 : decode cX4_isBetter 20 = .ok (.iconst 1, 1) := by decide +kernel
theorem dX4_isBetter_21 : decode cX4_isBetter 21 = .ok (.goto 4, 3) := by decide +kernel
theorem dX4_isBetter_24 : decode cX4_isBetter 24 = .ok (.iconst 0, 1) := by decide +kernel
theorem dX4_isBetter_25 : decode cX4_isBetter 25 = .ok (.istore 5, 2) := by decide +kernel
theorem dX4_isBetter_27 : decode cX4_isBetter 27 = .ok (.iload_n 3, 1) := by decide +kernel
theorem dX4_isBetter_28 : decode cX4_isBetter 28 = .ok (.ifCond .lt 50, 3) := by decide +kernel
theorem dX4_isBetter_31 : decode cX4_isBetter 31 = .ok (.iload 5, 2) := by decide +kernel
theorem dX4_isBetter_33 : decode cX4_isBetter 33 = .ok (.ifCond .eq 18, 3) := by decide +kernel
theorem dX4_isBetter_36 : decode cX4_isBetter 36 = .ok (.aload_n 0, 1) := by decide +kernel
theorem dX4_isBetter_37 : decode cX4_isBetter 37 = .ok (.iload_n 2, 1) := by decide +kernel
theorem dX4_isBetter_38 : decode cX4_isBetter 38 = .ok (.iconst 1, 1) := by decide +kernel
theorem dX4_isBetter_39 : decode cX4_isBetter 39 = .ok (.invokevirtual 73, 3) := by decide +kernel
theorem dX4_isBetter_42 : decode cX4_isBetter 42 = .ok (.aload_n 0, 1) := by decide +kernel
theorem dX4_isBetter_43 : decode cX4_isBetter 43 = .ok (.iload_n 3, 1) := by decide +kernel
theorem dX4_isBetter_44 : decode cX4_isBetter 44 = .ok (.iconst 1, 1) := by decide +kernel
theorem dX4_isBetter_45 : decode cX4_isBetter 45 = .ok (.invokevirtual 73, 3) := by decide +kernel
theorem dX4_isBetter_48 : decode cX4_isBetter 48 = .ok (.if_icmp .lt 30, 3) := by decide +kernel
theorem dX4_isBetter_51 : decode cX4_isBetter 51 = .ok (.iload 5, 2) := by decide +kernel
theorem dX4_isBetter_53 : decode cX4_isBetter 53 = .ok (.ifCond .ne 29, 3) := by decide +kernel
theorem dX4_isBetter_56 : decode cX4_isBetter 56 = .ok (.iload 4, 2) := by decide +kernel
theorem dX4_isBetter_58 : decode cX4_isBetter 58 = .ok (.bipush 6, 2) := by decide +kernel
theorem dX4_isBetter_60 : decode cX4_isBetter 60 = .ok (.if_icmp .eq 22, 3) := by decide +kernel
theorem dX4_isBetter_63 : decode cX4_isBetter 63 = .ok (.aload_n 0, 1) := by decide +kernel
theorem dX4_isBetter_64 : decode cX4_isBetter 64 = .ok (.iload_n 2, 1) := by decide +kernel
theorem dX4_isBetter_65 : decode cX4_isBetter 65 = .ok (.iconst 0, 1) := by decide +kernel
theorem dX4_isBetter_66 : decode cX4_isBetter 66 = .ok (.invokevirtual 73, 3) := by decide +kernel
theorem dX4_isBetter_69 : decode cX4_isBetter 69 = .ok (.aload_n 0, 1) := by decide +kernel
theorem dX4_isBetter_70 : decode cX4_isBetter 70 = .ok (.iload_n 3, 1) := by decide +kernel
theorem dX4_isBetter_71 : decode cX4_isBetter 71 = .ok (.iconst 0, 1) := by decide +kernel
theorem dX4_isBetter_72 : decode cX4_isBetter 72 = .ok (.invokevirtual 73, 3) := by decide +kernel
theorem dX4_isBetter_75 : decode cX4_isBetter 75 = .ok (.if_icmp .le 7, 3) := by decide +kernel
theorem dX4_isBetter_78 : decode cX4_isBetter 78 = .ok (.iconst 1, 1) := by decide +kernel
theorem dX4_isBetter_79 : decode cX4_isBetter 79 = .ok (.goto 4, 3) := by decide +kernel
theorem dX4_isBetter_82 : decode cX4_isBetter 82 = .ok (.iconst 0, 1) := by decide +kernel
theorem dX4_isBetter_83 : decode cX4_isBetter 83 = .ok (.ireturn, 1) := by decide +kernel
theorem dX4_makesFor_0 : decode cX4_makesFor 0 = .ok (.iconst (-1), 1) := by decide +kernel
theorem dX4_makesFor_1 : decode cX4_makesFor 1 = .ok (.istore_n 2, 1) := by decide +kernel
theorem dX4_makesFor_2 : decode cX4_makesFor 2 = .ok (.iconst 0, 1) := by decide +kernel
theorem dX4_makesFor_3 : decode cX4_makesFor 3 = .ok (.istore_n 3, 1) := by decide +kernel
theorem dX4_makesFor_4 : decode cX4_makesFor 4 = .ok (.iload_n 3, 1) := by decide +kernel
theorem dX4_makesFor_5 : decode cX4_makesFor 5 = .ok (.bipush 10, 2) := by decide +kernel
theorem dX4_makesFor_7 : decode cX4_makesFor 7 = .ok (.if_icmp .ge 34, 3) := by decide +kernel
theorem dX4_makesFor_10 : decode cX4_makesFor 10 = .ok (.aload_n 0, 1) := by decide +kernel
theorem dX4_makesFor_11 : decode cX4_makesFor 11 = .ok (.iload_n 1, 1) := by decide +kernel
theorem dX4_makesFor_12 : decode cX4_makesFor 12 = .ok (.iload_n 3, 1) := by decide +kernel
theorem dX4_makesFor_13 : decode cX4_makesFor 13 = .ok (.invokevirtual 82, 3) := by decide +kernel
theorem dX4_makesFor_16 : decode cX4_makesFor 16 = .ok (.ifCond .eq 17, 3) := by decide +kernel
theorem dX4_makesFor_19 : decode cX4_makesFor 19 = .ok (.aload_n 0, 1) := by decide +kernel
theorem dX4_makesFor_20 : decode cX4_makesFor 20 = .ok (.iload_n 1, 1) := by decide +kernel
theorem dX4_makesFor_21 : decode cX4_makesFor 21 = .ok (.iload_n 3, 1) := by decide +kernel
theorem dX4_makesFor_22 : decode cX4_makesFor 22 = .ok (.iload_n 2, 1) := by decide +kernel
theorem dX4_makesFor_23 : decode cX4_makesFor 23 = .ok (.invokevirtual 86, 3) := by decide +kernel
theorem dX4_makesFor_26 : decode cX4_makesFor 26 = .ok (.ifCond .eq 7, 3) := by decide +kernel
theorem dX4_makesFor_29 : decode cX4_makesFor 29 = .ok (.iload_n 3, 1) := by decide +kernel
theorem dX4_makesFor_30 : decode cX4_makesFor 30 = .ok (.goto 4, 3) := by decide +kernel
theorem dX4_makesFor_33 : decode cX4_makesFor 33 = .ok (.iload_n 2, 1) := by decide +kernel
theorem dX4_makesFor_34 : decode cX4_makesFor 34 = .ok (.istore_n 2, 1) := by decide +kernel
theorem dX4_makesFor_35 : decode cX4_makesFor 35 = .ok (.iinc 3 1, 3) := by decide +kernel
theorem dX4_makesFor_38 : decode cX4_makesFor 38 = .ok (.goto (-34), 3) := by decide +kernel
theorem dX4_makesFor_41 : decode cX4_makesFor 41 = .ok (.iload_n 2, 1) := by decide +kernel
theorem dX4_makesFor_42 : decode cX4_makesFor 42 = .ok (.ireturn, 1) := by decide +kernel
theorem dX4_drifts_0 : decode cX4_drifts 0 = .ok (.iconst 0, 1) := by decide +kernel
theorem dX4_drifts_1 : decode cX4_drifts 1 = .ok (.istore_n 1, 1) := by decide +kernel
theorem dX4_drifts_2 : decode cX4_drifts 2 = .ok (.iload_n 1, 1) := by decide +kernel
theorem dX4_drifts_3 : decode cX4_drifts 3 = .ok (.bipush 10, 2) := by decide +kernel
theorem dX4_drifts_5 : decode cX4_drifts 5 = .ok (.if_icmp .ge 60, 3) := by decide +kernel
theorem dX4_drifts_8 : decode cX4_drifts 8 = .ok (.aload_n 0, 1) := by decide +kernel
theorem dX4_drifts_9 : decode cX4_drifts 9 = .ok (.iload_n 1, 1) := by decide +kernel
theorem dX4_drifts_10 : decode cX4_drifts 10 = .ok (.iconst 0, 1) := by decide +kernel
theorem dX4_drifts_11 : decode cX4_drifts 11 = .ok (.invokevirtual 73, 3) := by decide +kernel
theorem dX4_drifts_14 : decode cX4_drifts 14 = .ok (.aload_n 0, 1) := by decide +kernel
theorem dX4_drifts_15 : decode cX4_drifts 15 = .ok (.getfield 9, 3) := by decide +kernel
theorem dX4_drifts_18 : decode cX4_drifts 18 = .ok (.iconst 4, 1) := by decide +kernel
theorem dX4_drifts_19 : decode cX4_drifts 19 = .ok (.aload_n 0, 1) := by decide +kernel
theorem dX4_drifts_20 : decode cX4_drifts 20 = .ok (.getfield 9, 3) := by decide +kernel
theorem dX4_drifts_23 : decode cX4_drifts 23 = .ok (.iconst 0, 1) := by decide +kernel
theorem dX4_drifts_24 : decode cX4_drifts 24 = .ok (.iaload, 1) := by decide +kernel
theorem dX4_drifts_25 : decode cX4_drifts 25 = .ok (.bipush 6, 2) := by decide +kernel
theorem dX4_drifts_27 : decode cX4_drifts 27 = .ok (.irem, 1) := by decide +kernel
theorem dX4_drifts_28 : decode cX4_drifts 28 = .ok (.iadd, 1) := by decide +kernel
theorem dX4_drifts_29 : decode cX4_drifts 29 = .ok (.iaload, 1) := by decide +kernel
theorem dX4_drifts_30 : decode cX4_drifts 30 = .ok (.isub, 1) := by decide +kernel
theorem dX4_drifts_31 : decode cX4_drifts 31 = .ok (.aload_n 0, 1) := by decide +kernel
theorem dX4_drifts_32 : decode cX4_drifts 32 = .ok (.getfield 9, 3) := by decide +kernel
theorem dX4_drifts_35 : decode cX4_drifts 35 = .ok (.iconst 3, 1) := by decide +kernel
theorem dX4_drifts_36 : decode cX4_drifts 36 = .ok (.iaload, 1) := by decide +kernel
theorem dX4_drifts_37 : decode cX4_drifts 37 = .ok (.iadd, 1) := by decide +kernel
theorem dX4_drifts_38 : decode cX4_drifts 38 = .ok (.istore_n 2, 1) := by decide +kernel
theorem dX4_drifts_39 : decode cX4_drifts 39 = .ok (.aload_n 0, 1) := by decide +kernel
theorem dX4_drifts_40 : decode cX4_drifts 40 = .ok (.iload_n 1, 1) := by decide +kernel
theorem dX4_drifts_41 : decode cX4_drifts 41 = .ok (.iconst 0, 1) := by decide +kernel
theorem dX4_drifts_42 : decode cX4_drifts 42 = .ok (.iload_n 2, 1) := by decide +kernel
theorem dX4_drifts_43 : decode cX4_drifts 43 = .ok (.ifCond .ge 7, 3) := by decide +kernel
theorem dX4_drifts_46 : decode cX4_drifts 46 = .ok (.iconst 0, 1) := by decide +kernel
theorem dX4_drifts_47 : decode cX4_drifts 47 = .ok (.goto 9, 3) := by decide +kernel
theorem dX4_drifts_50 : decode cX4_drifts 50 = .ok (.bipush 99, 2) := by decide +kernel
theorem dX4_drifts_52 : decode cX4_drifts 52 = .ok (.iload_n 2, 1) := by decide +kernel
theorem dX4_drifts_53 : decode cX4_drifts 53 = .ok (.invokestatic 89, 3) := by decide +kernel
theorem dX4_drifts_56 : decode cX4_drifts 56 = .ok (.invokevirtual 56, 3) := by decide +kernel
theorem dX4_drifts_59 : decode cX4_drifts 59 = .ok (.iinc 1 1, 3) := by decide +kernel
theorem dX4_drifts_62 : decode cX4_drifts 62 = .ok (.goto (-60), 3) := by decide +kernel
theorem dX4_drifts_65 : decode cX4_drifts 65 = .ok (.iconst 0, 1) := by decide +kernel
theorem dX4_drifts_66 : decode cX4_drifts 66 = .ok (.istore_n 1, 1) := by decide +kernel
theorem dX4_drifts_67 : decode cX4_drifts 67 = .ok (.iload_n 1, 1) := by decide +kernel
theorem dX4_drifts_68 : decode cX4_drifts 68 = .ok (.bipush 9, 2) := by decide +kernel
theorem dX4_drifts_70 : decode cX4_drifts 70 = .ok (.if_icmp .ge 32, 3) := by decide +kernel
theorem dX4_drifts_73 : decode cX4_drifts 73 = .ok (.aload_n 0, 1) := by decide +kernel
theorem dX4_drifts_74 : decode cX4_drifts 74 = .ok (.getfield 22, 3) := by decide +kernel
theorem dX4_drifts_77 : decode cX4_drifts 77 = .ok (.iload_n 1, 1) := by decide +kernel
theorem dX4_drifts_78 : decode cX4_drifts 78 = .ok (.aload_n 0, 1) := by decide +kernel
theorem dX4_drifts_79 : decode cX4_drifts 79 = .ok (.iload_n 1, 1) := by decide +kernel
theorem dX4_drifts_80 : decode cX4_drifts 80 = .ok (.iconst 0, 1) := by decide +kernel
theorem dX4_drifts_81 : decode cX4_drifts 81 = .ok (.invokevirtual 73, 3) := by decide +kernel
theorem dX4_drifts_84 : decode cX4_drifts 84 = .ok (.aload_n 0, 1) := by decide +kernel
theorem dX4_drifts_85 : decode cX4_drifts 85 = .ok (.iload_n 1, 1) := by decide +kernel
theorem dX4_drifts_86 : decode cX4_drifts 86 = .ok (.iconst 1, 1) := by decide +kernel
theorem dX4_drifts_87 : decode cX4_drifts 87 = .ok (.iadd, 1) := by decide +kernel
theorem dX4_drifts_88 : decode cX4_drifts 88 = .ok (.iconst 0, 1) := by decide +kernel
theorem dX4_drifts_89 : decode cX4_drifts 89 = .ok (.invokevirtual 73, 3) := by decide +kernel
theorem dX4_drifts_92 : decode cX4_drifts 92 = .ok (.isub, 1) := by decide +kernel
theorem dX4_drifts_93 : decode cX4_drifts 93 = .ok (.iconst 4, 1) := by decide +kernel
theorem dX4_drifts_94 : decode cX4_drifts 94 = .ok (.idiv, 1) := by decide +kernel
theorem dX4_drifts_95 : decode cX4_drifts 95 = .ok (.iastore, 1) := by decide +kernel
theorem dX4_drifts_96 : decode cX4_drifts 96 = .ok (.iinc 1 1, 3) := by decide +kernel
theorem dX4_drifts_99 : decode cX4_drifts 99 = .ok (.goto (-32), 3) := by decide +kernel
theorem dX4_drifts_102 : decode cX4_drifts 102 = .ok (.iconst 0, 1) := by decide +kernel
theorem dX4_drifts_103 : decode cX4_drifts 103 = .ok (.istore_n 1, 1) := by decide +kernel
theorem dX4_drifts_104 : decode cX4_drifts 104 = .ok (.iload_n 1, 1) := by decide +kernel
theorem dX4_drifts_105 : decode cX4_drifts 105 = .ok (.bipush 9, 2) := by decide +kernel
theorem dX4_drifts_107 : decode cX4_drifts 107 = .ok (.if_icmp .ge 51, 3) := by decide +kernel
theorem dX4_drifts_110 : decode cX4_drifts 110 = .ok (.aload_n 0, 1) := by decide +kernel
theorem dX4_drifts_111 : decode cX4_drifts 111 = .ok (.iload_n 1, 1) := by decide +kernel
theorem dX4_drifts_112 : decode cX4_drifts 112 = .ok (.iconst 0, 1) := by decide +kernel
theorem dX4_drifts_113 : decode cX4_drifts 113 = .ok (.aload_n 0, 1) := by decide +kernel
theorem dX4_drifts_114 : decode cX4_drifts 114 = .ok (.iload_n 1, 1) := by decide +kernel
theorem dX4_drifts_115 : decode cX4_drifts 115 = .ok (.iconst 0, 1) := by decide +kernel
theorem dX4_drifts_116 : decode cX4_drifts 116 = .ok (.invokevirtual 73, 3) := by decide +kernel
theorem dX4_drifts_119 : decode cX4_drifts 119 = .ok (.aload_n 0, 1) := by decide +kernel
theorem dX4_drifts_120 : decode cX4_drifts 120 = .ok (.getfield 22, 3) := by decide +kernel
theorem dX4_drifts_123 : decode cX4_drifts 123 = .ok (.iload_n 1, 1) := by decide +kernel
theorem dX4_drifts_124 : decode cX4_drifts 124 = .ok (.iaload, 1) := by decide +kernel
theorem dX4_drifts_125 : decode cX4_drifts 125 = .ok (.isub, 1) := by decide +kernel
theorem dX4_drifts_126 : decode cX4_drifts 126 = .ok (.invokevirtual 56, 3) := by decide +kernel
theorem dX4_drifts_129 : decode cX4_drifts 129 = .ok (.aload_n 0, 1) := by decide +kernel
theorem dX4_drifts_130 : decode cX4_drifts 130 = .ok (.iload_n 1, 1) := by decide +kernel
theorem dX4_drifts_131 : decode cX4_drifts 131 = .ok (.iconst 1, 1) := by decide +kernel
theorem dX4_drifts_132 : decode cX4_drifts 132 = .ok (.iadd, 1) := by decide +kernel
theorem dX4_drifts_133 : decode cX4_drifts 133 = .ok (.iconst 0, 1) := by decide +kernel
theorem dX4_drifts_134 : decode cX4_drifts 134 = .ok (.aload_n 0, 1) := by decide +kernel
theorem dX4_drifts_135 : decode cX4_drifts 135 = .ok (.iload_n 1, 1) := by decide +kernel
theorem dX4_drifts_136 : decode cX4_drifts 136 = .ok (.iconst 1, 1) := by decide +kernel
theorem dX4_drifts_137 : decode cX4_drifts 137 = .ok (.iadd, 1) := by decide +kernel
theorem dX4_drifts_138 : decode cX4_drifts 138 = .ok (.iconst 0, 1) := by decide +kernel
theorem dX4_drifts_139 : decode cX4_drifts 139 = .ok (.invokevirtual 73, 3) := by decide +kernel
theorem dX4_drifts_142 : decode cX4_drifts 142 = .ok (.aload_n 0, 1) := by decide +kernel
theorem dX4_drifts_143 : decode cX4_drifts 143 = .ok (.getfield 22, 3) := by decide +kernel
theorem dX4_drifts_146 : decode cX4_drifts 146 = .ok (.iload_n 1, 1) := by decide +kernel
theorem dX4_drifts_147 : decode cX4_drifts 147 = .ok (.iaload, 1) := by decide +kernel
theorem dX4_drifts_148 : decode cX4_drifts 148 = .ok (.iadd, 1) := by decide +kernel
theorem dX4_drifts_149 : decode cX4_drifts 149 = .ok (.invokevirtual 56, 3) := by decide +kernel
theorem dX4_drifts_152 : decode cX4_drifts 152 = .ok (.iinc 1 1, 3) := by decide +kernel
theorem dX4_drifts_155 : decode cX4_drifts 155 = .ok (.goto (-51), 3) := by decide +kernel
theorem dX4_drifts_158 : decode cX4_drifts 158 = .ok (.return_, 1) := by decide +kernel
theorem dX4_moves_0 : decode cX4_moves 0 = .ok (.aload_n 0, 1) := by decide +kernel
theorem dX4_moves_1 : decode cX4_moves 1 = .ok (.iload_n 1, 1) := by decide +kernel
theorem dX4_moves_2 : decode cX4_moves 2 = .ok (.iconst 1, 1) := by decide +kernel
theorem dX4_moves_3 : decode cX4_moves 3 = .ok (.invokevirtual 65, 3) := by decide +kernel
theorem dX4_moves_6 : decode cX4_moves 6 = .ok (.istore_n 2, 1) := by decide +kernel
theorem dX4_moves_7 : decode cX4_moves 7 = .ok (.iload_n 2, 1) := by decide +kernel
theorem dX4_moves_8 : decode cX4_moves 8 = .ok (.ifCond .ge 17, 3) := by decide +kernel
theorem dX4_moves_11 : decode cX4_moves 11 = .ok (.aload_n 0, 1) := by decide +kernel
theorem dX4_moves_12 : decode cX4_moves 12 = .ok (.iload_n 1, 1) := by decide +kernel
theorem dX4_moves_13 : decode cX4_moves 13 = .ok (.iconst 1, 1) := by decide +kernel
theorem dX4_moves_14 : decode cX4_moves 14 = .ok (.aload_n 0, 1) := by decide +kernel
theorem dX4_moves_15 : decode cX4_moves 15 = .ok (.iload_n 1, 1) := by decide +kernel
theorem dX4_moves_16 : decode cX4_moves 16 = .ok (.invokevirtual 92, 3) := by decide +kernel
theorem dX4_moves_19 : decode cX4_moves 19 = .ok (.invokevirtual 95, 3) := by decide +kernel
theorem dX4_moves_22 : decode cX4_moves 22 = .ok (.goto 67, 3) := by decide +kernel
theorem dX4_moves_25 : decode cX4_moves 25 = .ok (.aload_n 0, 1) := by decide +kernel
theorem dX4_moves_26 : decode cX4_moves 26 = .ok (.iload_n 1, 1) := by decide +kernel
theorem dX4_moves_27 : decode cX4_moves 27 = .ok (.iload_n 2, 1) := by decide +kernel
theorem dX4_moves_28 : decode cX4_moves 28 = .ok (.invokevirtual 82, 3) := by decide +kernel
theorem dX4_moves_31 : decode cX4_moves 31 = .ok (.ifCond .ne 58, 3) := by decide +kernel
theorem dX4_moves_34 : decode cX4_moves 34 = .ok (.aload_n 0, 1) := by decide +kernel
theorem dX4_moves_35 : decode cX4_moves 35 = .ok (.iload_n 1, 1) := by decide +kernel
theorem dX4_moves_36 : decode cX4_moves 36 = .ok (.iconst 2, 1) := by decide +kernel
theorem dX4_moves_37 : decode cX4_moves 37 = .ok (.invokevirtual 65, 3) := by decide +kernel
theorem dX4_moves_40 : decode cX4_moves 40 = .ok (.aload_n 0, 1) := by decide +kernel
theorem dX4_moves_41 : decode cX4_moves 41 = .ok (.iload_n 1, 1) := by decide +kernel
theorem dX4_moves_42 : decode cX4_moves 42 = .ok (.invokevirtual 98, 3) := by decide +kernel
theorem dX4_moves_45 : decode cX4_moves 45 = .ok (.isub, 1) := by decide +kernel
theorem dX4_moves_46 : decode cX4_moves 46 = .ok (.istore_n 3, 1) := by decide +kernel
theorem dX4_moves_47 : decode cX4_moves 47 = .ok (.aload_n 0, 1) := by decide +kernel
theorem dX4_moves_48 : decode cX4_moves 48 = .ok (.iload_n 1, 1) := by decide +kernel
theorem dX4_moves_49 : decode cX4_moves 49 = .ok (.iconst 4, 1) := by decide +kernel
theorem dX4_moves_50 : decode cX4_moves 50 = .ok (.sipush 9999, 3) := by decide +kernel
theorem dX4_moves_53 : decode cX4_moves 53 = .ok (.aload_n 0, 1) := by decide +kernel
theorem dX4_moves_54 : decode cX4_moves 54 = .ok (.iload_n 1, 1) := by decide +kernel
theorem dX4_moves_55 : decode cX4_moves 55 = .ok (.iconst 4, 1) := by decide +kernel
theorem dX4_moves_56 : decode cX4_moves 56 = .ok (.invokevirtual 65, 3) := by decide +kernel
theorem dX4_moves_59 : decode cX4_moves 59 = .ok (.iconst 1, 1) := by decide +kernel
theorem dX4_moves_60 : decode cX4_moves 60 = .ok (.iadd, 1) := by decide +kernel
theorem dX4_moves_61 : decode cX4_moves 61 = .ok (.invokestatic 89, 3) := by decide +kernel
theorem dX4_moves_64 : decode cX4_moves 64 = .ok (.invokevirtual 95, 3) := by decide +kernel
theorem dX4_moves_67 : decode cX4_moves 67 = .ok (.aload_n 0, 1) := by decide +kernel
theorem dX4_moves_68 : decode cX4_moves 68 = .ok (.iload_n 1, 1) := by decide +kernel
theorem dX4_moves_69 : decode cX4_moves 69 = .ok (.iconst 2, 1) := by decide +kernel
theorem dX4_moves_70 : decode cX4_moves 70 = .ok (.iload_n 3, 1) := by decide +kernel
theorem dX4_moves_71 : decode cX4_moves 71 = .ok (.ifCond .ge 7, 3) := by decide +kernel
theorem dX4_moves_74 : decode cX4_moves 74 = .ok (.iconst 0, 1) := by decide +kernel
theorem dX4_moves_75 : decode cX4_moves 75 = .ok (.goto 4, 3) := by decide +kernel
theorem dX4_moves_78 : decode cX4_moves 78 = .ok (.iload_n 3, 1) := by decide +kernel
theorem dX4_moves_79 : decode cX4_moves 79 = .ok (.invokevirtual 95, 3) := by decide +kernel
theorem dX4_moves_82 : decode cX4_moves 82 = .ok (.aload_n 0, 1) := by decide +kernel
theorem dX4_moves_83 : decode cX4_moves 83 = .ok (.iload_n 1, 1) := by decide +kernel
theorem dX4_moves_84 : decode cX4_moves 84 = .ok (.iconst 1, 1) := by decide +kernel
theorem dX4_moves_85 : decode cX4_moves 85 = .ok (.iconst (-1), 1) := by decide +kernel
theorem dX4_moves_86 : decode cX4_moves 86 = .ok (.invokevirtual 95, 3) := by decide +kernel
theorem dX4_moves_89 : decode cX4_moves 89 = .ok (.return_, 1) := by decide +kernel
theorem dX4_pays_0 : decode cX4_pays 0 = .ok (.aload_n 0, 1) := by decide +kernel
theorem dX4_pays_1 : decode cX4_pays 1 = .ok (.iload_n 1, 1) := by decide +kernel
theorem dX4_pays_2 : decode cX4_pays 2 = .ok (.iconst 1, 1) := by decide +kernel
theorem dX4_pays_3 : decode cX4_pays 3 = .ok (.invokevirtual 65, 3) := by decide +kernel
theorem dX4_pays_6 : decode cX4_pays 6 = .ok (.istore_n 2, 1) := by decide +kernel
theorem dX4_pays_7 : decode cX4_pays 7 = .ok (.iload_n 2, 1) := by decide +kernel
theorem dX4_pays_8 : decode cX4_pays 8 = .ok (.ifCond .ge 7, 3) := by decide +kernel
theorem dX4_pays_11 : decode cX4_pays 11 = .ok (.iconst (-1), 1) := by decide +kernel
theorem dX4_pays_12 : decode cX4_pays 12 = .ok (.goto 9, 3) := by decide +kernel
theorem dX4_pays_15 : decode cX4_pays 15 = .ok (.aload_n 0, 1) := by decide +kernel
theorem dX4_pays_16 : decode cX4_pays 16 = .ok (.iload_n 2, 1) := by decide +kernel
theorem dX4_pays_17 : decode cX4_pays 17 = .ok (.iconst 2, 1) := by decide +kernel
theorem dX4_pays_18 : decode cX4_pays 18 = .ok (.invokevirtual 73, 3) := by decide +kernel
theorem dX4_pays_21 : decode cX4_pays 21 = .ok (.istore_n 3, 1) := by decide +kernel
theorem dX4_pays_22 : decode cX4_pays 22 = .ok (.iload_n 3, 1) := by decide +kernel
theorem dX4_pays_23 : decode cX4_pays 23 = .ok (.ifCond .lt 61, 3) := by decide +kernel
theorem dX4_pays_26 : decode cX4_pays 26 = .ok (.iload_n 3, 1) := by decide +kernel
theorem dX4_pays_27 : decode cX4_pays 27 = .ok (.iload_n 1, 1) := by decide +kernel
theorem dX4_pays_28 : decode cX4_pays 28 = .ok (.if_icmp .eq 56, 3) := by decide +kernel
theorem dX4_pays_31 : decode cX4_pays 31 = .ok (.aload_n 0, 1) := by decide +kernel
theorem dX4_pays_32 : decode cX4_pays 32 = .ok (.iload_n 2, 1) := by decide +kernel
theorem dX4_pays_33 : decode cX4_pays 33 = .ok (.iconst 1, 1) := by decide +kernel
theorem dX4_pays_34 : decode cX4_pays 34 = .ok (.invokevirtual 73, 3) := by decide +kernel
theorem dX4_pays_37 : decode cX4_pays 37 = .ok (.aload_n 0, 1) := by decide +kernel
theorem dX4_pays_38 : decode cX4_pays 38 = .ok (.iload_n 1, 1) := by decide +kernel
theorem dX4_pays_39 : decode cX4_pays 39 = .ok (.iconst 3, 1) := by decide +kernel
theorem dX4_pays_40 : decode cX4_pays 40 = .ok (.invokevirtual 65, 3) := by decide +kernel
theorem dX4_pays_43 : decode cX4_pays 43 = .ok (.invokestatic 89, 3) := by decide +kernel
theorem dX4_pays_46 : decode cX4_pays 46 = .ok (.istore 4, 2) := by decide +kernel
theorem dX4_pays_48 : decode cX4_pays 48 = .ok (.aload_n 0, 1) := by decide +kernel
theorem dX4_pays_49 : decode cX4_pays 49 = .ok (.iload_n 1, 1) := by decide +kernel
theorem dX4_pays_50 : decode cX4_pays 50 = .ok (.iconst 3, 1) := by decide +kernel
theorem dX4_pays_51 : decode cX4_pays 51 = .ok (.aload_n 0, 1) := by decide +kernel
theorem dX4_pays_52 : decode cX4_pays 52 = .ok (.iload_n 1, 1) := by decide +kernel
theorem dX4_pays_53 : decode cX4_pays 53 = .ok (.iconst 3, 1) := by decide +kernel
theorem dX4_pays_54 : decode cX4_pays 54 = .ok (.invokevirtual 65, 3) := by decide +kernel
theorem dX4_pays_57 : decode cX4_pays 57 = .ok (.iload 4, 2) := by decide +kernel
theorem dX4_pays_59 : decode cX4_pays 59 = .ok (.isub, 1) := by decide +kernel
theorem dX4_pays_60 : decode cX4_pays 60 = .ok (.invokevirtual 95, 3) := by decide +kernel
theorem dX4_pays_63 : decode cX4_pays 63 = .ok (.aload_n 0, 1) := by decide +kernel
theorem dX4_pays_64 : decode cX4_pays 64 = .ok (.iload_n 3, 1) := by decide +kernel
theorem dX4_pays_65 : decode cX4_pays 65 = .ok (.iconst 3, 1) := by decide +kernel
theorem dX4_pays_66 : decode cX4_pays 66 = .ok (.sipush 9999, 3) := by decide +kernel
theorem dX4_pays_69 : decode cX4_pays 69 = .ok (.aload_n 0, 1) := by decide +kernel
theorem dX4_pays_70 : decode cX4_pays 70 = .ok (.iload_n 3, 1) := by decide +kernel
theorem dX4_pays_71 : decode cX4_pays 71 = .ok (.iconst 3, 1) := by decide +kernel
theorem dX4_pays_72 : decode cX4_pays 72 = .ok (.invokevirtual 65, 3) := by decide +kernel
theorem dX4_pays_75 : decode cX4_pays 75 = .ok (.iload 4, 2) := by decide +kernel
theorem dX4_pays_77 : decode cX4_pays 77 = .ok (.iadd, 1) := by decide +kernel
theorem dX4_pays_78 : decode cX4_pays 78 = .ok (.invokestatic 89, 3) := by decide +kernel
theorem dX4_pays_81 : decode cX4_pays 81 = .ok (.invokevirtual 95, 3) := by decide +kernel
theorem dX4_pays_84 : decode cX4_pays 84 = .ok (.return_, 1) := by decide +kernel
theorem dX4_finds_0 : decode cX4_finds 0 = .ok (.aload_n 0, 1) := by decide +kernel
theorem dX4_finds_1 : decode cX4_finds 1 = .ok (.iload_n 1, 1) := by decide +kernel
theorem dX4_finds_2 : decode cX4_finds 2 = .ok (.iconst 1, 1) := by decide +kernel
theorem dX4_finds_3 : decode cX4_finds 3 = .ok (.invokevirtual 65, 3) := by decide +kernel
theorem dX4_finds_6 : decode cX4_finds 6 = .ok (.istore_n 2, 1) := by decide +kernel
theorem dX4_finds_7 : decode cX4_finds 7 = .ok (.aload_n 0, 1) := by decide +kernel
theorem dX4_finds_8 : decode cX4_finds 8 = .ok (.iload_n 1, 1) := by decide +kernel
theorem dX4_finds_9 : decode cX4_finds 9 = .ok (.iconst 2, 1) := by decide +kernel
theorem dX4_finds_10 : decode cX4_finds 10 = .ok (.invokevirtual 65, 3) := by decide +kernel
theorem dX4_finds_13 : decode cX4_finds 13 = .ok (.istore_n 3, 1) := by decide +kernel
theorem dX4_finds_14 : decode cX4_finds 14 = .ok (.iconst 0, 1) := by decide +kernel
theorem dX4_finds_15 : decode cX4_finds 15 = .ok (.istore 4, 2) := by decide +kernel
theorem dX4_finds_17 : decode cX4_finds 17 = .ok (.iload 4, 2) := by decide +kernel
theorem dX4_finds_19 : decode cX4_finds 19 = .ok (.aload_n 0, 1) := by decide +kernel
theorem dX4_finds_20 : decode cX4_finds 20 = .ok (.getfield 9, 3) := by decide +kernel
theorem dX4_finds_23 : decode cX4_finds 23 = .ok (.iconst 1, 1) := by decide +kernel
theorem dX4_finds_24 : decode cX4_finds 24 = .ok (.iaload, 1) := by decide +kernel
theorem dX4_finds_25 : decode cX4_finds 25 = .ok (.if_icmp .ge 47, 3) := by decide +kernel
theorem dX4_finds_28 : decode cX4_finds 28 = .ok (.iload_n 2, 1) := by decide +kernel
theorem dX4_finds_29 : decode cX4_finds 29 = .ok (.ifCond .lt 43, 3) := by decide +kernel
theorem dX4_finds_32 : decode cX4_finds 32 = .ok (.aload_n 0, 1) := by decide +kernel
theorem dX4_finds_33 : decode cX4_finds 33 = .ok (.iload 4, 2) := by decide +kernel
theorem dX4_finds_35 : decode cX4_finds 35 = .ok (.iconst 1, 1) := by decide +kernel
theorem dX4_finds_36 : decode cX4_finds 36 = .ok (.invokevirtual 65, 3) := by decide +kernel
theorem dX4_finds_39 : decode cX4_finds 39 = .ok (.iload_n 2, 1) := by decide +kernel
theorem dX4_finds_40 : decode cX4_finds 40 = .ok (.if_icmp .ne 24, 3) := by decide +kernel
theorem dX4_finds_43 : decode cX4_finds 43 = .ok (.aload_n 0, 1) := by decide +kernel
theorem dX4_finds_44 : decode cX4_finds 44 = .ok (.iload 4, 2) := by decide +kernel
theorem dX4_finds_46 : decode cX4_finds 46 = .ok (.iconst 2, 1) := by decide +kernel
theorem dX4_finds_47 : decode cX4_finds 47 = .ok (.invokevirtual 65, 3) := by decide +kernel
theorem dX4_finds_50 : decode cX4_finds 50 = .ok (.iload_n 3, 1) := by decide +kernel
theorem dX4_finds_51 : decode cX4_finds 51 = .ok (.if_icmp .le 13, 3) := by decide +kernel
theorem dX4_finds_54 : decode cX4_finds 54 = .ok (.aload_n 0, 1) := by decide +kernel
theorem dX4_finds_55 : decode cX4_finds 55 = .ok (.iload 4, 2) := by decide +kernel
theorem dX4_finds_57 : decode cX4_finds 57 = .ok (.iconst 2, 1) := by decide +kernel
theorem dX4_finds_58 : decode cX4_finds 58 = .ok (.invokevirtual 65, 3) := by decide +kernel
theorem dX4_finds_61 : decode cX4_finds 61 = .ok (.goto 4, 3) := by decide +kernel
theorem dX4_finds_64 : decode cX4_finds 64 = .ok (.iload_n 3, 1) := by decide +kernel
theorem dX4_finds_65 : decode cX4_finds 65 = .ok (.istore_n 3, 1) := by decide +kernel
theorem dX4_finds_66 : decode cX4_finds 66 = .ok (.iinc 4 1, 3) := by decide +kernel
theorem dX4_finds_69 : decode cX4_finds 69 = .ok (.goto (-52), 3) := by decide +kernel
theorem dX4_finds_72 : decode cX4_finds 72 = .ok (.aload_n 0, 1) := by decide +kernel
theorem dX4_finds_73 : decode cX4_finds 73 = .ok (.getfield 25, 3) := by decide +kernel
theorem dX4_finds_76 : decode cX4_finds 76 = .ok (.iload_n 1, 1) := by decide +kernel
theorem dX4_finds_77 : decode cX4_finds 77 = .ok (.aload_n 0, 1) := by decide +kernel
theorem dX4_finds_78 : decode cX4_finds 78 = .ok (.iload_n 1, 1) := by decide +kernel
theorem dX4_finds_79 : decode cX4_finds 79 = .ok (.iconst 2, 1) := by decide +kernel
theorem dX4_finds_80 : decode cX4_finds 80 = .ok (.invokevirtual 65, 3) := by decide +kernel
theorem dX4_finds_83 : decode cX4_finds 83 = .ok (.iload_n 3, 1) := by decide +kernel
theorem dX4_finds_84 : decode cX4_finds 84 = .ok (.aload_n 0, 1) := by decide +kernel
theorem dX4_finds_85 : decode cX4_finds 85 = .ok (.iload_n 1, 1) := by decide +kernel
theorem dX4_finds_86 : decode cX4_finds 86 = .ok (.iconst 2, 1) := by decide +kernel
theorem dX4_finds_87 : decode cX4_finds 87 = .ok (.invokevirtual 65, 3) := by decide +kernel
theorem dX4_finds_90 : decode cX4_finds 90 = .ok (.isub, 1) := by decide +kernel
theorem dX4_finds_91 : decode cX4_finds 91 = .ok (.iconst 4, 1) := by decide +kernel
theorem dX4_finds_92 : decode cX4_finds 92 = .ok (.idiv, 1) := by decide +kernel
theorem dX4_finds_93 : decode cX4_finds 93 = .ok (.iadd, 1) := by decide +kernel
theorem dX4_finds_94 : decode cX4_finds 94 = .ok (.iastore, 1) := by decide +kernel
theorem dX4_finds_95 : decode cX4_finds 95 = .ok (.return_, 1) := by decide +kernel
theorem dX4_isAway_0 : decode cX4_isAway 0 = .ok (.aload_n 0, 1) := by decide +kernel
theorem dX4_isAway_1 : decode cX4_isAway 1 = .ok (.getfield 101, 3) := by decide +kernel
theorem dX4_isAway_4 : decode cX4_isAway 4 = .ok (.iload_n 1, 1) := by decide +kernel
theorem dX4_isAway_5 : decode cX4_isAway 5 = .ok (.ishr, 1) := by decide +kernel
theorem dX4_isAway_6 : decode cX4_isAway 6 = .ok (.iconst 1, 1) := by decide +kernel
theorem dX4_isAway_7 : decode cX4_isAway 7 = .ok (.iand, 1) := by decide +kernel
theorem dX4_isAway_8 : decode cX4_isAway 8 = .ok (.iconst 1, 1) := by decide +kernel
theorem dX4_isAway_9 : decode cX4_isAway 9 = .ok (.if_icmp .ne 7, 3) := by decide +kernel
theorem dX4_isAway_12 : decode cX4_isAway 12 = .ok (.iconst 1, 1) := by decide +kernel
theorem dX4_isAway_13 : decode cX4_isAway 13 = .ok (.goto 4, 3) := by decide +kernel
theorem dX4_isAway_16 : decode cX4_isAway 16 = .ok (.iconst 0, 1) := by decide +kernel
theorem dX4_isAway_17 : decode cX4_isAway 17 = .ok (.ireturn, 1) := by decide +kernel
theorem dX4_day_0 : decode cX4_day 0 = .ok (.aload_n 0, 1) := by decide +kernel
theorem dX4_day_1 : decode cX4_day 1 = .ok (.invokevirtual 105, 3) := by decide +kernel
theorem dX4_day_4 : decode cX4_day 4 = .ok (.iconst 0, 1) := by decide +kernel
theorem dX4_day_5 : decode cX4_day 5 = .ok (.istore_n 1, 1) := by decide +kernel
theorem dX4_day_6 : decode cX4_day 6 = .ok (.iload_n 1, 1) := by decide +kernel
theorem dX4_day_7 : decode cX4_day 7 = .ok (.aload_n 0, 1) := by decide +kernel
theorem dX4_day_8 : decode cX4_day 8 = .ok (.getfield 9, 3) := by decide +kernel
theorem dX4_day_11 : decode cX4_day 11 = .ok (.iconst 1, 1) := by decide +kernel
theorem dX4_day_12 : decode cX4_day 12 = .ok (.iaload, 1) := by decide +kernel
theorem dX4_day_13 : decode cX4_day 13 = .ok (.if_icmp .ge 22, 3) := by decide +kernel
theorem dX4_day_16 : decode cX4_day 16 = .ok (.aload_n 0, 1) := by decide +kernel
theorem dX4_day_17 : decode cX4_day 17 = .ok (.iload_n 1, 1) := by decide +kernel
theorem dX4_day_18 : decode cX4_day 18 = .ok (.invokevirtual 108, 3) := by decide +kernel
theorem dX4_day_21 : decode cX4_day 21 = .ok (.ifCond .ne 8, 3) := by decide +kernel
theorem dX4_day_24 : decode cX4_day 24 = .ok (.aload_n 0, 1) := by decide +kernel
theorem dX4_day_25 : decode cX4_day 25 = .ok (.iload_n 1, 1) := by decide +kernel
theorem dX4_day_26 : decode cX4_day 26 = .ok (.invokevirtual 112, 3) := by decide +kernel
theorem dX4_day_29 : decode cX4_day 29 = .ok (.iinc 1 1, 3) := by decide +kernel
theorem dX4_day_32 : decode cX4_day 32 = .ok (.goto (-26), 3) := by decide +kernel
theorem dX4_day_35 : decode cX4_day 35 = .ok (.iconst 0, 1) := by decide +kernel
theorem dX4_day_36 : decode cX4_day 36 = .ok (.istore_n 1, 1) := by decide +kernel
theorem dX4_day_37 : decode cX4_day 37 = .ok (.iload_n 1, 1) := by decide +kernel
theorem dX4_day_38 : decode cX4_day 38 = .ok (.aload_n 0, 1) := by decide +kernel
theorem dX4_day_39 : decode cX4_day 39 = .ok (.getfield 9, 3) := by decide +kernel
theorem dX4_day_42 : decode cX4_day 42 = .ok (.iconst 1, 1) := by decide +kernel
theorem dX4_day_43 : decode cX4_day 43 = .ok (.iaload, 1) := by decide +kernel
theorem dX4_day_44 : decode cX4_day 44 = .ok (.if_icmp .ge 14, 3) := by decide +kernel
theorem dX4_day_47 : decode cX4_day 47 = .ok (.aload_n 0, 1) := by decide +kernel
theorem dX4_day_48 : decode cX4_day 48 = .ok (.iload_n 1, 1) := by decide +kernel
theorem dX4_day_49 : decode cX4_day 49 = .ok (.invokevirtual 116, 3) := by decide +kernel
theorem dX4_day_52 : decode cX4_day 52 = .ok (.iinc 1 1, 3) := by decide +kernel
theorem dX4_day_55 : decode cX4_day 55 = .ok (.goto (-18), 3) := by decide +kernel
theorem dX4_day_58 : decode cX4_day 58 = .ok (.iconst 0, 1) := by decide +kernel
theorem dX4_day_59 : decode cX4_day 59 = .ok (.istore_n 1, 1) := by decide +kernel
theorem dX4_day_60 : decode cX4_day 60 = .ok (.iload_n 1, 1) := by decide +kernel
theorem dX4_day_61 : decode cX4_day 61 = .ok (.aload_n 0, 1) := by decide +kernel
theorem dX4_day_62 : decode cX4_day 62 = .ok (.getfield 9, 3) := by decide +kernel
theorem dX4_day_65 : decode cX4_day 65 = .ok (.iconst 1, 1) := by decide +kernel
theorem dX4_day_66 : decode cX4_day 66 = .ok (.iaload, 1) := by decide +kernel
theorem dX4_day_67 : decode cX4_day 67 = .ok (.if_icmp .ge 14, 3) := by decide +kernel
theorem dX4_day_70 : decode cX4_day 70 = .ok (.aload_n 0, 1) := by decide +kernel
theorem dX4_day_71 : decode cX4_day 71 = .ok (.iload_n 1, 1) := by decide +kernel
theorem dX4_day_72 : decode cX4_day 72 = .ok (.invokevirtual 119, 3) := by decide +kernel
theorem dX4_day_75 : decode cX4_day 75 = .ok (.iinc 1 1, 3) := by decide +kernel
theorem dX4_day_78 : decode cX4_day 78 = .ok (.goto (-18), 3) := by decide +kernel
theorem dX4_day_81 : decode cX4_day 81 = .ok (.iconst 0, 1) := by decide +kernel
theorem dX4_day_82 : decode cX4_day 82 = .ok (.istore_n 1, 1) := by decide +kernel
theorem dX4_day_83 : decode cX4_day 83 = .ok (.iload_n 1, 1) := by decide +kernel
theorem dX4_day_84 : decode cX4_day 84 = .ok (.aload_n 0, 1) := by decide +kernel
theorem dX4_day_85 : decode cX4_day 85 = .ok (.getfield 9, 3) := by decide +kernel
theorem dX4_day_88 : decode cX4_day 88 = .ok (.iconst 1, 1) := by decide +kernel
theorem dX4_day_89 : decode cX4_day 89 = .ok (.iaload, 1) := by decide +kernel
theorem dX4_day_90 : decode cX4_day 90 = .ok (.if_icmp .ge 21, 3) := by decide +kernel
theorem dX4_day_93 : decode cX4_day 93 = .ok (.aload_n 0, 1) := by decide +kernel
theorem dX4_day_94 : decode cX4_day 94 = .ok (.iload_n 1, 1) := by decide +kernel
theorem dX4_day_95 : decode cX4_day 95 = .ok (.iconst 2, 1) := by decide +kernel
theorem dX4_day_96 : decode cX4_day 96 = .ok (.aload_n 0, 1) := by decide +kernel
theorem dX4_day_97 : decode cX4_day 97 = .ok (.getfield 25, 3) := by decide +kernel
theorem dX4_day_100 : decode cX4_day 100 = .ok (.iload_n 1, 1) := by decide +kernel
theorem dX4_day_101 : decode cX4_day 101 = .ok (.iaload, 1) := by decide +kernel
theorem dX4_day_102 : decode cX4_day 102 = .ok (.invokevirtual 95, 3) := by decide +kernel
theorem dX4_day_105 : decode cX4_day 105 = .ok (.iinc 1 1, 3) := by decide +kernel
theorem dX4_day_108 : decode cX4_day 108 = .ok (.goto (-25), 3) := by decide +kernel
theorem dX4_day_111 : decode cX4_day 111 = .ok (.aload_n 0, 1) := by decide +kernel
theorem dX4_day_112 : decode cX4_day 112 = .ok (.getfield 9, 3) := by decide +kernel
theorem dX4_day_115 : decode cX4_day 115 = .ok (.iconst 0, 1) := by decide +kernel
theorem dX4_day_116 : decode cX4_day 116 = .ok (.ldc 122, 2) := by decide +kernel
theorem dX4_day_118 : decode cX4_day 118 = .ok (.aload_n 0, 1) := by decide +kernel
theorem dX4_day_119 : decode cX4_day 119 = .ok (.getfield 9, 3) := by decide +kernel
theorem dX4_day_122 : decode cX4_day 122 = .ok (.iconst 0, 1) := by decide +kernel
theorem dX4_day_123 : decode cX4_day 123 = .ok (.iaload, 1) := by decide +kernel
theorem dX4_day_124 : decode cX4_day 124 = .ok (.iconst 1, 1) := by decide +kernel
theorem dX4_day_125 : decode cX4_day 125 = .ok (.iadd, 1) := by decide +kernel
theorem dX4_day_126 : decode cX4_day 126 = .ok (.invokestatic 89, 3) := by decide +kernel
theorem dX4_day_129 : decode cX4_day 129 = .ok (.iastore, 1) := by decide +kernel
theorem dX4_day_130 : decode cX4_day 130 = .ok (.return_, 1) := by decide +kernel
theorem dX4_goes_0 : decode cX4_goes 0 = .ok (.iconst 0, 1) := by decide +kernel
theorem dX4_goes_1 : decode cX4_goes 1 = .ok (.istore_n 2, 1) := by decide +kernel
theorem dX4_goes_2 : decode cX4_goes 2 = .ok (.iload_n 2, 1) := by decide +kernel
theorem dX4_goes_3 : decode cX4_goes 3 = .ok (.iload_n 1, 1) := by decide +kernel
theorem dX4_goes_4 : decode cX4_goes 4 = .ok (.if_icmp .ge 13, 3) := by decide +kernel
theorem dX4_goes_7 : decode cX4_goes 7 = .ok (.aload_n 0, 1) := by decide +kernel
theorem dX4_goes_8 : decode cX4_goes 8 = .ok (.invokevirtual 123, 3) := by decide +kernel
theorem dX4_goes_11 : decode cX4_goes 11 = .ok (.iinc 2 1, 3) := by decide +kernel
theorem dX4_goes_14 : decode cX4_goes 14 = .ok (.goto (-12), 3) := by decide +kernel
theorem dX4_goes_17 : decode cX4_goes 17 = .ok (.return_, 1) := by decide +kernel
theorem dX4_lot_0 : decode cX4_lot 0 = .ok (.iload_n 1, 1) := by decide +kernel
theorem dX4_lot_1 : decode cX4_lot 1 = .ok (.invokestatic 126, 3) := by decide +kernel
theorem dX4_lot_4 : decode cX4_lot 4 = .ok (.ifCond .eq 56, 3) := by decide +kernel
theorem dX4_lot_7 : decode cX4_lot 7 = .ok (.iload_n 2, 1) := by decide +kernel
theorem dX4_lot_8 : decode cX4_lot 8 = .ok (.iconst 0, 1) := by decide +kernel
theorem dX4_lot_9 : decode cX4_lot 9 = .ok (.iconst 2, 1) := by decide +kernel
theorem dX4_lot_10 : decode cX4_lot 10 = .ok (.invokestatic 61, 3) := by decide +kernel
theorem dX4_lot_13 : decode cX4_lot 13 = .ok (.ifCond .eq 47, 3) := by decide +kernel
theorem dX4_lot_16 : decode cX4_lot 16 = .ok (.iload_n 3, 1) := by decide +kernel
theorem dX4_lot_17 : decode cX4_lot 17 = .ok (.iload_n 2, 1) := by decide +kernel
theorem dX4_lot_18 : decode cX4_lot 18 = .ok (.iconst 2, 1) := by decide +kernel
theorem dX4_lot_19 : decode cX4_lot 19 = .ok (.if_icmp .ne 7, 3) := by decide +kernel
theorem dX4_lot_22 : decode cX4_lot 22 = .ok (.iconst (-1), 1) := by decide +kernel
theorem dX4_lot_23 : decode cX4_lot 23 = .ok (.goto 4, 3) := by decide +kernel
theorem dX4_lot_26 : decode cX4_lot 26 = .ok (.iconst 0, 1) := by decide +kernel
theorem dX4_lot_27 : decode cX4_lot 27 = .ok (.iload_n 2, 1) := by decide +kernel
theorem dX4_lot_28 : decode cX4_lot 28 = .ok (.ifCond .ne 8, 3) := by decide +kernel
theorem dX4_lot_31 : decode cX4_lot 31 = .ok (.bipush 99, 2) := by decide +kernel
theorem dX4_lot_33 : decode cX4_lot 33 = .ok (.goto 21, 3) := by decide +kernel
theorem dX4_lot_36 : decode cX4_lot 36 = .ok (.iload_n 2, 1) := by decide +kernel
theorem dX4_lot_37 : decode cX4_lot 37 = .ok (.iconst 1, 1) := by decide +kernel
theorem dX4_lot_38 : decode cX4_lot 38 = .ok (.if_icmp .ne 8, 3) := by decide +kernel
theorem dX4_lot_41 : decode cX4_lot 41 = .ok (.bipush 20, 2) := by decide +kernel
theorem dX4_lot_43 : decode cX4_lot 43 = .ok (.goto 11, 3) := by decide +kernel
theorem dX4_lot_46 : decode cX4_lot 46 = .ok (.aload_n 0, 1) := by decide +kernel
theorem dX4_lot_47 : decode cX4_lot 47 = .ok (.getfield 9, 3) := by decide +kernel
theorem dX4_lot_50 : decode cX4_lot 50 = .ok (.iconst 1, 1) := by decide +kernel
theorem dX4_lot_51 : decode cX4_lot 51 = .ok (.iaload, 1) := by decide +kernel
theorem dX4_lot_52 : decode cX4_lot 52 = .ok (.iconst 1, 1) := by decide +kernel
theorem dX4_lot_53 : decode cX4_lot 53 = .ok (.isub, 1) := by decide +kernel
theorem dX4_lot_54 : decode cX4_lot 54 = .ok (.invokestatic 61, 3) := by decide +kernel
theorem dX4_lot_57 : decode cX4_lot 57 = .ok (.ifCond .ne 9, 3) := by decide +kernel
theorem dX4_lot_60 : decode cX4_lot 60 = .ok (.aload_n 0, 1) := by decide +kernel
theorem dX4_lot_61 : decode cX4_lot 61 = .ok (.iconst 0, 1) := by decide +kernel
theorem dX4_lot_62 : decode cX4_lot 62 = .ok (.invokevirtual 129, 3) := by decide +kernel
theorem dX4_lot_65 : decode cX4_lot 65 = .ok (.ireturn, 1) := by decide +kernel
theorem dX4_lot_66 : decode cX4_lot 66 = .ok (.aload_n 0, 1) := by decide +kernel
theorem dX4_lot_67 : decode cX4_lot 67 = .ok (.iload_n 1, 1) := by decide +kernel
theorem dX4_lot_68 : decode cX4_lot 68 = .ok (.iload_n 2, 1) := by decide +kernel
theorem dX4_lot_69 : decode cX4_lot 69 = .ok (.invokevirtual 73, 3) := by decide +kernel
theorem dX4_lot_72 : decode cX4_lot 72 = .ok (.istore 4, 2) := by decide +kernel
theorem dX4_lot_74 : decode cX4_lot 74 = .ok (.aload_n 0, 1) := by decide +kernel
theorem dX4_lot_75 : decode cX4_lot 75 = .ok (.iload_n 1, 1) := by decide +kernel
theorem dX4_lot_76 : decode cX4_lot 76 = .ok (.iload_n 2, 1) := by decide +kernel
theorem dX4_lot_77 : decode cX4_lot 77 = .ok (.iload_n 3, 1) := by decide +kernel
theorem dX4_lot_78 : decode cX4_lot 78 = .ok (.invokevirtual 56, 3) := by decide +kernel
theorem dX4_lot_81 : decode cX4_lot 81 = .ok (.iload 4, 2) := by decide +kernel
theorem dX4_lot_83 : decode cX4_lot 83 = .ok (.ireturn, 1) := by decide +kernel
theorem dX4_standing_0 : decode cX4_standing 0 = .ok (.iconst 0, 1) := by decide +kernel
theorem dX4_standing_1 : decode cX4_standing 1 = .ok (.istore_n 2, 1) := by decide +kernel
theorem dX4_standing_2 : decode cX4_standing 2 = .ok (.iconst 0, 1) := by decide +kernel
theorem dX4_standing_3 : decode cX4_standing 3 = .ok (.istore_n 3, 1) := by decide +kernel
theorem dX4_standing_4 : decode cX4_standing 4 = .ok (.iload_n 3, 1) := by decide +kernel
theorem dX4_standing_5 : decode cX4_standing 5 = .ok (.aload_n 0, 1) := by decide +kernel
theorem dX4_standing_6 : decode cX4_standing 6 = .ok (.getfield 9, 3) := by decide +kernel
theorem dX4_standing_9 : decode cX4_standing 9 = .ok (.iconst 1, 1) := by decide +kernel
theorem dX4_standing_10 : decode cX4_standing 10 = .ok (.iaload, 1) := by decide +kernel
theorem dX4_standing_11 : decode cX4_standing 11 = .ok (.if_icmp .ge 28, 3) := by decide +kernel
theorem dX4_standing_14 : decode cX4_standing 14 = .ok (.iload_n 2, 1) := by decide +kernel
theorem dX4_standing_15 : decode cX4_standing 15 = .ok (.aload_n 0, 1) := by decide +kernel
theorem dX4_standing_16 : decode cX4_standing 16 = .ok (.iload_n 3, 1) := by decide +kernel
theorem dX4_standing_17 : decode cX4_standing 17 = .ok (.iload_n 1, 1) := by decide +kernel
theorem dX4_standing_18 : decode cX4_standing 18 = .ok (.invokevirtual 82, 3) := by decide +kernel
theorem dX4_standing_21 : decode cX4_standing 21 = .ok (.ifCond .eq 9, 3) := by decide +kernel
theorem dX4_standing_24 : decode cX4_standing 24 = .ok (.iconst 1, 1) := by decide +kernel
theorem dX4_standing_25 : decode cX4_standing 25 = .ok (.iload_n 3, 1) := by decide +kernel
theorem dX4_standing_26 : decode cX4_standing 26 = .ok (.ishl, 1) := by decide +kernel
theorem dX4_standing_27 : decode cX4_standing 27 = .ok (.goto 4, 3) := by decide +kernel
theorem dX4_standing_30 : decode cX4_standing 30 = .ok (.iconst 0, 1) := by decide +kernel
theorem dX4_standing_31 : decode cX4_standing 31 = .ok (.ior, 1) := by decide +kernel
theorem dX4_standing_32 : decode cX4_standing 32 = .ok (.istore_n 2, 1) := by decide +kernel
theorem dX4_standing_33 : decode cX4_standing 33 = .ok (.iinc 3 1, 3) := by decide +kernel
theorem dX4_standing_36 : decode cX4_standing 36 = .ok (.goto (-32), 3) := by decide +kernel
theorem dX4_standing_39 : decode cX4_standing 39 = .ok (.iload_n 2, 1) := by decide +kernel
theorem dX4_standing_40 : decode cX4_standing 40 = .ok (.ireturn, 1) := by decide +kernel
theorem dX4_lotOf_0 : decode cX4_lotOf 0 = .ok (.iload_n 1, 1) := by decide +kernel
theorem dX4_lotOf_1 : decode cX4_lotOf 1 = .ok (.invokestatic 126, 3) := by decide +kernel
theorem dX4_lotOf_4 : decode cX4_lotOf 4 = .ok (.ifCond .eq 12, 3) := by decide +kernel
theorem dX4_lotOf_7 : decode cX4_lotOf 7 = .ok (.iload_n 2, 1) := by decide +kernel
theorem dX4_lotOf_8 : decode cX4_lotOf 8 = .ok (.iconst 0, 1) := by decide +kernel
theorem dX4_lotOf_9 : decode cX4_lotOf 9 = .ok (.iconst 4, 1) := by decide +kernel
theorem dX4_lotOf_10 : decode cX4_lotOf 10 = .ok (.invokestatic 61, 3) := by decide +kernel
theorem dX4_lotOf_13 : decode cX4_lotOf 13 = .ok (.ifCond .ne 9, 3) := by decide +kernel
theorem dX4_lotOf_16 : decode cX4_lotOf 16 = .ok (.aload_n 0, 1) := by decide +kernel
theorem dX4_lotOf_17 : decode cX4_lotOf 17 = .ok (.iconst 0, 1) := by decide +kernel
theorem dX4_lotOf_18 : decode cX4_lotOf 18 = .ok (.invokevirtual 129, 3) := by decide +kernel
theorem dX4_lotOf_21 : decode cX4_lotOf 21 = .ok (.ireturn, 1) := by decide +kernel
theorem dX4_lotOf_22 : decode cX4_lotOf 22 = .ok (.iload_n 2, 1) := by decide +kernel
theorem dX4_lotOf_23 : decode cX4_lotOf 23 = .ok (.iconst 3, 1) := by decide +kernel
theorem dX4_lotOf_24 : decode cX4_lotOf 24 = .ok (.if_icmp .ge 12, 3) := by decide +kernel
theorem dX4_lotOf_27 : decode cX4_lotOf 27 = .ok (.aload_n 0, 1) := by decide +kernel
theorem dX4_lotOf_28 : decode cX4_lotOf 28 = .ok (.iload_n 1, 1) := by decide +kernel
theorem dX4_lotOf_29 : decode cX4_lotOf 29 = .ok (.iload_n 2, 1) := by decide +kernel
theorem dX4_lotOf_30 : decode cX4_lotOf 30 = .ok (.invokevirtual 73, 3) := by decide +kernel
theorem dX4_lotOf_33 : decode cX4_lotOf 33 = .ok (.goto 21, 3) := by decide +kernel
theorem dX4_lotOf_36 : decode cX4_lotOf 36 = .ok (.iload_n 2, 1) := by decide +kernel
theorem dX4_lotOf_37 : decode cX4_lotOf 37 = .ok (.iconst 3, 1) := by decide +kernel
theorem dX4_lotOf_38 : decode cX4_lotOf 38 = .ok (.if_icmp .ne 11, 3) := by decide +kernel
theorem dX4_lotOf_41 : decode cX4_lotOf 41 = .ok (.aload_n 0, 1) := by decide +kernel
theorem dX4_lotOf_42 : decode cX4_lotOf 42 = .ok (.iload_n 1, 1) := by decide +kernel
theorem dX4_lotOf_43 : decode cX4_lotOf 43 = .ok (.invokevirtual 69, 3) := by decide +kernel
theorem dX4_lotOf_46 : decode cX4_lotOf 46 = .ok (.goto 8, 3) := by decide +kernel
theorem dX4_lotOf_49 : decode cX4_lotOf 49 = .ok (.aload_n 0, 1) := by decide +kernel
theorem dX4_lotOf_50 : decode cX4_lotOf 50 = .ok (.iload_n 1, 1) := by decide +kernel
theorem dX4_lotOf_51 : decode cX4_lotOf 51 = .ok (.invokevirtual 132, 3) := by decide +kernel
theorem dX4_lotOf_54 : decode cX4_lotOf 54 = .ok (.ireturn, 1) := by decide +kernel
theorem dX4_sun_0 : decode cX4_sun 0 = .ok (.iload_n 1, 1) := by decide +kernel
theorem dX4_sun_1 : decode cX4_sun 1 = .ok (.iconst 0, 1) := by decide +kernel
theorem dX4_sun_2 : decode cX4_sun 2 = .ok (.iconst 5, 1) := by decide +kernel
theorem dX4_sun_3 : decode cX4_sun 3 = .ok (.invokestatic 61, 3) := by decide +kernel
theorem dX4_sun_6 : decode cX4_sun 6 = .ok (.ifCond .eq 13, 3) := by decide +kernel
theorem dX4_sun_9 : decode cX4_sun 9 = .ok (.iload_n 2, 1) := by decide +kernel
theorem dX4_sun_10 : decode cX4_sun 10 = .ok (.iconst 0, 1) := by decide +kernel
theorem dX4_sun_11 : decode cX4_sun 11 = .ok (.bipush 40, 2) := by decide +kernel
theorem dX4_sun_13 : decode cX4_sun 13 = .ok (.invokestatic 61, 3) := by decide +kernel
theorem dX4_sun_16 : decode cX4_sun 16 = .ok (.ifCond .ne 9, 3) := by decide +kernel
theorem dX4_sun_19 : decode cX4_sun 19 = .ok (.aload_n 0, 1) := by decide +kernel
theorem dX4_sun_20 : decode cX4_sun 20 = .ok (.iconst 0, 1) := by decide +kernel
theorem dX4_sun_21 : decode cX4_sun 21 = .ok (.invokevirtual 129, 3) := by decide +kernel
theorem dX4_sun_24 : decode cX4_sun 24 = .ok (.ireturn, 1) := by decide +kernel
theorem dX4_sun_25 : decode cX4_sun 25 = .ok (.aload_n 0, 1) := by decide +kernel
theorem dX4_sun_26 : decode cX4_sun 26 = .ok (.getfield 9, 3) := by decide +kernel
theorem dX4_sun_29 : decode cX4_sun 29 = .ok (.iconst 4, 1) := by decide +kernel
theorem dX4_sun_30 : decode cX4_sun 30 = .ok (.iload_n 1, 1) := by decide +kernel
theorem dX4_sun_31 : decode cX4_sun 31 = .ok (.iadd, 1) := by decide +kernel
theorem dX4_sun_32 : decode cX4_sun 32 = .ok (.iaload, 1) := by decide +kernel
theorem dX4_sun_33 : decode cX4_sun 33 = .ok (.istore_n 3, 1) := by decide +kernel
theorem dX4_sun_34 : decode cX4_sun 34 = .ok (.aload_n 0, 1) := by decide +kernel
theorem dX4_sun_35 : decode cX4_sun 35 = .ok (.getfield 9, 3) := by decide +kernel
theorem dX4_sun_38 : decode cX4_sun 38 = .ok (.iconst 4, 1) := by decide +kernel
theorem dX4_sun_39 : decode cX4_sun 39 = .ok (.iload_n 1, 1) := by decide +kernel
theorem dX4_sun_40 : decode cX4_sun 40 = .ok (.iadd, 1) := by decide +kernel
theorem dX4_sun_41 : decode cX4_sun 41 = .ok (.iload_n 2, 1) := by decide +kernel
theorem dX4_sun_42 : decode cX4_sun 42 = .ok (.iastore, 1) := by decide +kernel
theorem dX4_sun_43 : decode cX4_sun 43 = .ok (.iload_n 3, 1) := by decide +kernel
theorem dX4_sun_44 : decode cX4_sun 44 = .ok (.ireturn, 1) := by decide +kernel
theorem dX4_mist_0 : decode cX4_mist 0 = .ok (.iload_n 1, 1) := by decide +kernel
theorem dX4_mist_1 : decode cX4_mist 1 = .ok (.iconst 0, 1) := by decide +kernel
theorem dX4_mist_2 : decode cX4_mist 2 = .ok (.bipush 40, 2) := by decide +kernel
theorem dX4_mist_4 : decode cX4_mist 4 = .ok (.invokestatic 61, 3) := by decide +kernel
theorem dX4_mist_7 : decode cX4_mist 7 = .ok (.ifCond .ne 9, 3) := by decide +kernel
theorem dX4_mist_10 : decode cX4_mist 10 = .ok (.aload_n 0, 1) := by decide +kernel
theorem dX4_mist_11 : decode cX4_mist 11 = .ok (.iconst 0, 1) := by decide +kernel
theorem dX4_mist_12 : decode cX4_mist 12 = .ok (.invokevirtual 129, 3) := by decide +kernel
theorem dX4_mist_15 : decode cX4_mist 15 = .ok (.ireturn, 1) := by decide +kernel
theorem dX4_mist_16 : decode cX4_mist 16 = .ok (.aload_n 0, 1) := by decide +kernel
theorem dX4_mist_17 : decode cX4_mist 17 = .ok (.getfield 9, 3) := by decide +kernel
theorem dX4_mist_20 : decode cX4_mist 20 = .ok (.iconst 3, 1) := by decide +kernel
theorem dX4_mist_21 : decode cX4_mist 21 = .ok (.iaload, 1) := by decide +kernel
theorem dX4_mist_22 : decode cX4_mist 22 = .ok (.istore_n 2, 1) := by decide +kernel
theorem dX4_mist_23 : decode cX4_mist 23 = .ok (.aload_n 0, 1) := by decide +kernel
theorem dX4_mist_24 : decode cX4_mist 24 = .ok (.getfield 9, 3) := by decide +kernel
theorem dX4_mist_27 : decode cX4_mist 27 = .ok (.iconst 3, 1) := by decide +kernel
theorem dX4_mist_28 : decode cX4_mist 28 = .ok (.iload_n 1, 1) := by decide +kernel
theorem dX4_mist_29 : decode cX4_mist 29 = .ok (.iastore, 1) := by decide +kernel
theorem dX4_mist_30 : decode cX4_mist 30 = .ok (.iload_n 2, 1) := by decide +kernel
theorem dX4_mist_31 : decode cX4_mist 31 = .ok (.ireturn, 1) := by decide +kernel
theorem dX4_adds_0 : decode cX4_adds 0 = .ok (.aload_n 0, 1) := by decide +kernel
theorem dX4_adds_1 : decode cX4_adds 1 = .ok (.getfield 9, 3) := by decide +kernel
theorem dX4_adds_4 : decode cX4_adds 4 = .ok (.iconst 1, 1) := by decide +kernel
theorem dX4_adds_5 : decode cX4_adds 5 = .ok (.iaload, 1) := by decide +kernel
theorem dX4_adds_6 : decode cX4_adds 6 = .ok (.istore_n 2, 1) := by decide +kernel
theorem dX4_adds_7 : decode cX4_adds 7 = .ok (.aload_n 0, 1) := by decide +kernel
theorem dX4_adds_8 : decode cX4_adds 8 = .ok (.iload_n 2, 1) := by decide +kernel
theorem dX4_adds_9 : decode cX4_adds 9 = .ok (.iconst 0, 1) := by decide +kernel
theorem dX4_adds_10 : decode cX4_adds 10 = .ok (.iload_n 1, 1) := by decide +kernel
theorem dX4_adds_11 : decode cX4_adds 11 = .ok (.invokevirtual 95, 3) := by decide +kernel
theorem dX4_adds_14 : decode cX4_adds 14 = .ok (.aload_n 0, 1) := by decide +kernel
theorem dX4_adds_15 : decode cX4_adds 15 = .ok (.iload_n 2, 1) := by decide +kernel
theorem dX4_adds_16 : decode cX4_adds 16 = .ok (.iconst 1, 1) := by decide +kernel
theorem dX4_adds_17 : decode cX4_adds 17 = .ok (.iconst (-1), 1) := by decide +kernel
theorem dX4_adds_18 : decode cX4_adds 18 = .ok (.invokevirtual 95, 3) := by decide +kernel
theorem dX4_adds_21 : decode cX4_adds 21 = .ok (.aload_n 0, 1) := by decide +kernel
theorem dX4_adds_22 : decode cX4_adds 22 = .ok (.iload_n 2, 1) := by decide +kernel
theorem dX4_adds_23 : decode cX4_adds 23 = .ok (.iconst 2, 1) := by decide +kernel
theorem dX4_adds_24 : decode cX4_adds 24 = .ok (.bipush 50, 2) := by decide +kernel
theorem dX4_adds_26 : decode cX4_adds 26 = .ok (.invokevirtual 95, 3) := by decide +kernel
theorem dX4_adds_29 : decode cX4_adds 29 = .ok (.aload_n 0, 1) := by decide +kernel
theorem dX4_adds_30 : decode cX4_adds 30 = .ok (.iload_n 2, 1) := by decide +kernel
theorem dX4_adds_31 : decode cX4_adds 31 = .ok (.iconst 3, 1) := by decide +kernel
theorem dX4_adds_32 : decode cX4_adds 32 = .ok (.bipush 50, 2) := by decide +kernel
theorem dX4_adds_34 : decode cX4_adds 34 = .ok (.invokevirtual 95, 3) := by decide +kernel
theorem dX4_adds_37 : decode cX4_adds 37 = .ok (.aload_n 0, 1) := by decide +kernel
theorem dX4_adds_38 : decode cX4_adds 38 = .ok (.iload_n 2, 1) := by decide +kernel
theorem dX4_adds_39 : decode cX4_adds 39 = .ok (.iconst 4, 1) := by decide +kernel
theorem dX4_adds_40 : decode cX4_adds 40 = .ok (.iconst 0, 1) := by decide +kernel
theorem dX4_adds_41 : decode cX4_adds 41 = .ok (.invokevirtual 95, 3) := by decide +kernel
theorem dX4_adds_44 : decode cX4_adds 44 = .ok (.aload_n 0, 1) := by decide +kernel
theorem dX4_adds_45 : decode cX4_adds 45 = .ok (.getfield 9, 3) := by decide +kernel
theorem dX4_adds_48 : decode cX4_adds 48 = .ok (.iconst 1, 1) := by decide +kernel
theorem dX4_adds_49 : decode cX4_adds 49 = .ok (.dup2, 1) := by decide +kernel
theorem dX4_adds_50 : decode cX4_adds 50 = .ok (.iaload, 1) := by decide +kernel
theorem dX4_adds_51 : decode cX4_adds 51 = .ok (.iconst 1, 1) := by decide +kernel
theorem dX4_adds_52 : decode cX4_adds 52 = .ok (.iadd, 1) := by decide +kernel
theorem dX4_adds_53 : decode cX4_adds 53 = .ok (.iastore, 1) := by decide +kernel
theorem dX4_adds_54 : decode cX4_adds 54 = .ok (.return_, 1) := by decide +kernel
theorem dX4_person_0 : decode cX4_person 0 = .ok (.iload_n 1, 1) := by decide +kernel
theorem dX4_person_1 : decode cX4_person 1 = .ok (.iconst 0, 1) := by decide +kernel
theorem dX4_person_2 : decode cX4_person 2 = .ok (.bipush 6, 2) := by decide +kernel
theorem dX4_person_4 : decode cX4_person 4 = .ok (.invokestatic 61, 3) := by decide +kernel
theorem dX4_person_7 : decode cX4_person 7 = .ok (.ifCond .ne 9, 3) := by decide +kernel
theorem dX4_person_10 : decode cX4_person 10 = .ok (.aload_n 0, 1) := by decide +kernel
theorem dX4_person_11 : decode cX4_person 11 = .ok (.iconst 0, 1) := by decide +kernel
theorem dX4_person_12 : decode cX4_person 12 = .ok (.invokevirtual 129, 3) := by decide +kernel
theorem dX4_person_15 : decode cX4_person 15 = .ok (.ireturn, 1) := by decide +kernel
theorem dX4_person_16 : decode cX4_person 16 = .ok (.aload_n 0, 1) := by decide +kernel
theorem dX4_person_17 : decode cX4_person 17 = .ok (.getfield 9, 3) := by decide +kernel
theorem dX4_person_20 : decode cX4_person 20 = .ok (.iconst 1, 1) := by decide +kernel
theorem dX4_person_21 : decode cX4_person 21 = .ok (.iaload, 1) := by decide +kernel
theorem dX4_person_22 : decode cX4_person 22 = .ok (.bipush 8, 2) := by decide +kernel
theorem dX4_person_24 : decode cX4_person 24 = .ok (.if_icmp .ne 9, 3) := by decide +kernel
theorem dX4_person_27 : decode cX4_person 27 = .ok (.aload_n 0, 1) := by decide +kernel
theorem dX4_person_28 : decode cX4_person 28 = .ok (.iconst 1, 1) := by decide +kernel
theorem dX4_person_29 : decode cX4_person 29 = .ok (.invokevirtual 129, 3) := by decide +kernel
theorem dX4_person_32 : decode cX4_person 32 = .ok (.ireturn, 1) := by decide +kernel
theorem dX4_person_33 : decode cX4_person 33 = .ok (.aload_n 0, 1) := by decide +kernel
theorem dX4_person_34 : decode cX4_person 34 = .ok (.iload_n 1, 1) := by decide +kernel
theorem dX4_person_35 : decode cX4_person 35 = .ok (.invokevirtual 135, 3) := by decide +kernel
theorem dX4_person_38 : decode cX4_person 38 = .ok (.aload_n 0, 1) := by decide +kernel
theorem dX4_person_39 : decode cX4_person 39 = .ok (.getfield 9, 3) := by decide +kernel
theorem dX4_person_42 : decode cX4_person 42 = .ok (.iconst 1, 1) := by decide +kernel
theorem dX4_person_43 : decode cX4_person 43 = .ok (.iaload, 1) := by decide +kernel
theorem dX4_person_44 : decode cX4_person 44 = .ok (.iconst 1, 1) := by decide +kernel
theorem dX4_person_45 : decode cX4_person 45 = .ok (.isub, 1) := by decide +kernel
theorem dX4_person_46 : decode cX4_person 46 = .ok (.ireturn, 1) := by decide +kernel
theorem dX4_ownedBy_0 : decode cX4_ownedBy 0 = .ok (.iconst 0, 1) := by decide +kernel
theorem dX4_ownedBy_1 : decode cX4_ownedBy 1 = .ok (.istore_n 2, 1) := by decide +kernel
theorem dX4_ownedBy_2 : decode cX4_ownedBy 2 = .ok (.iconst 0, 1) := by decide +kernel
theorem dX4_ownedBy_3 : decode cX4_ownedBy 3 = .ok (.istore_n 3, 1) := by decide +kernel
theorem dX4_ownedBy_4 : decode cX4_ownedBy 4 = .ok (.iload_n 3, 1) := by decide +kernel
theorem dX4_ownedBy_5 : decode cX4_ownedBy 5 = .ok (.bipush 10, 2) := by decide +kernel
theorem dX4_ownedBy_7 : decode cX4_ownedBy 7 = .ok (.if_icmp .ge 29, 3) := by decide +kernel
theorem dX4_ownedBy_10 : decode cX4_ownedBy 10 = .ok (.iload_n 2, 1) := by decide +kernel
theorem dX4_ownedBy_11 : decode cX4_ownedBy 11 = .ok (.aload_n 0, 1) := by decide +kernel
theorem dX4_ownedBy_12 : decode cX4_ownedBy 12 = .ok (.iload_n 3, 1) := by decide +kernel
theorem dX4_ownedBy_13 : decode cX4_ownedBy 13 = .ok (.iconst 2, 1) := by decide +kernel
theorem dX4_ownedBy_14 : decode cX4_ownedBy 14 = .ok (.invokevirtual 73, 3) := by decide +kernel
theorem dX4_ownedBy_17 : decode cX4_ownedBy 17 = .ok (.iload_n 1, 1) := by decide +kernel
theorem dX4_ownedBy_18 : decode cX4_ownedBy 18 = .ok (.if_icmp .ne 9, 3) := by decide +kernel
theorem dX4_ownedBy_21 : decode cX4_ownedBy 21 = .ok (.iconst 1, 1) := by decide +kernel
theorem dX4_ownedBy_22 : decode cX4_ownedBy 22 = .ok (.iload_n 3, 1) := by decide +kernel
theorem dX4_ownedBy_23 : decode cX4_ownedBy 23 = .ok (.ishl, 1) := by decide +kernel
theorem dX4_ownedBy_24 : decode cX4_ownedBy 24 = .ok (.goto 4, 3) := by decide +kernel
theorem dX4_ownedBy_27 : decode cX4_ownedBy 27 = .ok (.iconst 0, 1) := by decide +kernel
theorem dX4_ownedBy_28 : decode cX4_ownedBy 28 = .ok (.ior, 1) := by decide +kernel
theorem dX4_ownedBy_29 : decode cX4_ownedBy 29 = .ok (.istore_n 2, 1) := by decide +kernel
theorem dX4_ownedBy_30 : decode cX4_ownedBy 30 = .ok (.iinc 3 1, 3) := by decide +kernel
theorem dX4_ownedBy_33 : decode cX4_ownedBy 33 = .ok (.goto (-29), 3) := by decide +kernel
theorem dX4_ownedBy_36 : decode cX4_ownedBy 36 = .ok (.iload_n 2, 1) := by decide +kernel
theorem dX4_ownedBy_37 : decode cX4_ownedBy 37 = .ok (.ireturn, 1) := by decide +kernel
theorem dX4_of_0 : decode cX4_of 0 = .ok (.aload_n 0, 1) := by decide +kernel
theorem dX4_of_1 : decode cX4_of 1 = .ok (.iload_n 1, 1) := by decide +kernel
theorem dX4_of_2 : decode cX4_of 2 = .ok (.invokevirtual 138, 3) := by decide +kernel
theorem dX4_of_5 : decode cX4_of 5 = .ok (.ifCond .eq 13, 3) := by decide +kernel
theorem dX4_of_8 : decode cX4_of 8 = .ok (.iload_n 2, 1) := by decide +kernel
theorem dX4_of_9 : decode cX4_of 9 = .ok (.iconst 0, 1) := by decide +kernel
theorem dX4_of_10 : decode cX4_of 10 = .ok (.bipush 7, 2) := by decide +kernel
theorem dX4_of_12 : decode cX4_of 12 = .ok (.invokestatic 61, 3) := by decide +kernel
theorem dX4_of_15 : decode cX4_of 15 = .ok (.ifCond .ne 9, 3) := by decide +kernel
theorem dX4_of_18 : decode cX4_of 18 = .ok (.aload_n 0, 1) := by decide +kernel
theorem dX4_of_19 : decode cX4_of 19 = .ok (.iconst 0, 1) := by decide +kernel
theorem dX4_of_20 : decode cX4_of 20 = .ok (.invokevirtual 129, 3) := by decide +kernel
theorem dX4_of_23 : decode cX4_of 23 = .ok (.ireturn, 1) := by decide +kernel
theorem dX4_of_24 : decode cX4_of 24 = .ok (.iload_n 2, 1) := by decide +kernel
theorem dX4_of_25 : decode cX4_of 25 = .ok (.iconst 5, 1) := by decide +kernel
theorem dX4_of_26 : decode cX4_of 26 = .ok (.if_icmp .ge 12, 3) := by decide +kernel
theorem dX4_of_29 : decode cX4_of 29 = .ok (.aload_n 0, 1) := by decide +kernel
theorem dX4_of_30 : decode cX4_of 30 = .ok (.iload_n 1, 1) := by decide +kernel
theorem dX4_of_31 : decode cX4_of 31 = .ok (.iload_n 2, 1) := by decide +kernel
theorem dX4_of_32 : decode cX4_of 32 = .ok (.invokevirtual 65, 3) := by decide +kernel
theorem dX4_of_35 : decode cX4_of 35 = .ok (.goto 35, 3) := by decide +kernel
theorem dX4_of_38 : decode cX4_of 38 = .ok (.iload_n 2, 1) := by decide +kernel
theorem dX4_of_39 : decode cX4_of 39 = .ok (.iconst 5, 1) := by decide +kernel
theorem dX4_of_40 : decode cX4_of 40 = .ok (.if_icmp .ne 11, 3) := by decide +kernel
theorem dX4_of_43 : decode cX4_of 43 = .ok (.aload_n 0, 1) := by decide +kernel
theorem dX4_of_44 : decode cX4_of 44 = .ok (.iload_n 1, 1) := by decide +kernel
theorem dX4_of_45 : decode cX4_of 45 = .ok (.invokevirtual 98, 3) := by decide +kernel
theorem dX4_of_48 : decode cX4_of 48 = .ok (.goto 22, 3) := by decide +kernel
theorem dX4_of_51 : decode cX4_of 51 = .ok (.iload_n 2, 1) := by decide +kernel
theorem dX4_of_52 : decode cX4_of 52 = .ok (.bipush 6, 2) := by decide +kernel
theorem dX4_of_54 : decode cX4_of 54 = .ok (.if_icmp .ne 11, 3) := by decide +kernel
theorem dX4_of_57 : decode cX4_of 57 = .ok (.aload_n 0, 1) := by decide +kernel
theorem dX4_of_58 : decode cX4_of 58 = .ok (.iload_n 1, 1) := by decide +kernel
theorem dX4_of_59 : decode cX4_of 59 = .ok (.invokevirtual 92, 3) := by decide +kernel
theorem dX4_of_62 : decode cX4_of 62 = .ok (.goto 8, 3) := by decide +kernel
theorem dX4_of_65 : decode cX4_of 65 = .ok (.aload_n 0, 1) := by decide +kernel
theorem dX4_of_66 : decode cX4_of 66 = .ok (.iload_n 1, 1) := by decide +kernel
theorem dX4_of_67 : decode cX4_of 67 = .ok (.invokevirtual 141, 3) := by decide +kernel
theorem dX4_of_70 : decode cX4_of 70 = .ok (.ireturn, 1) := by decide +kernel
theorem dX4_change_0 : decode cX4_change 0 = .ok (.aload_n 0, 1) := by decide +kernel
theorem dX4_change_1 : decode cX4_change 1 = .ok (.iload_n 1, 1) := by decide +kernel
theorem dX4_change_2 : decode cX4_change 2 = .ok (.invokevirtual 138, 3) := by decide +kernel
theorem dX4_change_5 : decode cX4_change 5 = .ok (.ifCond .eq 61, 3) := by decide +kernel
theorem dX4_change_8 : decode cX4_change 8 = .ok (.iload_n 2, 1) := by decide +kernel
theorem dX4_change_9 : decode cX4_change 9 = .ok (.iconst 0, 1) := by decide +kernel
theorem dX4_change_10 : decode cX4_change 10 = .ok (.iconst 4, 1) := by decide +kernel
theorem dX4_change_11 : decode cX4_change 11 = .ok (.invokestatic 61, 3) := by decide +kernel
theorem dX4_change_14 : decode cX4_change 14 = .ok (.ifCond .eq 52, 3) := by decide +kernel
theorem dX4_change_17 : decode cX4_change 17 = .ok (.iload_n 3, 1) := by decide +kernel
theorem dX4_change_18 : decode cX4_change 18 = .ok (.iload_n 2, 1) := by decide +kernel
theorem dX4_change_19 : decode cX4_change 19 = .ok (.iconst 1, 1) := by decide +kernel
theorem dX4_change_20 : decode cX4_change 20 = .ok (.if_icmp .ne 7, 3) := by decide +kernel
theorem dX4_change_23 : decode cX4_change 23 = .ok (.iconst (-1), 1) := by decide +kernel
theorem dX4_change_24 : decode cX4_change 24 = .ok (.goto 4, 3) := by decide +kernel
theorem dX4_change_27 : decode cX4_change 27 = .ok (.iconst 0, 1) := by decide +kernel
theorem dX4_change_28 : decode cX4_change 28 = .ok (.iload_n 2, 1) := by decide +kernel
theorem dX4_change_29 : decode cX4_change 29 = .ok (.ifCond .ne 8, 3) := by decide +kernel
theorem dX4_change_32 : decode cX4_change 32 = .ok (.bipush 6, 2) := by decide +kernel
theorem dX4_change_34 : decode cX4_change 34 = .ok (.goto 26, 3) := by decide +kernel
theorem dX4_change_37 : decode cX4_change 37 = .ok (.iload_n 2, 1) := by decide +kernel
theorem dX4_change_38 : decode cX4_change 38 = .ok (.iconst 1, 1) := by decide +kernel
theorem dX4_change_39 : decode cX4_change 39 = .ok (.if_icmp .ne 8, 3) := by decide +kernel
theorem dX4_change_42 : decode cX4_change 42 = .ok (.bipush 9, 2) := by decide +kernel
theorem dX4_change_44 : decode cX4_change 44 = .ok (.goto 16, 3) := by decide +kernel
theorem dX4_change_47 : decode cX4_change 47 = .ok (.iload_n 2, 1) := by decide +kernel
theorem dX4_change_48 : decode cX4_change 48 = .ok (.iconst 2, 1) := by decide +kernel
theorem dX4_change_49 : decode cX4_change 49 = .ok (.if_icmp .ne 8, 3) := by decide +kernel
theorem dX4_change_52 : decode cX4_change 52 = .ok (.bipush 99, 2) := by decide +kernel
theorem dX4_change_54 : decode cX4_change 54 = .ok (.goto 6, 3) := by decide +kernel
theorem dX4_change_57 : decode cX4_change 57 = .ok (.sipush 9999, 3) := by decide +kernel
theorem dX4_change_60 : decode cX4_change 60 = .ok (.invokestatic 61, 3) := by decide +kernel
theorem dX4_change_63 : decode cX4_change 63 = .ok (.ifCond .ne 9, 3) := by decide +kernel
theorem dX4_change_66 : decode cX4_change 66 = .ok (.aload_n 0, 1) := by decide +kernel
theorem dX4_change_67 : decode cX4_change 67 = .ok (.iconst 0, 1) := by decide +kernel
theorem dX4_change_68 : decode cX4_change 68 = .ok (.invokevirtual 129, 3) := by decide +kernel
theorem dX4_change_71 : decode cX4_change 71 = .ok (.ireturn, 1) := by decide +kernel
theorem dX4_change_72 : decode cX4_change 72 = .ok (.aload_n 0, 1) := by decide +kernel
theorem dX4_change_73 : decode cX4_change 73 = .ok (.iload_n 1, 1) := by decide +kernel
theorem dX4_change_74 : decode cX4_change 74 = .ok (.iload_n 2, 1) := by decide +kernel
theorem dX4_change_75 : decode cX4_change 75 = .ok (.invokevirtual 65, 3) := by decide +kernel
theorem dX4_change_78 : decode cX4_change 78 = .ok (.istore 4, 2) := by decide +kernel
theorem dX4_change_80 : decode cX4_change 80 = .ok (.aload_n 0, 1) := by decide +kernel
theorem dX4_change_81 : decode cX4_change 81 = .ok (.iload_n 1, 1) := by decide +kernel
theorem dX4_change_82 : decode cX4_change 82 = .ok (.iload_n 2, 1) := by decide +kernel
theorem dX4_change_83 : decode cX4_change 83 = .ok (.iload_n 3, 1) := by decide +kernel
theorem dX4_change_84 : decode cX4_change 84 = .ok (.invokevirtual 95, 3) := by decide +kernel
theorem dX4_change_87 : decode cX4_change 87 = .ok (.iload 4, 2) := by decide +kernel
theorem dX4_change_89 : decode cX4_change 89 = .ok (.ireturn, 1) := by decide +kernel
theorem dX4_trust_0 : decode cX4_trust 0 = .ok (.aload_n 0, 1) := by decide +kernel
theorem dX4_trust_1 : decode cX4_trust 1 = .ok (.iload_n 1, 1) := by decide +kernel
theorem dX4_trust_2 : decode cX4_trust 2 = .ok (.invokevirtual 138, 3) := by decide +kernel
theorem dX4_trust_5 : decode cX4_trust 5 = .ok (.ifCond .eq 19, 3) := by decide +kernel
theorem dX4_trust_8 : decode cX4_trust 8 = .ok (.iload_n 2, 1) := by decide +kernel
theorem dX4_trust_9 : decode cX4_trust 9 = .ok (.invokestatic 126, 3) := by decide +kernel
theorem dX4_trust_12 : decode cX4_trust 12 = .ok (.ifCond .eq 12, 3) := by decide +kernel
theorem dX4_trust_15 : decode cX4_trust 15 = .ok (.aload_n 0, 1) := by decide +kernel
theorem dX4_trust_16 : decode cX4_trust 16 = .ok (.iload_n 1, 1) := by decide +kernel
theorem dX4_trust_17 : decode cX4_trust 17 = .ok (.iload_n 2, 1) := by decide +kernel
theorem dX4_trust_18 : decode cX4_trust 18 = .ok (.invokevirtual 79, 3) := by decide +kernel
theorem dX4_trust_21 : decode cX4_trust 21 = .ok (.goto 8, 3) := by decide +kernel
theorem dX4_trust_24 : decode cX4_trust 24 = .ok (.aload_n 0, 1) := by decide +kernel
theorem dX4_trust_25 : decode cX4_trust 25 = .ok (.iconst 0, 1) := by decide +kernel
theorem dX4_trust_26 : decode cX4_trust 26 = .ok (.invokevirtual 129, 3) := by decide +kernel
theorem dX4_trust_29 : decode cX4_trust 29 = .ok (.ireturn, 1) := by decide +kernel
theorem dX4_go_0 : decode cX4_go 0 = .ok (.iload_n 1, 1) := by decide +kernel
theorem dX4_go_1 : decode cX4_go 1 = .ok (.iconst 1, 1) := by decide +kernel
theorem dX4_go_2 : decode cX4_go 2 = .ok (.bipush 60, 2) := by decide +kernel
theorem dX4_go_4 : decode cX4_go 4 = .ok (.invokestatic 61, 3) := by decide +kernel
theorem dX4_go_7 : decode cX4_go 7 = .ok (.ifCond .ne 9, 3) := by decide +kernel
theorem dX4_go_10 : decode cX4_go 10 = .ok (.aload_n 0, 1) := by decide +kernel
theorem dX4_go_11 : decode cX4_go 11 = .ok (.iconst 0, 1) := by decide +kernel
theorem dX4_go_12 : decode cX4_go 12 = .ok (.invokevirtual 129, 3) := by decide +kernel
theorem dX4_go_15 : decode cX4_go 15 = .ok (.ireturn, 1) := by decide +kernel
theorem dX4_go_16 : decode cX4_go 16 = .ok (.aload_n 0, 1) := by decide +kernel
theorem dX4_go_17 : decode cX4_go 17 = .ok (.getfield 9, 3) := by decide +kernel
theorem dX4_go_20 : decode cX4_go 20 = .ok (.iconst 0, 1) := by decide +kernel
theorem dX4_go_21 : decode cX4_go 21 = .ok (.iaload, 1) := by decide +kernel
theorem dX4_go_22 : decode cX4_go 22 = .ok (.iload_n 1, 1) := by decide +kernel
theorem dX4_go_23 : decode cX4_go 23 = .ok (.iadd, 1) := by decide +kernel
theorem dX4_go_24 : decode cX4_go 24 = .ok (.ldc 122, 2) := by decide +kernel
theorem dX4_go_26 : decode cX4_go 26 = .ok (.if_icmp .le 9, 3) := by decide +kernel
theorem dX4_go_29 : decode cX4_go 29 = .ok (.aload_n 0, 1) := by decide +kernel
theorem dX4_go_30 : decode cX4_go 30 = .ok (.iconst 4, 1) := by decide +kernel
theorem dX4_go_31 : decode cX4_go 31 = .ok (.invokevirtual 129, 3) := by decide +kernel
theorem dX4_go_34 : decode cX4_go 34 = .ok (.ireturn, 1) := by decide +kernel
theorem dX4_go_35 : decode cX4_go 35 = .ok (.aload_n 0, 1) := by decide +kernel
theorem dX4_go_36 : decode cX4_go 36 = .ok (.iload_n 1, 1) := by decide +kernel
theorem dX4_go_37 : decode cX4_go 37 = .ok (.invokevirtual 144, 3) := by decide +kernel
theorem dX4_go_40 : decode cX4_go 40 = .ok (.aload_n 0, 1) := by decide +kernel
theorem dX4_go_41 : decode cX4_go 41 = .ok (.invokevirtual 147, 3) := by decide +kernel
theorem dX4_go_44 : decode cX4_go 44 = .ok (.ireturn, 1) := by decide +kernel
theorem dX4_fogs_0 : decode cX4_fogs 0 = .ok (.iconst 0, 1) := by decide +kernel
theorem dX4_fogs_1 : decode cX4_fogs 1 = .ok (.istore_n 1, 1) := by decide +kernel
theorem dX4_fogs_2 : decode cX4_fogs 2 = .ok (.iconst 0, 1) := by decide +kernel
theorem dX4_fogs_3 : decode cX4_fogs 3 = .ok (.istore_n 2, 1) := by decide +kernel
theorem dX4_fogs_4 : decode cX4_fogs 4 = .ok (.iload_n 2, 1) := by decide +kernel
theorem dX4_fogs_5 : decode cX4_fogs 5 = .ok (.bipush 10, 2) := by decide +kernel
theorem dX4_fogs_7 : decode cX4_fogs 7 = .ok (.if_icmp .ge 18, 3) := by decide +kernel
theorem dX4_fogs_10 : decode cX4_fogs 10 = .ok (.iload_n 1, 1) := by decide +kernel
theorem dX4_fogs_11 : decode cX4_fogs 11 = .ok (.aload_n 0, 1) := by decide +kernel
theorem dX4_fogs_12 : decode cX4_fogs 12 = .ok (.iload_n 2, 1) := by decide +kernel
theorem dX4_fogs_13 : decode cX4_fogs 13 = .ok (.iconst 0, 1) := by decide +kernel
theorem dX4_fogs_14 : decode cX4_fogs 14 = .ok (.invokevirtual 73, 3) := by decide +kernel
theorem dX4_fogs_17 : decode cX4_fogs 17 = .ok (.iadd, 1) := by decide +kernel
theorem dX4_fogs_18 : decode cX4_fogs 18 = .ok (.istore_n 1, 1) := by decide +kernel
theorem dX4_fogs_19 : decode cX4_fogs 19 = .ok (.iinc 2 1, 3) := by decide +kernel
theorem dX4_fogs_22 : decode cX4_fogs 22 = .ok (.goto (-18), 3) := by decide +kernel
theorem dX4_fogs_25 : decode cX4_fogs 25 = .ok (.iload_n 1, 1) := by decide +kernel
theorem dX4_fogs_26 : decode cX4_fogs 26 = .ok (.ireturn, 1) := by decide +kernel
theorem dX4_mostFog_0 : decode cX4_mostFog 0 = .ok (.iconst 0, 1) := by decide +kernel
theorem dX4_mostFog_1 : decode cX4_mostFog 1 = .ok (.istore_n 1, 1) := by decide +kernel
theorem dX4_mostFog_2 : decode cX4_mostFog 2 = .ok (.iconst 1, 1) := by decide +kernel
theorem dX4_mostFog_3 : decode cX4_mostFog 3 = .ok (.istore_n 2, 1) := by decide +kernel
theorem dX4_mostFog_4 : decode cX4_mostFog 4 = .ok (.iload_n 2, 1) := by decide +kernel
theorem dX4_mostFog_5 : decode cX4_mostFog 5 = .ok (.bipush 10, 2) := by decide +kernel
theorem dX4_mostFog_7 : decode cX4_mostFog 7 = .ok (.if_icmp .ge 30, 3) := by decide +kernel
theorem dX4_mostFog_10 : decode cX4_mostFog 10 = .ok (.aload_n 0, 1) := by decide +kernel
theorem dX4_mostFog_11 : decode cX4_mostFog 11 = .ok (.iload_n 2, 1) := by decide +kernel
theorem dX4_mostFog_12 : decode cX4_mostFog 12 = .ok (.iconst 0, 1) := by decide +kernel
theorem dX4_mostFog_13 : decode cX4_mostFog 13 = .ok (.invokevirtual 73, 3) := by decide +kernel
theorem dX4_mostFog_16 : decode cX4_mostFog 16 = .ok (.aload_n 0, 1) := by decide +kernel
theorem dX4_mostFog_17 : decode cX4_mostFog 17 = .ok (.iload_n 1, 1) := by decide +kernel
theorem dX4_mostFog_18 : decode cX4_mostFog 18 = .ok (.iconst 0, 1) := by decide +kernel
theorem dX4_mostFog_19 : decode cX4_mostFog 19 = .ok (.invokevirtual 73, 3) := by decide +kernel
theorem dX4_mostFog_22 : decode cX4_mostFog 22 = .ok (.if_icmp .le 7, 3) := by decide +kernel
theorem dX4_mostFog_25 : decode cX4_mostFog 25 = .ok (.iload_n 2, 1) := by decide +kernel
theorem dX4_mostFog_26 : decode cX4_mostFog 26 = .ok (.goto 4, 3) := by decide +kernel
theorem dX4_mostFog_29 : decode cX4_mostFog 29 = .ok (.iload_n 1, 1) := by decide +kernel
theorem dX4_mostFog_30 : decode cX4_mostFog 30 = .ok (.istore_n 1, 1) := by decide +kernel
theorem dX4_mostFog_31 : decode cX4_mostFog 31 = .ok (.iinc 2 1, 3) := by decide +kernel
theorem dX4_mostFog_34 : decode cX4_mostFog 34 = .ok (.goto (-30), 3) := by decide +kernel
theorem dX4_mostFog_37 : decode cX4_mostFog 37 = .ok (.iload_n 1, 1) := by decide +kernel
theorem dX4_mostFog_38 : decode cX4_mostFog 38 = .ok (.ireturn, 1) := by decide +kernel
theorem dX4_richest_0 : decode cX4_richest 0 = .ok (.iconst (-1), 1) := by decide +kernel
theorem dX4_richest_1 : decode cX4_richest 1 = .ok (.istore_n 1, 1) := by decide +kernel
theorem dX4_richest_2 : decode cX4_richest 2 = .ok (.iconst 0, 1) := by decide +kernel
theorem dX4_richest_3 : decode cX4_richest 3 = .ok (.istore_n 2, 1) := by decide +kernel
theorem dX4_richest_4 : decode cX4_richest 4 = .ok (.iload_n 2, 1) := by decide +kernel
theorem dX4_richest_5 : decode cX4_richest 5 = .ok (.aload_n 0, 1) := by decide +kernel
theorem dX4_richest_6 : decode cX4_richest 6 = .ok (.getfield 9, 3) := by decide +kernel
theorem dX4_richest_9 : decode cX4_richest 9 = .ok (.iconst 1, 1) := by decide +kernel
theorem dX4_richest_10 : decode cX4_richest 10 = .ok (.iaload, 1) := by decide +kernel
theorem dX4_richest_11 : decode cX4_richest 11 = .ok (.if_icmp .ge 34, 3) := by decide +kernel
theorem dX4_richest_14 : decode cX4_richest 14 = .ok (.iload_n 1, 1) := by decide +kernel
theorem dX4_richest_15 : decode cX4_richest 15 = .ok (.ifCond .lt 18, 3) := by decide +kernel
theorem dX4_richest_18 : decode cX4_richest 18 = .ok (.aload_n 0, 1) := by decide +kernel
theorem dX4_richest_19 : decode cX4_richest 19 = .ok (.iload_n 2, 1) := by decide +kernel
theorem dX4_richest_20 : decode cX4_richest 20 = .ok (.iconst 3, 1) := by decide +kernel
theorem dX4_richest_21 : decode cX4_richest 21 = .ok (.invokevirtual 65, 3) := by decide +kernel
theorem dX4_richest_24 : decode cX4_richest 24 = .ok (.aload_n 0, 1) := by decide +kernel
theorem dX4_richest_25 : decode cX4_richest 25 = .ok (.iload_n 1, 1) := by decide +kernel
theorem dX4_richest_26 : decode cX4_richest 26 = .ok (.iconst 3, 1) := by decide +kernel
theorem dX4_richest_27 : decode cX4_richest 27 = .ok (.invokevirtual 65, 3) := by decide +kernel
theorem dX4_richest_30 : decode cX4_richest 30 = .ok (.if_icmp .le 7, 3) := by decide +kernel
theorem dX4_richest_33 : decode cX4_richest 33 = .ok (.iload_n 2, 1) := by decide +kernel
theorem dX4_richest_34 : decode cX4_richest 34 = .ok (.goto 4, 3) := by decide +kernel
theorem dX4_richest_37 : decode cX4_richest 37 = .ok (.iload_n 1, 1) := by decide +kernel
theorem dX4_richest_38 : decode cX4_richest 38 = .ok (.istore_n 1, 1) := by decide +kernel
theorem dX4_richest_39 : decode cX4_richest 39 = .ok (.iinc 2 1, 3) := by decide +kernel
theorem dX4_richest_42 : decode cX4_richest 42 = .ok (.goto (-38), 3) := by decide +kernel
theorem dX4_richest_45 : decode cX4_richest 45 = .ok (.iload_n 1, 1) := by decide +kernel
theorem dX4_richest_46 : decode cX4_richest 46 = .ok (.ireturn, 1) := by decide +kernel
theorem dX4_now_0 : decode cX4_now 0 = .ok (.iload_n 1, 1) := by decide +kernel
theorem dX4_now_1 : decode cX4_now 1 = .ok (.tableswitch 92 0 7 #[47, 54, 59, 64, 70, 76, 81, 86], 47) := by decide +kernel
theorem dX4_now_48 : decode cX4_now 48 = .ok (.aload_n 0, 1) := by decide +kernel
theorem dX4_now_49 : decode cX4_now 49 = .ok (.getfield 9, 3) := by decide +kernel
theorem dX4_now_52 : decode cX4_now 52 = .ok (.iconst 0, 1) := by decide +kernel
theorem dX4_now_53 : decode cX4_now 53 = .ok (.iaload, 1) := by decide +kernel
theorem dX4_now_54 : decode cX4_now 54 = .ok (.ireturn, 1) := by decide +kernel
theorem dX4_now_55 : decode cX4_now 55 = .ok (.aload_n 0, 1) := by decide +kernel
theorem dX4_now_56 : decode cX4_now 56 = .ok (.invokevirtual 151, 3) := by decide +kernel
theorem dX4_now_59 : decode cX4_now 59 = .ok (.ireturn, 1) := by decide +kernel
theorem dX4_now_60 : decode cX4_now 60 = .ok (.aload_n 0, 1) := by decide +kernel
theorem dX4_now_61 : decode cX4_now 61 = .ok (.invokevirtual 147, 3) := by decide +kernel
theorem dX4_now_64 : decode cX4_now 64 = .ok (.ireturn, 1) := by decide +kernel
theorem dX4_now_65 : decode cX4_now 65 = .ok (.aload_n 0, 1) := by decide +kernel
theorem dX4_now_66 : decode cX4_now 66 = .ok (.iconst 3, 1) := by decide +kernel
theorem dX4_now_67 : decode cX4_now 67 = .ok (.invokevirtual 154, 3) := by decide +kernel
theorem dX4_now_70 : decode cX4_now 70 = .ok (.ireturn, 1) := by decide +kernel
theorem dX4_now_71 : decode cX4_now 71 = .ok (.aload_n 0, 1) := by decide +kernel
theorem dX4_now_72 : decode cX4_now 72 = .ok (.iconst 4, 1) := by decide +kernel
theorem dX4_now_73 : decode cX4_now 73 = .ok (.invokevirtual 154, 3) := by decide +kernel
theorem dX4_now_76 : decode cX4_now 76 = .ok (.ireturn, 1) := by decide +kernel
theorem dX4_now_77 : decode cX4_now 77 = .ok (.aload_n 0, 1) := by decide +kernel
theorem dX4_now_78 : decode cX4_now 78 = .ok (.invokevirtual 157, 3) := by decide +kernel
theorem dX4_now_81 : decode cX4_now 81 = .ok (.ireturn, 1) := by decide +kernel
theorem dX4_now_82 : decode cX4_now 82 = .ok (.aload_n 0, 1) := by decide +kernel
theorem dX4_now_83 : decode cX4_now 83 = .ok (.invokevirtual 160, 3) := by decide +kernel
theorem dX4_now_86 : decode cX4_now 86 = .ok (.ireturn, 1) := by decide +kernel
theorem dX4_now_87 : decode cX4_now 87 = .ok (.aload_n 0, 1) := by decide +kernel
theorem dX4_now_88 : decode cX4_now 88 = .ok (.iconst (-1), 1) := by decide +kernel
theorem dX4_now_89 : decode cX4_now 89 = .ok (.invokevirtual 141, 3) := by decide +kernel
theorem dX4_now_92 : decode cX4_now 92 = .ok (.ireturn, 1) := by decide +kernel
theorem dX4_now_93 : decode cX4_now 93 = .ok (.aload_n 0, 1) := by decide +kernel
theorem dX4_now_94 : decode cX4_now 94 = .ok (.iconst 0, 1) := by decide +kernel
theorem dX4_now_95 : decode cX4_now 95 = .ok (.invokevirtual 129, 3) := by decide +kernel
theorem dX4_now_98 : decode cX4_now 98 = .ok (.ireturn, 1) := by decide +kernel
theorem dX4_ahead_0 : decode cX4_ahead 0 = .ok (.aload_n 0, 1) := by decide +kernel
theorem dX4_ahead_1 : decode cX4_ahead 1 = .ok (.iload_n 1, 1) := by decide +kernel
theorem dX4_ahead_2 : decode cX4_ahead 2 = .ok (.invokevirtual 138, 3) := by decide +kernel
theorem dX4_ahead_5 : decode cX4_ahead 5 = .ok (.ifCond .eq 22, 3) := by decide +kernel
theorem dX4_ahead_8 : decode cX4_ahead 8 = .ok (.iload_n 2, 1) := by decide +kernel
theorem dX4_ahead_9 : decode cX4_ahead 9 = .ok (.iconst 1, 1) := by decide +kernel
theorem dX4_ahead_10 : decode cX4_ahead 10 = .ok (.iconst 4, 1) := by decide +kernel
theorem dX4_ahead_11 : decode cX4_ahead 11 = .ok (.invokestatic 61, 3) := by decide +kernel
theorem dX4_ahead_14 : decode cX4_ahead 14 = .ok (.ifCond .eq 13, 3) := by decide +kernel
theorem dX4_ahead_17 : decode cX4_ahead 17 = .ok (.iload_n 3, 1) := by decide +kernel
theorem dX4_ahead_18 : decode cX4_ahead 18 = .ok (.iconst 0, 1) := by decide +kernel
theorem dX4_ahead_19 : decode cX4_ahead 19 = .ok (.bipush 100, 2) := by decide +kernel
theorem dX4_ahead_21 : decode cX4_ahead 21 = .ok (.invokestatic 61, 3) := by decide +kernel
theorem dX4_ahead_24 : decode cX4_ahead 24 = .ok (.ifCond .ne 9, 3) := by decide +kernel
theorem dX4_ahead_27 : decode cX4_ahead 27 = .ok (.aload_n 0, 1) := by decide +kernel
theorem dX4_ahead_28 : decode cX4_ahead 28 = .ok (.iconst 0, 1) := by decide +kernel
theorem dX4_ahead_29 : decode cX4_ahead 29 = .ok (.invokevirtual 129, 3) := by decide +kernel
theorem dX4_ahead_32 : decode cX4_ahead 32 = .ok (.ireturn, 1) := by decide +kernel
theorem dX4_ahead_33 : decode cX4_ahead 33 = .ok (.aload_n 0, 1) := by decide +kernel
theorem dX4_ahead_34 : decode cX4_ahead 34 = .ok (.invokevirtual 163, 3) := by decide +kernel
theorem dX4_ahead_37 : decode cX4_ahead 37 = .ok (.aload_n 0, 1) := by decide +kernel
theorem dX4_ahead_38 : decode cX4_ahead 38 = .ok (.iload_n 3, 1) := by decide +kernel
theorem dX4_ahead_39 : decode cX4_ahead 39 = .ok (.invokevirtual 144, 3) := by decide +kernel
theorem dX4_ahead_42 : decode cX4_ahead 42 = .ok (.aload_n 0, 1) := by decide +kernel
theorem dX4_ahead_43 : decode cX4_ahead 43 = .ok (.iload_n 1, 1) := by decide +kernel
theorem dX4_ahead_44 : decode cX4_ahead 44 = .ok (.iload_n 2, 1) := by decide +kernel
theorem dX4_ahead_45 : decode cX4_ahead 45 = .ok (.invokevirtual 65, 3) := by decide +kernel
theorem dX4_ahead_48 : decode cX4_ahead 48 = .ok (.istore 4, 2) := by decide +kernel
theorem dX4_ahead_50 : decode cX4_ahead 50 = .ok (.aload_n 0, 1) := by decide +kernel
theorem dX4_ahead_51 : decode cX4_ahead 51 = .ok (.invokevirtual 166, 3) := by decide +kernel
theorem dX4_ahead_54 : decode cX4_ahead 54 = .ok (.iload 4, 2) := by decide +kernel
theorem dX4_ahead_56 : decode cX4_ahead 56 = .ok (.ireturn, 1) := by decide +kernel
theorem dX4_fog_0 : decode cX4_fog 0 = .ok (.iload_n 1, 1) := by decide +kernel
theorem dX4_fog_1 : decode cX4_fog 1 = .ok (.invokestatic 126, 3) := by decide +kernel
theorem dX4_fog_4 : decode cX4_fog 4 = .ok (.ifCond .eq 13, 3) := by decide +kernel
theorem dX4_fog_7 : decode cX4_fog 7 = .ok (.iload_n 2, 1) := by decide +kernel
theorem dX4_fog_8 : decode cX4_fog 8 = .ok (.iconst 0, 1) := by decide +kernel
theorem dX4_fog_9 : decode cX4_fog 9 = .ok (.bipush 100, 2) := by decide +kernel
theorem dX4_fog_11 : decode cX4_fog 11 = .ok (.invokestatic 61, 3) := by decide +kernel
theorem dX4_fog_14 : decode cX4_fog 14 = .ok (.ifCond .ne 9, 3) := by decide +kernel
theorem dX4_fog_17 : decode cX4_fog 17 = .ok (.aload_n 0, 1) := by decide +kernel
theorem dX4_fog_18 : decode cX4_fog 18 = .ok (.iconst 0, 1) := by decide +kernel
theorem dX4_fog_19 : decode cX4_fog 19 = .ok (.invokevirtual 129, 3) := by decide +kernel
theorem dX4_fog_22 : decode cX4_fog 22 = .ok (.ireturn, 1) := by decide +kernel
theorem dX4_fog_23 : decode cX4_fog 23 = .ok (.aload_n 0, 1) := by decide +kernel
theorem dX4_fog_24 : decode cX4_fog 24 = .ok (.invokevirtual 163, 3) := by decide +kernel
theorem dX4_fog_27 : decode cX4_fog 27 = .ok (.aload_n 0, 1) := by decide +kernel
theorem dX4_fog_28 : decode cX4_fog 28 = .ok (.iload_n 2, 1) := by decide +kernel
theorem dX4_fog_29 : decode cX4_fog 29 = .ok (.invokevirtual 144, 3) := by decide +kernel
theorem dX4_fog_32 : decode cX4_fog 32 = .ok (.aload_n 0, 1) := by decide +kernel
theorem dX4_fog_33 : decode cX4_fog 33 = .ok (.iload_n 1, 1) := by decide +kernel
theorem dX4_fog_34 : decode cX4_fog 34 = .ok (.iconst 0, 1) := by decide +kernel
theorem dX4_fog_35 : decode cX4_fog 35 = .ok (.invokevirtual 73, 3) := by decide +kernel
theorem dX4_fog_38 : decode cX4_fog 38 = .ok (.istore_n 3, 1) := by decide +kernel
theorem dX4_fog_39 : decode cX4_fog 39 = .ok (.aload_n 0, 1) := by decide +kernel
theorem dX4_fog_40 : decode cX4_fog 40 = .ok (.invokevirtual 166, 3) := by decide +kernel
theorem dX4_fog_43 : decode cX4_fog 43 = .ok (.iload_n 3, 1) := by decide +kernel
theorem dX4_fog_44 : decode cX4_fog 44 = .ok (.ireturn, 1) := by decide +kernel
theorem dX4_isSo_0 : decode cX4_isSo 0 = .ok (.iload_n 3, 1) := by decide +kernel
theorem dX4_isSo_1 : decode cX4_isSo 1 = .ok (.ifCond .ne 21, 3) := by decide +kernel
theorem dX4_isSo_4 : decode cX4_isSo 4 = .ok (.aload_n 0, 1) := by decide +kernel
theorem dX4_isSo_5 : decode cX4_isSo 5 = .ok (.iload_n 1, 1) := by decide +kernel
theorem dX4_isSo_6 : decode cX4_isSo 6 = .ok (.iconst 4, 1) := by decide +kernel
theorem dX4_isSo_7 : decode cX4_isSo 7 = .ok (.invokevirtual 65, 3) := by decide +kernel
theorem dX4_isSo_10 : decode cX4_isSo 10 = .ok (.iload_n 2, 1) := by decide +kernel
theorem dX4_isSo_11 : decode cX4_isSo 11 = .ok (.if_icmp .le 7, 3) := by decide +kernel
theorem dX4_isSo_14 : decode cX4_isSo 14 = .ok (.iconst 1, 1) := by decide +kernel
theorem dX4_isSo_15 : decode cX4_isSo 15 = .ok (.goto 56, 3) := by decide +kernel
theorem dX4_isSo_18 : decode cX4_isSo 18 = .ok (.iconst 0, 1) := by decide +kernel
theorem dX4_isSo_19 : decode cX4_isSo 19 = .ok (.goto 52, 3) := by decide +kernel
theorem dX4_isSo_22 : decode cX4_isSo 22 = .ok (.iload_n 3, 1) := by decide +kernel
theorem dX4_isSo_23 : decode cX4_isSo 23 = .ok (.iconst 1, 1) := by decide +kernel
theorem dX4_isSo_24 : decode cX4_isSo 24 = .ok (.if_icmp .ne 18, 3) := by decide +kernel
theorem dX4_isSo_27 : decode cX4_isSo 27 = .ok (.aload_n 0, 1) := by decide +kernel
theorem dX4_isSo_28 : decode cX4_isSo 28 = .ok (.invokevirtual 147, 3) := by decide +kernel
theorem dX4_isSo_31 : decode cX4_isSo 31 = .ok (.ifCond .ne 7, 3) := by decide +kernel
theorem dX4_isSo_34 : decode cX4_isSo 34 = .ok (.iconst 1, 1) := by decide +kernel
theorem dX4_isSo_35 : decode cX4_isSo 35 = .ok (.goto 36, 3) := by decide +kernel
theorem dX4_isSo_38 : decode cX4_isSo 38 = .ok (.iconst 0, 1) := by decide +kernel
theorem dX4_isSo_39 : decode cX4_isSo 39 = .ok (.goto 32, 3) := by decide +kernel
theorem dX4_isSo_42 : decode cX4_isSo 42 = .ok (.aload_n 0, 1) := by decide +kernel
theorem dX4_isSo_43 : decode cX4_isSo 43 = .ok (.iload_n 1, 1) := by decide +kernel
theorem dX4_isSo_44 : decode cX4_isSo 44 = .ok (.iconst 1, 1) := by decide +kernel
theorem dX4_isSo_45 : decode cX4_isSo 45 = .ok (.invokevirtual 65, 3) := by decide +kernel
theorem dX4_isSo_48 : decode cX4_isSo 48 = .ok (.ifCond .lt 22, 3) := by decide +kernel
theorem dX4_isSo_51 : decode cX4_isSo 51 = .ok (.aload_n 0, 1) := by decide +kernel
theorem dX4_isSo_52 : decode cX4_isSo 52 = .ok (.iload_n 1, 1) := by decide +kernel
theorem dX4_isSo_53 : decode cX4_isSo 53 = .ok (.iconst 1, 1) := by decide +kernel
theorem dX4_isSo_54 : decode cX4_isSo 54 = .ok (.invokevirtual 65, 3) := by decide +kernel
theorem dX4_isSo_57 : decode cX4_isSo 57 = .ok (.aload_n 0, 1) := by decide +kernel
theorem dX4_isSo_58 : decode cX4_isSo 58 = .ok (.iload_n 2, 1) := by decide +kernel
theorem dX4_isSo_59 : decode cX4_isSo 59 = .ok (.iconst 1, 1) := by decide +kernel
theorem dX4_isSo_60 : decode cX4_isSo 60 = .ok (.invokevirtual 65, 3) := by decide +kernel
theorem dX4_isSo_63 : decode cX4_isSo 63 = .ok (.if_icmp .ne 7, 3) := by decide +kernel
theorem dX4_isSo_66 : decode cX4_isSo 66 = .ok (.iconst 1, 1) := by decide +kernel
theorem dX4_isSo_67 : decode cX4_isSo 67 = .ok (.goto 4, 3) := by decide +kernel
theorem dX4_isSo_70 : decode cX4_isSo 70 = .ok (.iconst 0, 1) := by decide +kernel
theorem dX4_isSo_71 : decode cX4_isSo 71 = .ok (.ireturn, 1) := by decide +kernel
theorem dX4_firstBy_0 : decode cX4_firstBy 0 = .ok (.aload_n 0, 1) := by decide +kernel
theorem dX4_firstBy_1 : decode cX4_firstBy 1 = .ok (.invokevirtual 163, 3) := by decide +kernel
theorem dX4_firstBy_4 : decode cX4_firstBy 4 = .ok (.iconst 0, 1) := by decide +kernel
theorem dX4_firstBy_5 : decode cX4_firstBy 5 = .ok (.istore 4, 2) := by decide +kernel
theorem dX4_firstBy_7 : decode cX4_firstBy 7 = .ok (.iload 4, 2) := by decide +kernel
theorem dX4_firstBy_9 : decode cX4_firstBy 9 = .ok (.bipush 100, 2) := by decide +kernel
theorem dX4_firstBy_11 : decode cX4_firstBy 11 = .ok (.if_icmp .gt 23, 3) := by decide +kernel
theorem dX4_firstBy_14 : decode cX4_firstBy 14 = .ok (.aload_n 0, 1) := by decide +kernel
theorem dX4_firstBy_15 : decode cX4_firstBy 15 = .ok (.iload_n 1, 1) := by decide +kernel
theorem dX4_firstBy_16 : decode cX4_firstBy 16 = .ok (.iload_n 2, 1) := by decide +kernel
theorem dX4_firstBy_17 : decode cX4_firstBy 17 = .ok (.iload_n 3, 1) := by decide +kernel
theorem dX4_firstBy_18 : decode cX4_firstBy 18 = .ok (.invokevirtual 169, 3) := by decide +kernel
theorem dX4_firstBy_21 : decode cX4_firstBy 21 = .ok (.ifCond .ne 13, 3) := by decide +kernel
theorem dX4_firstBy_24 : decode cX4_firstBy 24 = .ok (.aload_n 0, 1) := by decide +kernel
theorem dX4_firstBy_25 : decode cX4_firstBy 25 = .ok (.invokevirtual 123, 3) := by decide +kernel
theorem dX4_firstBy_28 : decode cX4_firstBy 28 = .ok (.iinc 4 1, 3) := by decide +kernel
theorem dX4_firstBy_31 : decode cX4_firstBy 31 = .ok (.goto (-24), 3) := by decide +kernel
theorem dX4_firstBy_34 : decode cX4_firstBy 34 = .ok (.aload_n 0, 1) := by decide +kernel
theorem dX4_firstBy_35 : decode cX4_firstBy 35 = .ok (.invokevirtual 166, 3) := by decide +kernel
theorem dX4_firstBy_38 : decode cX4_firstBy 38 = .ok (.iload 4, 2) := by decide +kernel
theorem dX4_firstBy_40 : decode cX4_firstBy 40 = .ok (.bipush 100, 2) := by decide +kernel
theorem dX4_firstBy_42 : decode cX4_firstBy 42 = .ok (.if_icmp .le 11, 3) := by decide +kernel
theorem dX4_firstBy_45 : decode cX4_firstBy 45 = .ok (.aload_n 0, 1) := by decide +kernel
theorem dX4_firstBy_46 : decode cX4_firstBy 46 = .ok (.iconst 3, 1) := by decide +kernel
theorem dX4_firstBy_47 : decode cX4_firstBy 47 = .ok (.invokevirtual 129, 3) := by decide +kernel
theorem dX4_firstBy_50 : decode cX4_firstBy 50 = .ok (.goto 5, 3) := by decide +kernel
theorem dX4_firstBy_53 : decode cX4_firstBy 53 = .ok (.iload 4, 2) := by decide +kernel
theorem dX4_firstBy_55 : decode cX4_firstBy 55 = .ok (.ireturn, 1) := by decide +kernel
theorem dX4_falls_0 : decode cX4_falls 0 = .ok (.aload_n 0, 1) := by decide +kernel
theorem dX4_falls_1 : decode cX4_falls 1 = .ok (.iload_n 1, 1) := by decide +kernel
theorem dX4_falls_2 : decode cX4_falls 2 = .ok (.invokevirtual 138, 3) := by decide +kernel
theorem dX4_falls_5 : decode cX4_falls 5 = .ok (.ifCond .eq 18, 3) := by decide +kernel
theorem dX4_falls_8 : decode cX4_falls 8 = .ok (.aload_n 0, 1) := by decide +kernel
theorem dX4_falls_9 : decode cX4_falls 9 = .ok (.iload_n 1, 1) := by decide +kernel
theorem dX4_falls_10 : decode cX4_falls 10 = .ok (.aload_n 0, 1) := by decide +kernel
theorem dX4_falls_11 : decode cX4_falls 11 = .ok (.iload_n 1, 1) := by decide +kernel
theorem dX4_falls_12 : decode cX4_falls 12 = .ok (.iconst 4, 1) := by decide +kernel
theorem dX4_falls_13 : decode cX4_falls 13 = .ok (.invokevirtual 65, 3) := by decide +kernel
theorem dX4_falls_16 : decode cX4_falls 16 = .ok (.iconst 0, 1) := by decide +kernel
theorem dX4_falls_17 : decode cX4_falls 17 = .ok (.invokevirtual 172, 3) := by decide +kernel
theorem dX4_falls_20 : decode cX4_falls 20 = .ok (.goto 8, 3) := by decide +kernel
theorem dX4_falls_23 : decode cX4_falls 23 = .ok (.aload_n 0, 1) := by decide +kernel
theorem dX4_falls_24 : decode cX4_falls 24 = .ok (.iconst 0, 1) := by decide +kernel
theorem dX4_falls_25 : decode cX4_falls 25 = .ok (.invokevirtual 129, 3) := by decide +kernel
theorem dX4_falls_28 : decode cX4_falls 28 = .ok (.ireturn, 1) := by decide +kernel
theorem dX4_bare_0 : decode cX4_bare 0 = .ok (.aload_n 0, 1) := by decide +kernel
theorem dX4_bare_1 : decode cX4_bare 1 = .ok (.iconst 0, 1) := by decide +kernel
theorem dX4_bare_2 : decode cX4_bare 2 = .ok (.iconst 0, 1) := by decide +kernel
theorem dX4_bare_3 : decode cX4_bare 3 = .ok (.iconst 1, 1) := by decide +kernel
theorem dX4_bare_4 : decode cX4_bare 4 = .ok (.invokevirtual 172, 3) := by decide +kernel
theorem dX4_bare_7 : decode cX4_bare 7 = .ok (.ireturn, 1) := by decide +kernel
theorem dX4_meet_0 : decode cX4_meet 0 = .ok (.aload_n 0, 1) := by decide +kernel
theorem dX4_meet_1 : decode cX4_meet 1 = .ok (.iload_n 1, 1) := by decide +kernel
theorem dX4_meet_2 : decode cX4_meet 2 = .ok (.invokevirtual 138, 3) := by decide +kernel
theorem dX4_meet_5 : decode cX4_meet 5 = .ok (.ifCond .eq 26, 3) := by decide +kernel
theorem dX4_meet_8 : decode cX4_meet 8 = .ok (.aload_n 0, 1) := by decide +kernel
theorem dX4_meet_9 : decode cX4_meet 9 = .ok (.iload_n 2, 1) := by decide +kernel
theorem dX4_meet_10 : decode cX4_meet 10 = .ok (.invokevirtual 138, 3) := by decide +kernel
theorem dX4_meet_13 : decode cX4_meet 13 = .ok (.ifCond .eq 18, 3) := by decide +kernel
theorem dX4_meet_16 : decode cX4_meet 16 = .ok (.iload_n 1, 1) := by decide +kernel
theorem dX4_meet_17 : decode cX4_meet 17 = .ok (.iload_n 2, 1) := by decide +kernel
theorem dX4_meet_18 : decode cX4_meet 18 = .ok (.if_icmp .eq 13, 3) := by decide +kernel
theorem dX4_meet_21 : decode cX4_meet 21 = .ok (.aload_n 0, 1) := by decide +kernel
theorem dX4_meet_22 : decode cX4_meet 22 = .ok (.iload_n 1, 1) := by decide +kernel
theorem dX4_meet_23 : decode cX4_meet 23 = .ok (.iload_n 2, 1) := by decide +kernel
theorem dX4_meet_24 : decode cX4_meet 24 = .ok (.iconst 2, 1) := by decide +kernel
theorem dX4_meet_25 : decode cX4_meet 25 = .ok (.invokevirtual 172, 3) := by decide +kernel
theorem dX4_meet_28 : decode cX4_meet 28 = .ok (.goto 8, 3) := by decide +kernel
theorem dX4_meet_31 : decode cX4_meet 31 = .ok (.aload_n 0, 1) := by decide +kernel
theorem dX4_meet_32 : decode cX4_meet 32 = .ok (.iconst 0, 1) := by decide +kernel
theorem dX4_meet_33 : decode cX4_meet 33 = .ok (.invokevirtual 129, 3) := by decide +kernel
theorem dX4_meet_36 : decode cX4_meet 36 = .ok (.ireturn, 1) := by decide +kernel
theorem dX4_isSoon_0 : decode cX4_isSoon 0 = .ok (.iload_n 0, 1) := by decide +kernel
theorem dX4_isSoon_1 : decode cX4_isSoon 1 = .ok (.iconst 0, 1) := by decide +kernel
theorem dX4_isSoon_2 : decode cX4_isSoon 2 = .ok (.bipush 40, 2) := by decide +kernel
theorem dX4_isSoon_4 : decode cX4_isSoon 4 = .ok (.invokestatic 61, 3) := by decide +kernel
theorem dX4_isSoon_7 : decode cX4_isSoon 7 = .ok (.ireturn, 1) := by decide +kernel
theorem dX4_thenWith_0 : decode cX4_thenWith 0 = .ok (.aload_n 0, 1) := by decide +kernel
theorem dX4_thenWith_1 : decode cX4_thenWith 1 = .ok (.invokevirtual 163, 3) := by decide +kernel
theorem dX4_thenWith_4 : decode cX4_thenWith 4 = .ok (.aload_n 0, 1) := by decide +kernel
theorem dX4_thenWith_5 : decode cX4_thenWith 5 = .ok (.iload_n 1, 1) := by decide +kernel
theorem dX4_thenWith_6 : decode cX4_thenWith 6 = .ok (.iload_n 2, 1) := by decide +kernel
theorem dX4_thenWith_7 : decode cX4_thenWith 7 = .ok (.iload_n 3, 1) := by decide +kernel
theorem dX4_thenWith_8 : decode cX4_thenWith 8 = .ok (.invokevirtual 95, 3) := by decide +kernel
theorem dX4_thenWith_11 : decode cX4_thenWith 11 = .ok (.aload_n 0, 1) := by decide +kernel
theorem dX4_thenWith_12 : decode cX4_thenWith 12 = .ok (.iload 4, 2) := by decide +kernel
theorem dX4_thenWith_14 : decode cX4_thenWith 14 = .ok (.invokevirtual 144, 3) := by decide +kernel
theorem dX4_thenWith_17 : decode cX4_thenWith 17 = .ok (.aload_n 0, 1) := by decide +kernel
theorem dX4_thenWith_18 : decode cX4_thenWith 18 = .ok (.iload_n 1, 1) := by decide +kernel
theorem dX4_thenWith_19 : decode cX4_thenWith 19 = .ok (.iload 5, 2) := by decide +kernel
theorem dX4_thenWith_21 : decode cX4_thenWith 21 = .ok (.invokevirtual 65, 3) := by decide +kernel
theorem dX4_thenWith_24 : decode cX4_thenWith 24 = .ok (.istore 6, 2) := by decide +kernel
theorem dX4_thenWith_26 : decode cX4_thenWith 26 = .ok (.aload_n 0, 1) := by decide +kernel
theorem dX4_thenWith_27 : decode cX4_thenWith 27 = .ok (.invokevirtual 166, 3) := by decide +kernel
theorem dX4_thenWith_30 : decode cX4_thenWith 30 = .ok (.iload 6, 2) := by decide +kernel
theorem dX4_thenWith_32 : decode cX4_thenWith 32 = .ok (.ireturn, 1) := by decide +kernel
theorem dX4_beliefFor_0 : decode cX4_beliefFor 0 = .ok (.aload_n 0, 1) := by decide +kernel
theorem dX4_beliefFor_1 : decode cX4_beliefFor 1 = .ok (.iload_n 1, 1) := by decide +kernel
theorem dX4_beliefFor_2 : decode cX4_beliefFor 2 = .ok (.invokevirtual 138, 3) := by decide +kernel
theorem dX4_beliefFor_5 : decode cX4_beliefFor 5 = .ok (.ifCond .eq 10, 3) := by decide +kernel
theorem dX4_beliefFor_8 : decode cX4_beliefFor 8 = .ok (.iload_n 2, 1) := by decide +kernel
theorem dX4_beliefFor_9 : decode cX4_beliefFor 9 = .ok (.invokestatic 176, 3) := by decide +kernel
theorem dX4_beliefFor_12 : decode cX4_beliefFor 12 = .ok (.ifCond .ne 9, 3) := by decide +kernel
theorem dX4_beliefFor_15 : decode cX4_beliefFor 15 = .ok (.aload_n 0, 1) := by decide +kernel
theorem dX4_beliefFor_16 : decode cX4_beliefFor 16 = .ok (.iconst 0, 1) := by decide +kernel
theorem dX4_beliefFor_17 : decode cX4_beliefFor 17 = .ok (.invokevirtual 129, 3) := by decide +kernel
theorem dX4_beliefFor_20 : decode cX4_beliefFor 20 = .ok (.ireturn, 1) := by decide +kernel
theorem dX4_beliefFor_21 : decode cX4_beliefFor 21 = .ok (.iconst 0, 1) := by decide +kernel
theorem dX4_beliefFor_22 : decode cX4_beliefFor 22 = .ok (.istore_n 3, 1) := by decide +kernel
theorem dX4_beliefFor_23 : decode cX4_beliefFor 23 = .ok (.iload_n 3, 1) := by decide +kernel
theorem dX4_beliefFor_24 : decode cX4_beliefFor 24 = .ok (.bipush 100, 2) := by decide +kernel
theorem dX4_beliefFor_26 : decode cX4_beliefFor 26 = .ok (.if_icmp .ge 27, 3) := by decide +kernel
theorem dX4_beliefFor_29 : decode cX4_beliefFor 29 = .ok (.aload_n 0, 1) := by decide +kernel
theorem dX4_beliefFor_30 : decode cX4_beliefFor 30 = .ok (.iload_n 1, 1) := by decide +kernel
theorem dX4_beliefFor_31 : decode cX4_beliefFor 31 = .ok (.iconst 2, 1) := by decide +kernel
theorem dX4_beliefFor_32 : decode cX4_beliefFor 32 = .ok (.iload_n 3, 1) := by decide +kernel
theorem dX4_beliefFor_33 : decode cX4_beliefFor 33 = .ok (.iload_n 2, 1) := by decide +kernel
theorem dX4_beliefFor_34 : decode cX4_beliefFor 34 = .ok (.iconst 4, 1) := by decide +kernel
theorem dX4_beliefFor_35 : decode cX4_beliefFor 35 = .ok (.invokevirtual 179, 3) := by decide +kernel
theorem dX4_beliefFor_38 : decode cX4_beliefFor 38 = .ok (.aload_n 0, 1) := by decide +kernel
theorem dX4_beliefFor_39 : decode cX4_beliefFor 39 = .ok (.iload_n 1, 1) := by decide +kernel
theorem dX4_beliefFor_40 : decode cX4_beliefFor 40 = .ok (.iconst 4, 1) := by decide +kernel
theorem dX4_beliefFor_41 : decode cX4_beliefFor 41 = .ok (.invokevirtual 65, 3) := by decide +kernel
theorem dX4_beliefFor_44 : decode cX4_beliefFor 44 = .ok (.if_icmp .eq 9, 3) := by decide +kernel
theorem dX4_beliefFor_47 : decode cX4_beliefFor 47 = .ok (.iinc 3 1, 3) := by decide +kernel
theorem dX4_beliefFor_50 : decode cX4_beliefFor 50 = .ok (.goto (-27), 3) := by decide +kernel
theorem dX4_beliefFor_53 : decode cX4_beliefFor 53 = .ok (.iload_n 3, 1) := by decide +kernel
theorem dX4_beliefFor_54 : decode cX4_beliefFor 54 = .ok (.bipush 100, 2) := by decide +kernel
theorem dX4_beliefFor_56 : decode cX4_beliefFor 56 = .ok (.if_icmp .ne 11, 3) := by decide +kernel
theorem dX4_beliefFor_59 : decode cX4_beliefFor 59 = .ok (.aload_n 0, 1) := by decide +kernel
theorem dX4_beliefFor_60 : decode cX4_beliefFor 60 = .ok (.iconst 3, 1) := by decide +kernel
theorem dX4_beliefFor_61 : decode cX4_beliefFor 61 = .ok (.invokevirtual 129, 3) := by decide +kernel
theorem dX4_beliefFor_64 : decode cX4_beliefFor 64 = .ok (.goto 4, 3) := by decide +kernel
theorem dX4_beliefFor_67 : decode cX4_beliefFor 67 = .ok (.iload_n 3, 1) := by decide +kernel
theorem dX4_beliefFor_68 : decode cX4_beliefFor 68 = .ok (.ireturn, 1) := by decide +kernel
theorem dX4_settle_0 : decode cX4_settle 0 = .ok (.aload_n 0, 1) := by decide +kernel
theorem dX4_settle_1 : decode cX4_settle 1 = .ok (.iload_n 1, 1) := by decide +kernel
theorem dX4_settle_2 : decode cX4_settle 2 = .ok (.invokevirtual 138, 3) := by decide +kernel
theorem dX4_settle_5 : decode cX4_settle 5 = .ok (.ifCond .eq 10, 3) := by decide +kernel
theorem dX4_settle_8 : decode cX4_settle 8 = .ok (.iload_n 2, 1) := by decide +kernel
theorem dX4_settle_9 : decode cX4_settle 9 = .ok (.invokestatic 176, 3) := by decide +kernel
theorem dX4_settle_12 : decode cX4_settle 12 = .ok (.ifCond .ne 9, 3) := by decide +kernel
theorem dX4_settle_15 : decode cX4_settle 15 = .ok (.aload_n 0, 1) := by decide +kernel
theorem dX4_settle_16 : decode cX4_settle 16 = .ok (.iconst 0, 1) := by decide +kernel
theorem dX4_settle_17 : decode cX4_settle 17 = .ok (.invokevirtual 129, 3) := by decide +kernel
theorem dX4_settle_20 : decode cX4_settle 20 = .ok (.ireturn, 1) := by decide +kernel
theorem dX4_settle_21 : decode cX4_settle 21 = .ok (.iconst 0, 1) := by decide +kernel
theorem dX4_settle_22 : decode cX4_settle 22 = .ok (.istore_n 3, 1) := by decide +kernel
theorem dX4_settle_23 : decode cX4_settle 23 = .ok (.aload_n 0, 1) := by decide +kernel
theorem dX4_settle_24 : decode cX4_settle 24 = .ok (.iload_n 1, 1) := by decide +kernel
theorem dX4_settle_25 : decode cX4_settle 25 = .ok (.iconst 1, 1) := by decide +kernel
theorem dX4_settle_26 : decode cX4_settle 26 = .ok (.iconst 0, 1) := by decide +kernel
theorem dX4_settle_27 : decode cX4_settle 27 = .ok (.iload_n 2, 1) := by decide +kernel
theorem dX4_settle_28 : decode cX4_settle 28 = .ok (.iconst 4, 1) := by decide +kernel
theorem dX4_settle_29 : decode cX4_settle 29 = .ok (.invokevirtual 179, 3) := by decide +kernel
theorem dX4_settle_32 : decode cX4_settle 32 = .ok (.istore 4, 2) := by decide +kernel
theorem dX4_settle_34 : decode cX4_settle 34 = .ok (.iconst 1, 1) := by decide +kernel
theorem dX4_settle_35 : decode cX4_settle 35 = .ok (.istore 5, 2) := by decide +kernel
theorem dX4_settle_37 : decode cX4_settle 37 = .ok (.iload 5, 2) := by decide +kernel
theorem dX4_settle_39 : decode cX4_settle 39 = .ok (.bipush 10, 2) := by decide +kernel
theorem dX4_settle_41 : decode cX4_settle 41 = .ok (.if_icmp .ge 44, 3) := by decide +kernel
theorem dX4_settle_44 : decode cX4_settle 44 = .ok (.aload_n 0, 1) := by decide +kernel
theorem dX4_settle_45 : decode cX4_settle 45 = .ok (.iload_n 1, 1) := by decide +kernel
theorem dX4_settle_46 : decode cX4_settle 46 = .ok (.iconst 1, 1) := by decide +kernel
theorem dX4_settle_47 : decode cX4_settle 47 = .ok (.iload 5, 2) := by decide +kernel
theorem dX4_settle_49 : decode cX4_settle 49 = .ok (.iload_n 2, 1) := by decide +kernel
theorem dX4_settle_50 : decode cX4_settle 50 = .ok (.iconst 4, 1) := by decide +kernel
theorem dX4_settle_51 : decode cX4_settle 51 = .ok (.invokevirtual 179, 3) := by decide +kernel
theorem dX4_settle_54 : decode cX4_settle 54 = .ok (.istore 6, 2) := by decide +kernel
theorem dX4_settle_56 : decode cX4_settle 56 = .ok (.iload 6, 2) := by decide +kernel
theorem dX4_settle_58 : decode cX4_settle 58 = .ok (.iload 4, 2) := by decide +kernel
theorem dX4_settle_60 : decode cX4_settle 60 = .ok (.if_icmp .ge 8, 3) := by decide +kernel
theorem dX4_settle_63 : decode cX4_settle 63 = .ok (.iload 5, 2) := by decide +kernel
theorem dX4_settle_65 : decode cX4_settle 65 = .ok (.goto 4, 3) := by decide +kernel
theorem dX4_settle_68 : decode cX4_settle 68 = .ok (.iload_n 3, 1) := by decide +kernel
theorem dX4_settle_69 : decode cX4_settle 69 = .ok (.istore_n 3, 1) := by decide +kernel
theorem dX4_settle_70 : decode cX4_settle 70 = .ok (.iload 6, 2) := by decide +kernel
theorem dX4_settle_72 : decode cX4_settle 72 = .ok (.iload 4, 2) := by decide +kernel
theorem dX4_settle_74 : decode cX4_settle 74 = .ok (.invokestatic 89, 3) := by decide +kernel
theorem dX4_settle_77 : decode cX4_settle 77 = .ok (.istore 4, 2) := by decide +kernel
theorem dX4_settle_79 : decode cX4_settle 79 = .ok (.iinc 5 1, 3) := by decide +kernel
theorem dX4_settle_82 : decode cX4_settle 82 = .ok (.goto (-45), 3) := by decide +kernel
theorem dX4_settle_85 : decode cX4_settle 85 = .ok (.iload_n 3, 1) := by decide +kernel
theorem dX4_settle_86 : decode cX4_settle 86 = .ok (.ireturn, 1) := by decide +kernel
theorem dX4_kindFor_0 : decode cX4_kindFor 0 = .ok (.aload_n 0, 1) := by decide +kernel
theorem dX4_kindFor_1 : decode cX4_kindFor 1 = .ok (.iload_n 1, 1) := by decide +kernel
theorem dX4_kindFor_2 : decode cX4_kindFor 2 = .ok (.invokevirtual 138, 3) := by decide +kernel
theorem dX4_kindFor_5 : decode cX4_kindFor 5 = .ok (.ifCond .eq 10, 3) := by decide +kernel
theorem dX4_kindFor_8 : decode cX4_kindFor 8 = .ok (.iload_n 2, 1) := by decide +kernel
theorem dX4_kindFor_9 : decode cX4_kindFor 9 = .ok (.invokestatic 176, 3) := by decide +kernel
theorem dX4_kindFor_12 : decode cX4_kindFor 12 = .ok (.ifCond .ne 9, 3) := by decide +kernel
theorem dX4_kindFor_15 : decode cX4_kindFor 15 = .ok (.aload_n 0, 1) := by decide +kernel
theorem dX4_kindFor_16 : decode cX4_kindFor 16 = .ok (.iconst 0, 1) := by decide +kernel
theorem dX4_kindFor_17 : decode cX4_kindFor 17 = .ok (.invokevirtual 129, 3) := by decide +kernel
theorem dX4_kindFor_20 : decode cX4_kindFor 20 = .ok (.ireturn, 1) := by decide +kernel
theorem dX4_kindFor_21 : decode cX4_kindFor 21 = .ok (.iconst 0, 1) := by decide +kernel
theorem dX4_kindFor_22 : decode cX4_kindFor 22 = .ok (.istore_n 3, 1) := by decide +kernel
theorem dX4_kindFor_23 : decode cX4_kindFor 23 = .ok (.aload_n 0, 1) := by decide +kernel
theorem dX4_kindFor_24 : decode cX4_kindFor 24 = .ok (.iload_n 1, 1) := by decide +kernel
theorem dX4_kindFor_25 : decode cX4_kindFor 25 = .ok (.iconst 0, 1) := by decide +kernel
theorem dX4_kindFor_26 : decode cX4_kindFor 26 = .ok (.iconst 0, 1) := by decide +kernel
theorem dX4_kindFor_27 : decode cX4_kindFor 27 = .ok (.iload_n 2, 1) := by decide +kernel
theorem dX4_kindFor_28 : decode cX4_kindFor 28 = .ok (.iconst 3, 1) := by decide +kernel
theorem dX4_kindFor_29 : decode cX4_kindFor 29 = .ok (.invokevirtual 179, 3) := by decide +kernel
theorem dX4_kindFor_32 : decode cX4_kindFor 32 = .ok (.istore 4, 2) := by decide +kernel
theorem dX4_kindFor_34 : decode cX4_kindFor 34 = .ok (.iconst 1, 1) := by decide +kernel
theorem dX4_kindFor_35 : decode cX4_kindFor 35 = .ok (.istore 5, 2) := by decide +kernel
theorem dX4_kindFor_37 : decode cX4_kindFor 37 = .ok (.iload 5, 2) := by decide +kernel
theorem dX4_kindFor_39 : decode cX4_kindFor 39 = .ok (.bipush 6, 2) := by decide +kernel
theorem dX4_kindFor_41 : decode cX4_kindFor 41 = .ok (.if_icmp .gt 51, 3) := by decide +kernel
theorem dX4_kindFor_44 : decode cX4_kindFor 44 = .ok (.aload_n 0, 1) := by decide +kernel
theorem dX4_kindFor_45 : decode cX4_kindFor 45 = .ok (.iload_n 1, 1) := by decide +kernel
theorem dX4_kindFor_46 : decode cX4_kindFor 46 = .ok (.iconst 0, 1) := by decide +kernel
theorem dX4_kindFor_47 : decode cX4_kindFor 47 = .ok (.iload 5, 2) := by decide +kernel
theorem dX4_kindFor_49 : decode cX4_kindFor 49 = .ok (.iload_n 2, 1) := by decide +kernel
theorem dX4_kindFor_50 : decode cX4_kindFor 50 = .ok (.iconst 3, 1) := by decide +kernel
theorem dX4_kindFor_51 : decode cX4_kindFor 51 = .ok (.invokevirtual 179, 3) := by decide +kernel
theorem dX4_kindFor_54 : decode cX4_kindFor 54 = .ok (.istore 6, 2) := by decide +kernel
theorem dX4_kindFor_56 : decode cX4_kindFor 56 = .ok (.iload 6, 2) := by decide +kernel
theorem dX4_kindFor_58 : decode cX4_kindFor 58 = .ok (.iload 4, 2) := by decide +kernel
theorem dX4_kindFor_60 : decode cX4_kindFor 60 = .ok (.if_icmp .le 8, 3) := by decide +kernel
theorem dX4_kindFor_63 : decode cX4_kindFor 63 = .ok (.iload 5, 2) := by decide +kernel
theorem dX4_kindFor_65 : decode cX4_kindFor 65 = .ok (.goto 4, 3) := by decide +kernel
theorem dX4_kindFor_68 : decode cX4_kindFor 68 = .ok (.iload_n 3, 1) := by decide +kernel
theorem dX4_kindFor_69 : decode cX4_kindFor 69 = .ok (.istore_n 3, 1) := by decide +kernel
theorem dX4_kindFor_70 : decode cX4_kindFor 70 = .ok (.iload 6, 2) := by decide +kernel
theorem dX4_kindFor_72 : decode cX4_kindFor 72 = .ok (.iload 4, 2) := by decide +kernel
theorem dX4_kindFor_74 : decode cX4_kindFor 74 = .ok (.if_icmp .le 8, 3) := by decide +kernel
theorem dX4_kindFor_77 : decode cX4_kindFor 77 = .ok (.iload 6, 2) := by decide +kernel
theorem dX4_kindFor_79 : decode cX4_kindFor 79 = .ok (.goto 5, 3) := by decide +kernel
theorem dX4_kindFor_82 : decode cX4_kindFor 82 = .ok (.iload 4, 2) := by decide +kernel
theorem dX4_kindFor_84 : decode cX4_kindFor 84 = .ok (.istore 4, 2) := by decide +kernel
theorem dX4_kindFor_86 : decode cX4_kindFor 86 = .ok (.iinc 5 1, 3) := by decide +kernel
theorem dX4_kindFor_89 : decode cX4_kindFor 89 = .ok (.goto (-52), 3) := by decide +kernel
theorem dX4_kindFor_92 : decode cX4_kindFor 92 = .ok (.iload_n 3, 1) := by decide +kernel
theorem dX4_kindFor_93 : decode cX4_kindFor 93 = .ok (.ireturn, 1) := by decide +kernel
theorem dX4_rentFor_0 : decode cX4_rentFor 0 = .ok (.iload_n 1, 1) := by decide +kernel
theorem dX4_rentFor_1 : decode cX4_rentFor 1 = .ok (.invokestatic 126, 3) := by decide +kernel
theorem dX4_rentFor_4 : decode cX4_rentFor 4 = .ok (.ifCond .eq 10, 3) := by decide +kernel
theorem dX4_rentFor_7 : decode cX4_rentFor 7 = .ok (.iload_n 2, 1) := by decide +kernel
theorem dX4_rentFor_8 : decode cX4_rentFor 8 = .ok (.invokestatic 176, 3) := by decide +kernel
theorem dX4_rentFor_11 : decode cX4_rentFor 11 = .ok (.ifCond .ne 9, 3) := by decide +kernel
theorem dX4_rentFor_14 : decode cX4_rentFor 14 = .ok (.aload_n 0, 1) := by decide +kernel
theorem dX4_rentFor_15 : decode cX4_rentFor 15 = .ok (.iconst 0, 1) := by decide +kernel
theorem dX4_rentFor_16 : decode cX4_rentFor 16 = .ok (.invokevirtual 129, 3) := by decide +kernel
theorem dX4_rentFor_19 : decode cX4_rentFor 19 = .ok (.ireturn, 1) := by decide +kernel
theorem dX4_rentFor_20 : decode cX4_rentFor 20 = .ok (.aload_n 0, 1) := by decide +kernel
theorem dX4_rentFor_21 : decode cX4_rentFor 21 = .ok (.iload_n 1, 1) := by decide +kernel
theorem dX4_rentFor_22 : decode cX4_rentFor 22 = .ok (.iconst 2, 1) := by decide +kernel
theorem dX4_rentFor_23 : decode cX4_rentFor 23 = .ok (.invokevirtual 73, 3) := by decide +kernel
theorem dX4_rentFor_26 : decode cX4_rentFor 26 = .ok (.istore_n 3, 1) := by decide +kernel
theorem dX4_rentFor_27 : decode cX4_rentFor 27 = .ok (.iload_n 3, 1) := by decide +kernel
theorem dX4_rentFor_28 : decode cX4_rentFor 28 = .ok (.ifCond .ge 9, 3) := by decide +kernel
theorem dX4_rentFor_31 : decode cX4_rentFor 31 = .ok (.aload_n 0, 1) := by decide +kernel
theorem dX4_rentFor_32 : decode cX4_rentFor 32 = .ok (.iconst 3, 1) := by decide +kernel
theorem dX4_rentFor_33 : decode cX4_rentFor 33 = .ok (.invokevirtual 129, 3) := by decide +kernel
theorem dX4_rentFor_36 : decode cX4_rentFor 36 = .ok (.ireturn, 1) := by decide +kernel
theorem dX4_rentFor_37 : decode cX4_rentFor 37 = .ok (.iconst 0, 1) := by decide +kernel
theorem dX4_rentFor_38 : decode cX4_rentFor 38 = .ok (.istore 4, 2) := by decide +kernel
theorem dX4_rentFor_40 : decode cX4_rentFor 40 = .ok (.iconst (-1), 1) := by decide +kernel
theorem dX4_rentFor_41 : decode cX4_rentFor 41 = .ok (.istore 5, 2) := by decide +kernel
theorem dX4_rentFor_43 : decode cX4_rentFor 43 = .ok (.iconst 0, 1) := by decide +kernel
theorem dX4_rentFor_44 : decode cX4_rentFor 44 = .ok (.istore 6, 2) := by decide +kernel
theorem dX4_rentFor_46 : decode cX4_rentFor 46 = .ok (.iload 6, 2) := by decide +kernel
theorem dX4_rentFor_48 : decode cX4_rentFor 48 = .ok (.bipush 20, 2) := by decide +kernel
theorem dX4_rentFor_50 : decode cX4_rentFor 50 = .ok (.if_icmp .gt 70, 3) := by decide +kernel
theorem dX4_rentFor_53 : decode cX4_rentFor 53 = .ok (.aload_n 0, 1) := by decide +kernel
theorem dX4_rentFor_54 : decode cX4_rentFor 54 = .ok (.invokevirtual 163, 3) := by decide +kernel
theorem dX4_rentFor_57 : decode cX4_rentFor 57 = .ok (.aload_n 0, 1) := by decide +kernel
theorem dX4_rentFor_58 : decode cX4_rentFor 58 = .ok (.iload_n 1, 1) := by decide +kernel
theorem dX4_rentFor_59 : decode cX4_rentFor 59 = .ok (.iconst 1, 1) := by decide +kernel
theorem dX4_rentFor_60 : decode cX4_rentFor 60 = .ok (.iload 6, 2) := by decide +kernel
theorem dX4_rentFor_62 : decode cX4_rentFor 62 = .ok (.invokevirtual 56, 3) := by decide +kernel
theorem dX4_rentFor_65 : decode cX4_rentFor 65 = .ok (.aload_n 0, 1) := by decide +kernel
theorem dX4_rentFor_66 : decode cX4_rentFor 66 = .ok (.iload_n 2, 1) := by decide +kernel
theorem dX4_rentFor_67 : decode cX4_rentFor 67 = .ok (.invokevirtual 144, 3) := by decide +kernel
theorem dX4_rentFor_70 : decode cX4_rentFor 70 = .ok (.aload_n 0, 1) := by decide +kernel
theorem dX4_rentFor_71 : decode cX4_rentFor 71 = .ok (.iload_n 3, 1) := by decide +kernel
theorem dX4_rentFor_72 : decode cX4_rentFor 72 = .ok (.iconst 3, 1) := by decide +kernel
theorem dX4_rentFor_73 : decode cX4_rentFor 73 = .ok (.invokevirtual 65, 3) := by decide +kernel
theorem dX4_rentFor_76 : decode cX4_rentFor 76 = .ok (.istore 7, 2) := by decide +kernel
theorem dX4_rentFor_78 : decode cX4_rentFor 78 = .ok (.aload_n 0, 1) := by decide +kernel
theorem dX4_rentFor_79 : decode cX4_rentFor 79 = .ok (.invokevirtual 166, 3) := by decide +kernel
theorem dX4_rentFor_82 : decode cX4_rentFor 82 = .ok (.iload 7, 2) := by decide +kernel
theorem dX4_rentFor_84 : decode cX4_rentFor 84 = .ok (.iload 5, 2) := by decide +kernel
theorem dX4_rentFor_86 : decode cX4_rentFor 86 = .ok (.if_icmp .le 8, 3) := by decide +kernel
theorem dX4_rentFor_89 : decode cX4_rentFor 89 = .ok (.iload 6, 2) := by decide +kernel
theorem dX4_rentFor_91 : decode cX4_rentFor 91 = .ok (.goto 5, 3) := by decide +kernel
theorem dX4_rentFor_94 : decode cX4_rentFor 94 = .ok (.iload 4, 2) := by decide +kernel
theorem dX4_rentFor_96 : decode cX4_rentFor 96 = .ok (.istore 4, 2) := by decide +kernel
theorem dX4_rentFor_98 : decode cX4_rentFor 98 = .ok (.iload 7, 2) := by decide +kernel
theorem dX4_rentFor_100 : decode cX4_rentFor 100 = .ok (.iload 5, 2) := by decide +kernel
theorem dX4_rentFor_102 : decode cX4_rentFor 102 = .ok (.if_icmp .le 8, 3) := by decide +kernel
theorem dX4_rentFor_105 : decode cX4_rentFor 105 = .ok (.iload 7, 2) := by decide +kernel
theorem dX4_rentFor_107 : decode cX4_rentFor 107 = .ok (.goto 5, 3) := by decide +kernel
theorem dX4_rentFor_110 : decode cX4_rentFor 110 = .ok (.iload 5, 2) := by decide +kernel
theorem dX4_rentFor_112 : decode cX4_rentFor 112 = .ok (.istore 5, 2) := by decide +kernel
theorem dX4_rentFor_114 : decode cX4_rentFor 114 = .ok (.iinc 6 1, 3) := by decide +kernel
theorem dX4_rentFor_117 : decode cX4_rentFor 117 = .ok (.goto (-71), 3) := by decide +kernel
theorem dX4_rentFor_120 : decode cX4_rentFor 120 = .ok (.iload 4, 2) := by decide +kernel
theorem dX4_rentFor_122 : decode cX4_rentFor 122 = .ok (.ireturn, 1) := by decide +kernel
theorem dX4_fellBy_0 : decode cX4_fellBy 0 = .ok (.aload_n 0, 1) := by decide +kernel
theorem dX4_fellBy_1 : decode cX4_fellBy 1 = .ok (.invokevirtual 163, 3) := by decide +kernel
theorem dX4_fellBy_4 : decode cX4_fellBy 4 = .ok (.iconst 0, 1) := by decide +kernel
theorem dX4_fellBy_5 : decode cX4_fellBy 5 = .ok (.istore_n 3, 1) := by decide +kernel
theorem dX4_fellBy_6 : decode cX4_fellBy 6 = .ok (.iload_n 3, 1) := by decide +kernel
theorem dX4_fellBy_7 : decode cX4_fellBy 7 = .ok (.bipush 6, 2) := by decide +kernel
theorem dX4_fellBy_9 : decode cX4_fellBy 9 = .ok (.if_icmp .ge 18, 3) := by decide +kernel
theorem dX4_fellBy_12 : decode cX4_fellBy 12 = .ok (.aload_n 0, 1) := by decide +kernel
theorem dX4_fellBy_13 : decode cX4_fellBy 13 = .ok (.getfield 9, 3) := by decide +kernel
theorem dX4_fellBy_16 : decode cX4_fellBy 16 = .ok (.iconst 4, 1) := by decide +kernel
theorem dX4_fellBy_17 : decode cX4_fellBy 17 = .ok (.iload_n 3, 1) := by decide +kernel
theorem dX4_fellBy_18 : decode cX4_fellBy 18 = .ok (.iadd, 1) := by decide +kernel
theorem dX4_fellBy_19 : decode cX4_fellBy 19 = .ok (.iload_n 1, 1) := by decide +kernel
theorem dX4_fellBy_20 : decode cX4_fellBy 20 = .ok (.iastore, 1) := by decide +kernel
theorem dX4_fellBy_21 : decode cX4_fellBy 21 = .ok (.iinc 3 1, 3) := by decide +kernel
theorem dX4_fellBy_24 : decode cX4_fellBy 24 = .ok (.goto (-18), 3) := by decide +kernel
theorem dX4_fellBy_27 : decode cX4_fellBy 27 = .ok (.aload_n 0, 1) := by decide +kernel
theorem dX4_fellBy_28 : decode cX4_fellBy 28 = .ok (.iload_n 2, 1) := by decide +kernel
theorem dX4_fellBy_29 : decode cX4_fellBy 29 = .ok (.invokevirtual 144, 3) := by decide +kernel
theorem dX4_fellBy_32 : decode cX4_fellBy 32 = .ok (.aload_n 0, 1) := by decide +kernel
theorem dX4_fellBy_33 : decode cX4_fellBy 33 = .ok (.iconst 4, 1) := by decide +kernel
theorem dX4_fellBy_34 : decode cX4_fellBy 34 = .ok (.invokevirtual 154, 3) := by decide +kernel
theorem dX4_fellBy_37 : decode cX4_fellBy 37 = .ok (.istore_n 3, 1) := by decide +kernel
theorem dX4_fellBy_38 : decode cX4_fellBy 38 = .ok (.aload_n 0, 1) := by decide +kernel
theorem dX4_fellBy_39 : decode cX4_fellBy 39 = .ok (.invokevirtual 166, 3) := by decide +kernel
theorem dX4_fellBy_42 : decode cX4_fellBy 42 = .ok (.iload_n 3, 1) := by decide +kernel
theorem dX4_fellBy_43 : decode cX4_fellBy 43 = .ok (.ireturn, 1) := by decide +kernel
theorem dX4_sunFor_0 : decode cX4_sunFor 0 = .ok (.iload_n 1, 1) := by decide +kernel
theorem dX4_sunFor_1 : decode cX4_sunFor 1 = .ok (.invokestatic 176, 3) := by decide +kernel
theorem dX4_sunFor_4 : decode cX4_sunFor 4 = .ok (.ifCond .ne 9, 3) := by decide +kernel
theorem dX4_sunFor_7 : decode cX4_sunFor 7 = .ok (.aload_n 0, 1) := by decide +kernel
theorem dX4_sunFor_8 : decode cX4_sunFor 8 = .ok (.iconst 0, 1) := by decide +kernel
theorem dX4_sunFor_9 : decode cX4_sunFor 9 = .ok (.invokevirtual 129, 3) := by decide +kernel
theorem dX4_sunFor_12 : decode cX4_sunFor 12 = .ok (.ireturn, 1) := by decide +kernel
theorem dX4_sunFor_13 : decode cX4_sunFor 13 = .ok (.bipush 40, 2) := by decide +kernel
theorem dX4_sunFor_15 : decode cX4_sunFor 15 = .ok (.istore_n 2, 1) := by decide +kernel
theorem dX4_sunFor_16 : decode cX4_sunFor 16 = .ok (.iload_n 2, 1) := by decide +kernel
theorem dX4_sunFor_17 : decode cX4_sunFor 17 = .ok (.ifCond .lt 23, 3) := by decide +kernel
theorem dX4_sunFor_20 : decode cX4_sunFor 20 = .ok (.aload_n 0, 1) := by decide +kernel
theorem dX4_sunFor_21 : decode cX4_sunFor 21 = .ok (.iload_n 2, 1) := by decide +kernel
theorem dX4_sunFor_22 : decode cX4_sunFor 22 = .ok (.iload_n 1, 1) := by decide +kernel
theorem dX4_sunFor_23 : decode cX4_sunFor 23 = .ok (.invokevirtual 183, 3) := by decide +kernel
theorem dX4_sunFor_26 : decode cX4_sunFor 26 = .ok (.aload_n 0, 1) := by decide +kernel
theorem dX4_sunFor_27 : decode cX4_sunFor 27 = .ok (.iconst 4, 1) := by decide +kernel
theorem dX4_sunFor_28 : decode cX4_sunFor 28 = .ok (.invokevirtual 154, 3) := by decide +kernel
theorem dX4_sunFor_31 : decode cX4_sunFor 31 = .ok (.if_icmp .eq 9, 3) := by decide +kernel
theorem dX4_sunFor_34 : decode cX4_sunFor 34 = .ok (.iinc 2 (-1), 3) := by decide +kernel
theorem dX4_sunFor_37 : decode cX4_sunFor 37 = .ok (.goto (-21), 3) := by decide +kernel
theorem dX4_sunFor_40 : decode cX4_sunFor 40 = .ok (.iload_n 2, 1) := by decide +kernel
theorem dX4_sunFor_41 : decode cX4_sunFor 41 = .ok (.ifCond .ge 11, 3) := by decide +kernel
theorem dX4_sunFor_44 : decode cX4_sunFor 44 = .ok (.aload_n 0, 1) := by decide +kernel
theorem dX4_sunFor_45 : decode cX4_sunFor 45 = .ok (.iconst 3, 1) := by decide +kernel
theorem dX4_sunFor_46 : decode cX4_sunFor 46 = .ok (.invokevirtual 129, 3) := by decide +kernel
theorem dX4_sunFor_49 : decode cX4_sunFor 49 = .ok (.goto 4, 3) := by decide +kernel
theorem dX4_sunFor_52 : decode cX4_sunFor 52 = .ok (.iload_n 2, 1) := by decide +kernel
theorem dX4_sunFor_53 : decode cX4_sunFor 53 = .ok (.ireturn, 1) := by decide +kernel
theorem dX4_standsWithout_0 : decode cX4_standsWithout 0 = .ok (.aload_n 0, 1) := by decide +kernel
theorem dX4_standsWithout_1 : decode cX4_standsWithout 1 = .ok (.invokevirtual 163, 3) := by decide +kernel
theorem dX4_standsWithout_4 : decode cX4_standsWithout 4 = .ok (.aload_n 0, 1) := by decide +kernel
theorem dX4_standsWithout_5 : decode cX4_standsWithout 5 = .ok (.iload_n 2, 1) := by decide +kernel
theorem dX4_standsWithout_6 : decode cX4_standsWithout 6 = .ok (.putfield 101, 3) := by decide +kernel
theorem dX4_standsWithout_9 : decode cX4_standsWithout 9 = .ok (.iconst 0, 1) := by decide +kernel
theorem dX4_standsWithout_10 : decode cX4_standsWithout 10 = .ok (.istore 4, 2) := by decide +kernel
theorem dX4_standsWithout_12 : decode cX4_standsWithout 12 = .ok (.iload 4, 2) := by decide +kernel
theorem dX4_standsWithout_14 : decode cX4_standsWithout 14 = .ok (.aload_n 0, 1) := by decide +kernel
theorem dX4_standsWithout_15 : decode cX4_standsWithout 15 = .ok (.getfield 9, 3) := by decide +kernel
theorem dX4_standsWithout_18 : decode cX4_standsWithout 18 = .ok (.iconst 1, 1) := by decide +kernel
theorem dX4_standsWithout_19 : decode cX4_standsWithout 19 = .ok (.iaload, 1) := by decide +kernel
theorem dX4_standsWithout_20 : decode cX4_standsWithout 20 = .ok (.if_icmp .ge 36, 3) := by decide +kernel
theorem dX4_standsWithout_23 : decode cX4_standsWithout 23 = .ok (.aload_n 0, 1) := by decide +kernel
theorem dX4_standsWithout_24 : decode cX4_standsWithout 24 = .ok (.iload 4, 2) := by decide +kernel
theorem dX4_standsWithout_26 : decode cX4_standsWithout 26 = .ok (.iconst 1, 1) := by decide +kernel
theorem dX4_standsWithout_27 : decode cX4_standsWithout 27 = .ok (.aload_n 0, 1) := by decide +kernel
theorem dX4_standsWithout_28 : decode cX4_standsWithout 28 = .ok (.iload 4, 2) := by decide +kernel
theorem dX4_standsWithout_30 : decode cX4_standsWithout 30 = .ok (.invokevirtual 108, 3) := by decide +kernel
theorem dX4_standsWithout_33 : decode cX4_standsWithout 33 = .ok (.ifCond .eq 7, 3) := by decide +kernel
theorem dX4_standsWithout_36 : decode cX4_standsWithout 36 = .ok (.iconst (-1), 1) := by decide +kernel
theorem dX4_standsWithout_37 : decode cX4_standsWithout 37 = .ok (.goto 10, 3) := by decide +kernel
theorem dX4_standsWithout_40 : decode cX4_standsWithout 40 = .ok (.aload_n 0, 1) := by decide +kernel
theorem dX4_standsWithout_41 : decode cX4_standsWithout 41 = .ok (.iload 4, 2) := by decide +kernel
theorem dX4_standsWithout_43 : decode cX4_standsWithout 43 = .ok (.iconst 1, 1) := by decide +kernel
theorem dX4_standsWithout_44 : decode cX4_standsWithout 44 = .ok (.invokevirtual 65, 3) := by decide +kernel
theorem dX4_standsWithout_47 : decode cX4_standsWithout 47 = .ok (.invokevirtual 95, 3) := by decide +kernel
theorem dX4_standsWithout_50 : decode cX4_standsWithout 50 = .ok (.iinc 4 1, 3) := by decide +kernel
theorem dX4_standsWithout_53 : decode cX4_standsWithout 53 = .ok (.goto (-41), 3) := by decide +kernel
theorem dX4_standsWithout_56 : decode cX4_standsWithout 56 = .ok (.aload_n 0, 1) := by decide +kernel
theorem dX4_standsWithout_57 : decode cX4_standsWithout 57 = .ok (.iload_n 3, 1) := by decide +kernel
theorem dX4_standsWithout_58 : decode cX4_standsWithout 58 = .ok (.invokevirtual 144, 3) := by decide +kernel
theorem dX4_standsWithout_61 : decode cX4_standsWithout 61 = .ok (.aload_n 0, 1) := by decide +kernel
theorem dX4_standsWithout_62 : decode cX4_standsWithout 62 = .ok (.iconst 0, 1) := by decide +kernel
theorem dX4_standsWithout_63 : decode cX4_standsWithout 63 = .ok (.putfield 101, 3) := by decide +kernel
theorem dX4_standsWithout_66 : decode cX4_standsWithout 66 = .ok (.aload_n 0, 1) := by decide +kernel
theorem dX4_standsWithout_67 : decode cX4_standsWithout 67 = .ok (.iload_n 1, 1) := by decide +kernel
theorem dX4_standsWithout_68 : decode cX4_standsWithout 68 = .ok (.iconst 1, 1) := by decide +kernel
theorem dX4_standsWithout_69 : decode cX4_standsWithout 69 = .ok (.invokevirtual 65, 3) := by decide +kernel
theorem dX4_standsWithout_72 : decode cX4_standsWithout 72 = .ok (.ifCond .lt 7, 3) := by decide +kernel
theorem dX4_standsWithout_75 : decode cX4_standsWithout 75 = .ok (.iconst 1, 1) := by decide +kernel
theorem dX4_standsWithout_76 : decode cX4_standsWithout 76 = .ok (.goto 4, 3) := by decide +kernel
theorem dX4_standsWithout_79 : decode cX4_standsWithout 79 = .ok (.iconst 0, 1) := by decide +kernel
theorem dX4_standsWithout_80 : decode cX4_standsWithout 80 = .ok (.istore 4, 2) := by decide +kernel
theorem dX4_standsWithout_82 : decode cX4_standsWithout 82 = .ok (.aload_n 0, 1) := by decide +kernel
theorem dX4_standsWithout_83 : decode cX4_standsWithout 83 = .ok (.invokevirtual 166, 3) := by decide +kernel
theorem dX4_standsWithout_86 : decode cX4_standsWithout 86 = .ok (.iload 4, 2) := by decide +kernel
theorem dX4_standsWithout_88 : decode cX4_standsWithout 88 = .ok (.ireturn, 1) := by decide +kernel
theorem dX4_away_0 : decode cX4_away 0 = .ok (.aload_n 0, 1) := by decide +kernel
theorem dX4_away_1 : decode cX4_away 1 = .ok (.iload_n 1, 1) := by decide +kernel
theorem dX4_away_2 : decode cX4_away 2 = .ok (.invokevirtual 138, 3) := by decide +kernel
theorem dX4_away_5 : decode cX4_away 5 = .ok (.ifCond .eq 13, 3) := by decide +kernel
theorem dX4_away_8 : decode cX4_away 8 = .ok (.iload_n 2, 1) := by decide +kernel
theorem dX4_away_9 : decode cX4_away 9 = .ok (.iconst 0, 1) := by decide +kernel
theorem dX4_away_10 : decode cX4_away 10 = .ok (.bipush 12, 2) := by decide +kernel
theorem dX4_away_12 : decode cX4_away 12 = .ok (.invokestatic 61, 3) := by decide +kernel
theorem dX4_away_15 : decode cX4_away 15 = .ok (.ifCond .ne 9, 3) := by decide +kernel
theorem dX4_away_18 : decode cX4_away 18 = .ok (.aload_n 0, 1) := by decide +kernel
theorem dX4_away_19 : decode cX4_away 19 = .ok (.iconst 0, 1) := by decide +kernel
theorem dX4_away_20 : decode cX4_away 20 = .ok (.invokevirtual 129, 3) := by decide +kernel
theorem dX4_away_23 : decode cX4_away 23 = .ok (.ireturn, 1) := by decide +kernel
theorem dX4_away_24 : decode cX4_away 24 = .ok (.iconst (-1), 1) := by decide +kernel
theorem dX4_away_25 : decode cX4_away 25 = .ok (.istore_n 3, 1) := by decide +kernel
theorem dX4_away_26 : decode cX4_away 26 = .ok (.iconst 0, 1) := by decide +kernel
theorem dX4_away_27 : decode cX4_away 27 = .ok (.istore 4, 2) := by decide +kernel
theorem dX4_away_29 : decode cX4_away 29 = .ok (.iload 4, 2) := by decide +kernel
theorem dX4_away_31 : decode cX4_away 31 = .ok (.iconst 1, 1) := by decide +kernel
theorem dX4_away_32 : decode cX4_away 32 = .ok (.aload_n 0, 1) := by decide +kernel
theorem dX4_away_33 : decode cX4_away 33 = .ok (.getfield 9, 3) := by decide +kernel
theorem dX4_away_36 : decode cX4_away 36 = .ok (.iconst 1, 1) := by decide +kernel
theorem dX4_away_37 : decode cX4_away 37 = .ok (.iaload, 1) := by decide +kernel
theorem dX4_away_38 : decode cX4_away 38 = .ok (.ishl, 1) := by decide +kernel
theorem dX4_away_39 : decode cX4_away 39 = .ok (.if_icmp .ge 64, 3) := by decide +kernel
theorem dX4_away_42 : decode cX4_away 42 = .ok (.iload 4, 2) := by decide +kernel
theorem dX4_away_44 : decode cX4_away 44 = .ok (.iload_n 1, 1) := by decide +kernel
theorem dX4_away_45 : decode cX4_away 45 = .ok (.ishr, 1) := by decide +kernel
theorem dX4_away_46 : decode cX4_away 46 = .ok (.iconst 1, 1) := by decide +kernel
theorem dX4_away_47 : decode cX4_away 47 = .ok (.iand, 1) := by decide +kernel
theorem dX4_away_48 : decode cX4_away 48 = .ok (.ifCond .ne 23, 3) := by decide +kernel
theorem dX4_away_51 : decode cX4_away 51 = .ok (.iload_n 3, 1) := by decide +kernel
theorem dX4_away_52 : decode cX4_away 52 = .ok (.ifCond .lt 15, 3) := by decide +kernel
theorem dX4_away_55 : decode cX4_away 55 = .ok (.iload 4, 2) := by decide +kernel
theorem dX4_away_57 : decode cX4_away 57 = .ok (.invokestatic 76, 3) := by decide +kernel
theorem dX4_away_60 : decode cX4_away 60 = .ok (.iload_n 3, 1) := by decide +kernel
theorem dX4_away_61 : decode cX4_away 61 = .ok (.invokestatic 76, 3) := by decide +kernel
theorem dX4_away_64 : decode cX4_away 64 = .ok (.if_icmp .ge 7, 3) := by decide +kernel
theorem dX4_away_67 : decode cX4_away 67 = .ok (.iconst 1, 1) := by decide +kernel
theorem dX4_away_68 : decode cX4_away 68 = .ok (.goto 4, 3) := by decide +kernel
theorem dX4_away_71 : decode cX4_away 71 = .ok (.iconst 0, 1) := by decide +kernel
theorem dX4_away_72 : decode cX4_away 72 = .ok (.istore 5, 2) := by decide +kernel
theorem dX4_away_74 : decode cX4_away 74 = .ok (.iload 5, 2) := by decide +kernel
theorem dX4_away_76 : decode cX4_away 76 = .ok (.ifCond .eq 19, 3) := by decide +kernel
theorem dX4_away_79 : decode cX4_away 79 = .ok (.aload_n 0, 1) := by decide +kernel
theorem dX4_away_80 : decode cX4_away 80 = .ok (.iload_n 1, 1) := by decide +kernel
theorem dX4_away_81 : decode cX4_away 81 = .ok (.iload 4, 2) := by decide +kernel
theorem dX4_away_83 : decode cX4_away 83 = .ok (.iload_n 2, 1) := by decide +kernel
theorem dX4_away_84 : decode cX4_away 84 = .ok (.invokevirtual 186, 3) := by decide +kernel
theorem dX4_away_87 : decode cX4_away 87 = .ok (.ifCond .eq 8, 3) := by decide +kernel
theorem dX4_away_90 : decode cX4_away 90 = .ok (.iload 4, 2) := by decide +kernel
theorem dX4_away_92 : decode cX4_away 92 = .ok (.goto 4, 3) := by decide +kernel
theorem dX4_away_95 : decode cX4_away 95 = .ok (.iload_n 3, 1) := by decide +kernel
theorem dX4_away_96 : decode cX4_away 96 = .ok (.istore_n 3, 1) := by decide +kernel
theorem dX4_away_97 : decode cX4_away 97 = .ok (.iinc 4 1, 3) := by decide +kernel
theorem dX4_away_100 : decode cX4_away 100 = .ok (.goto (-71), 3) := by decide +kernel
theorem dX4_away_103 : decode cX4_away 103 = .ok (.iload_n 3, 1) := by decide +kernel
theorem dX4_away_104 : decode cX4_away 104 = .ok (.ifCond .ge 11, 3) := by decide +kernel
theorem dX4_away_107 : decode cX4_away 107 = .ok (.aload_n 0, 1) := by decide +kernel
theorem dX4_away_108 : decode cX4_away 108 = .ok (.iconst 3, 1) := by decide +kernel
theorem dX4_away_109 : decode cX4_away 109 = .ok (.invokevirtual 129, 3) := by decide +kernel
theorem dX4_away_112 : decode cX4_away 112 = .ok (.goto 4, 3) := by decide +kernel
theorem dX4_away_115 : decode cX4_away 115 = .ok (.iload_n 3, 1) := by decide +kernel
theorem dX4_away_116 : decode cX4_away 116 = .ok (.ireturn, 1) := by decide +kernel
theorem dX4_isSheet_0 : decode cX4_isSheet 0 = .ok (.iload_n 0, 1) := by decide +kernel
theorem dX4_isSheet_1 : decode cX4_isSheet 1 = .ok (.iconst 0, 1) := by decide +kernel
theorem dX4_isSheet_2 : decode cX4_isSheet 2 = .ok (.iconst 3, 1) := by decide +kernel
theorem dX4_isSheet_3 : decode cX4_isSheet 3 = .ok (.invokestatic 61, 3) := by decide +kernel
theorem dX4_isSheet_6 : decode cX4_isSheet 6 = .ok (.ireturn, 1) := by decide +kernel
theorem dX4_wrongSheet_0 : decode cX4_wrongSheet 0 = .ok (.iload_n 1, 1) := by decide +kernel
theorem dX4_wrongSheet_1 : decode cX4_wrongSheet 1 = .ok (.invokestatic 189, 3) := by decide +kernel
theorem dX4_wrongSheet_4 : decode cX4_wrongSheet 4 = .ok (.ifCond .ne 7, 3) := by decide +kernel
theorem dX4_wrongSheet_7 : decode cX4_wrongSheet 7 = .ok (.iconst 0, 1) := by decide +kernel
theorem dX4_wrongSheet_8 : decode cX4_wrongSheet 8 = .ok (.goto 17, 3) := by decide +kernel
theorem dX4_wrongSheet_11 : decode cX4_wrongSheet 11 = .ok (.aload_n 0, 1) := by decide +kernel
theorem dX4_wrongSheet_12 : decode cX4_wrongSheet 12 = .ok (.getfield 44, 3) := by decide +kernel
theorem dX4_wrongSheet_15 : decode cX4_wrongSheet 15 = .ok (.iload_n 1, 1) := by decide +kernel
theorem dX4_wrongSheet_16 : decode cX4_wrongSheet 16 = .ok (.iaload, 1) := by decide +kernel
theorem dX4_wrongSheet_17 : decode cX4_wrongSheet 17 = .ok (.ifCond .ne 7, 3) := by decide +kernel
theorem dX4_wrongSheet_20 : decode cX4_wrongSheet 20 = .ok (.iconst 5, 1) := by decide +kernel
theorem dX4_wrongSheet_21 : decode cX4_wrongSheet 21 = .ok (.goto 4, 3) := by decide +kernel
theorem dX4_wrongSheet_24 : decode cX4_wrongSheet 24 = .ok (.iconst (-1), 1) := by decide +kernel
theorem dX4_wrongSheet_25 : decode cX4_wrongSheet 25 = .ok (.ireturn, 1) := by decide +kernel
theorem dX4_wrongTold_0 : decode cX4_wrongTold 0 = .ok (.aload_n 0, 1) := by decide +kernel
theorem dX4_wrongTold_1 : decode cX4_wrongTold 1 = .ok (.iload_n 1, 1) := by decide +kernel
theorem dX4_wrongTold_2 : decode cX4_wrongTold 2 = .ok (.invokevirtual 192, 3) := by decide +kernel
theorem dX4_wrongTold_5 : decode cX4_wrongTold 5 = .ok (.istore_n 3, 1) := by decide +kernel
theorem dX4_wrongTold_6 : decode cX4_wrongTold 6 = .ok (.iload_n 3, 1) := by decide +kernel
theorem dX4_wrongTold_7 : decode cX4_wrongTold 7 = .ok (.ifCond .lt 7, 3) := by decide +kernel
theorem dX4_wrongTold_10 : decode cX4_wrongTold 10 = .ok (.iload_n 3, 1) := by decide +kernel
theorem dX4_wrongTold_11 : decode cX4_wrongTold 11 = .ok (.goto 16, 3) := by decide +kernel
theorem dX4_wrongTold_14 : decode cX4_wrongTold 14 = .ok (.aload_n 0, 1) := by decide +kernel
theorem dX4_wrongTold_15 : decode cX4_wrongTold 15 = .ok (.iload_n 2, 1) := by decide +kernel
theorem dX4_wrongTold_16 : decode cX4_wrongTold 16 = .ok (.invokevirtual 138, 3) := by decide +kernel
theorem dX4_wrongTold_19 : decode cX4_wrongTold 19 = .ok (.ifCond .eq 7, 3) := by decide +kernel
theorem dX4_wrongTold_22 : decode cX4_wrongTold 22 = .ok (.iconst (-1), 1) := by decide +kernel
theorem dX4_wrongTold_23 : decode cX4_wrongTold 23 = .ok (.goto 4, 3) := by decide +kernel
theorem dX4_wrongTold_26 : decode cX4_wrongTold 26 = .ok (.iconst 0, 1) := by decide +kernel
theorem dX4_wrongTold_27 : decode cX4_wrongTold 27 = .ok (.ireturn, 1) := by decide +kernel
theorem dX4_told_0 : decode cX4_told 0 = .ok (.aload_n 0, 1) := by decide +kernel
theorem dX4_told_1 : decode cX4_told 1 = .ok (.getfield 50, 3) := by decide +kernel
theorem dX4_told_4 : decode cX4_told 4 = .ok (.bipush 40, 2) := by decide +kernel
theorem dX4_told_6 : decode cX4_told 6 = .ok (.iload_n 1, 1) := by decide +kernel
theorem dX4_told_7 : decode cX4_told 7 = .ok (.imul, 1) := by decide +kernel
theorem dX4_told_8 : decode cX4_told 8 = .ok (.iload_n 2, 1) := by decide +kernel
theorem dX4_told_9 : decode cX4_told 9 = .ok (.iadd, 1) := by decide +kernel
theorem dX4_told_10 : decode cX4_told 10 = .ok (.iaload, 1) := by decide +kernel
theorem dX4_told_11 : decode cX4_told 11 = .ok (.ireturn, 1) := by decide +kernel
theorem dX4_fitsAs_0 : decode cX4_fitsAs 0 = .ok (.aload_n 0, 1) := by decide +kernel
theorem dX4_fitsAs_1 : decode cX4_fitsAs 1 = .ok (.invokevirtual 163, 3) := by decide +kernel
theorem dX4_fitsAs_4 : decode cX4_fitsAs 4 = .ok (.aload_n 0, 1) := by decide +kernel
theorem dX4_fitsAs_5 : decode cX4_fitsAs 5 = .ok (.iload_n 2, 1) := by decide +kernel
theorem dX4_fitsAs_6 : decode cX4_fitsAs 6 = .ok (.iload_n 3, 1) := by decide +kernel
theorem dX4_fitsAs_7 : decode cX4_fitsAs 7 = .ok (.iload 4, 2) := by decide +kernel
theorem dX4_fitsAs_9 : decode cX4_fitsAs 9 = .ok (.invokevirtual 95, 3) := by decide +kernel
theorem dX4_fitsAs_12 : decode cX4_fitsAs 12 = .ok (.iconst 1, 1) := by decide +kernel
theorem dX4_fitsAs_13 : decode cX4_fitsAs 13 = .ok (.istore 5, 2) := by decide +kernel
theorem dX4_fitsAs_15 : decode cX4_fitsAs 15 = .ok (.iconst 0, 1) := by decide +kernel
theorem dX4_fitsAs_16 : decode cX4_fitsAs 16 = .ok (.istore 6, 2) := by decide +kernel
theorem dX4_fitsAs_18 : decode cX4_fitsAs 18 = .ok (.iload 6, 2) := by decide +kernel
theorem dX4_fitsAs_20 : decode cX4_fitsAs 20 = .ok (.aload_n 0, 1) := by decide +kernel
theorem dX4_fitsAs_21 : decode cX4_fitsAs 21 = .ok (.getfield 47, 3) := by decide +kernel
theorem dX4_fitsAs_24 : decode cX4_fitsAs 24 = .ok (.iload_n 1, 1) := by decide +kernel
theorem dX4_fitsAs_25 : decode cX4_fitsAs 25 = .ok (.iaload, 1) := by decide +kernel
theorem dX4_fitsAs_26 : decode cX4_fitsAs 26 = .ok (.if_icmp .ge 53, 3) := by decide +kernel
theorem dX4_fitsAs_29 : decode cX4_fitsAs 29 = .ok (.iload 5, 2) := by decide +kernel
theorem dX4_fitsAs_31 : decode cX4_fitsAs 31 = .ok (.ifCond .eq 48, 3) := by decide +kernel
theorem dX4_fitsAs_34 : decode cX4_fitsAs 34 = .ok (.aload_n 0, 1) := by decide +kernel
theorem dX4_fitsAs_35 : decode cX4_fitsAs 35 = .ok (.iload_n 1, 1) := by decide +kernel
theorem dX4_fitsAs_36 : decode cX4_fitsAs 36 = .ok (.iload 6, 2) := by decide +kernel
theorem dX4_fitsAs_38 : decode cX4_fitsAs 38 = .ok (.invokevirtual 195, 3) := by decide +kernel
theorem dX4_fitsAs_41 : decode cX4_fitsAs 41 = .ok (.bipush (-2), 2) := by decide +kernel
theorem dX4_fitsAs_43 : decode cX4_fitsAs 43 = .ok (.if_icmp .eq 19, 3) := by decide +kernel
theorem dX4_fitsAs_46 : decode cX4_fitsAs 46 = .ok (.aload_n 0, 1) := by decide +kernel
theorem dX4_fitsAs_47 : decode cX4_fitsAs 47 = .ok (.iload_n 1, 1) := by decide +kernel
theorem dX4_fitsAs_48 : decode cX4_fitsAs 48 = .ok (.iload 6, 2) := by decide +kernel
theorem dX4_fitsAs_50 : decode cX4_fitsAs 50 = .ok (.invokevirtual 195, 3) := by decide +kernel
theorem dX4_fitsAs_53 : decode cX4_fitsAs 53 = .ok (.aload_n 0, 1) := by decide +kernel
theorem dX4_fitsAs_54 : decode cX4_fitsAs 54 = .ok (.iload_n 2, 1) := by decide +kernel
theorem dX4_fitsAs_55 : decode cX4_fitsAs 55 = .ok (.iconst 1, 1) := by decide +kernel
theorem dX4_fitsAs_56 : decode cX4_fitsAs 56 = .ok (.invokevirtual 65, 3) := by decide +kernel
theorem dX4_fitsAs_59 : decode cX4_fitsAs 59 = .ok (.if_icmp .ne 7, 3) := by decide +kernel
theorem dX4_fitsAs_62 : decode cX4_fitsAs 62 = .ok (.iconst 1, 1) := by decide +kernel
theorem dX4_fitsAs_63 : decode cX4_fitsAs 63 = .ok (.goto 4, 3) := by decide +kernel
theorem dX4_fitsAs_66 : decode cX4_fitsAs 66 = .ok (.iconst 0, 1) := by decide +kernel
theorem dX4_fitsAs_67 : decode cX4_fitsAs 67 = .ok (.istore 5, 2) := by decide +kernel
theorem dX4_fitsAs_69 : decode cX4_fitsAs 69 = .ok (.aload_n 0, 1) := by decide +kernel
theorem dX4_fitsAs_70 : decode cX4_fitsAs 70 = .ok (.invokevirtual 123, 3) := by decide +kernel
theorem dX4_fitsAs_73 : decode cX4_fitsAs 73 = .ok (.iinc 6 1, 3) := by decide +kernel
theorem dX4_fitsAs_76 : decode cX4_fitsAs 76 = .ok (.goto (-58), 3) := by decide +kernel
theorem dX4_fitsAs_79 : decode cX4_fitsAs 79 = .ok (.aload_n 0, 1) := by decide +kernel
theorem dX4_fitsAs_80 : decode cX4_fitsAs 80 = .ok (.invokevirtual 166, 3) := by decide +kernel
theorem dX4_fitsAs_83 : decode cX4_fitsAs 83 = .ok (.iload 5, 2) := by decide +kernel
theorem dX4_fitsAs_85 : decode cX4_fitsAs 85 = .ok (.ireturn, 1) := by decide +kernel
theorem dX4_fits_0 : decode cX4_fits 0 = .ok (.aload_n 0, 1) := by decide +kernel
theorem dX4_fits_1 : decode cX4_fits 1 = .ok (.iload_n 1, 1) := by decide +kernel
theorem dX4_fits_2 : decode cX4_fits 2 = .ok (.iload_n 2, 1) := by decide +kernel
theorem dX4_fits_3 : decode cX4_fits 3 = .ok (.invokevirtual 198, 3) := by decide +kernel
theorem dX4_fits_6 : decode cX4_fits 6 = .ok (.istore_n 3, 1) := by decide +kernel
theorem dX4_fits_7 : decode cX4_fits 7 = .ok (.iload_n 3, 1) := by decide +kernel
theorem dX4_fits_8 : decode cX4_fits 8 = .ok (.ifCond .lt 9, 3) := by decide +kernel
theorem dX4_fits_11 : decode cX4_fits 11 = .ok (.aload_n 0, 1) := by decide +kernel
theorem dX4_fits_12 : decode cX4_fits 12 = .ok (.iload_n 3, 1) := by decide +kernel
theorem dX4_fits_13 : decode cX4_fits 13 = .ok (.invokevirtual 129, 3) := by decide +kernel
theorem dX4_fits_16 : decode cX4_fits 16 = .ok (.ireturn, 1) := by decide +kernel
theorem dX4_fits_17 : decode cX4_fits 17 = .ok (.iconst 0, 1) := by decide +kernel
theorem dX4_fits_18 : decode cX4_fits 18 = .ok (.istore 4, 2) := by decide +kernel
theorem dX4_fits_20 : decode cX4_fits 20 = .ok (.iconst 0, 1) := by decide +kernel
theorem dX4_fits_21 : decode cX4_fits 21 = .ok (.istore 5, 2) := by decide +kernel
theorem dX4_fits_23 : decode cX4_fits 23 = .ok (.iload 5, 2) := by decide +kernel
theorem dX4_fits_25 : decode cX4_fits 25 = .ok (.bipush 100, 2) := by decide +kernel
theorem dX4_fits_27 : decode cX4_fits 27 = .ok (.if_icmp .ge 31, 3) := by decide +kernel
theorem dX4_fits_30 : decode cX4_fits 30 = .ok (.iload 4, 2) := by decide +kernel
theorem dX4_fits_32 : decode cX4_fits 32 = .ok (.aload_n 0, 1) := by decide +kernel
theorem dX4_fits_33 : decode cX4_fits 33 = .ok (.iload_n 1, 1) := by decide +kernel
theorem dX4_fits_34 : decode cX4_fits 34 = .ok (.iload_n 2, 1) := by decide +kernel
theorem dX4_fits_35 : decode cX4_fits 35 = .ok (.iconst 2, 1) := by decide +kernel
theorem dX4_fits_36 : decode cX4_fits 36 = .ok (.iload 5, 2) := by decide +kernel
theorem dX4_fits_38 : decode cX4_fits 38 = .ok (.invokevirtual 201, 3) := by decide +kernel
theorem dX4_fits_41 : decode cX4_fits 41 = .ok (.ifCond .eq 7, 3) := by decide +kernel
theorem dX4_fits_44 : decode cX4_fits 44 = .ok (.iconst 1, 1) := by decide +kernel
theorem dX4_fits_45 : decode cX4_fits 45 = .ok (.goto 4, 3) := by decide +kernel
theorem dX4_fits_48 : decode cX4_fits 48 = .ok (.iconst 0, 1) := by decide +kernel
theorem dX4_fits_49 : decode cX4_fits 49 = .ok (.iadd, 1) := by decide +kernel
theorem dX4_fits_50 : decode cX4_fits 50 = .ok (.istore 4, 2) := by decide +kernel
theorem dX4_fits_52 : decode cX4_fits 52 = .ok (.iinc 5 1, 3) := by decide +kernel
theorem dX4_fits_55 : decode cX4_fits 55 = .ok (.goto (-32), 3) := by decide +kernel
theorem dX4_fits_58 : decode cX4_fits 58 = .ok (.iload 4, 2) := by decide +kernel
theorem dX4_fits_60 : decode cX4_fits 60 = .ok (.ireturn, 1) := by decide +kernel
theorem dX4_believed_0 : decode cX4_believed 0 = .ok (.aload_n 0, 1) := by decide +kernel
theorem dX4_believed_1 : decode cX4_believed 1 = .ok (.iload_n 1, 1) := by decide +kernel
theorem dX4_believed_2 : decode cX4_believed 2 = .ok (.iload_n 2, 1) := by decide +kernel
theorem dX4_believed_3 : decode cX4_believed 3 = .ok (.invokevirtual 198, 3) := by decide +kernel
theorem dX4_believed_6 : decode cX4_believed 6 = .ok (.istore_n 3, 1) := by decide +kernel
theorem dX4_believed_7 : decode cX4_believed 7 = .ok (.iload_n 3, 1) := by decide +kernel
theorem dX4_believed_8 : decode cX4_believed 8 = .ok (.ifCond .lt 9, 3) := by decide +kernel
theorem dX4_believed_11 : decode cX4_believed 11 = .ok (.aload_n 0, 1) := by decide +kernel
theorem dX4_believed_12 : decode cX4_believed 12 = .ok (.iload_n 3, 1) := by decide +kernel
theorem dX4_believed_13 : decode cX4_believed 13 = .ok (.invokevirtual 129, 3) := by decide +kernel
theorem dX4_believed_16 : decode cX4_believed 16 = .ok (.ireturn, 1) := by decide +kernel
theorem dX4_believed_17 : decode cX4_believed 17 = .ok (.iconst 0, 1) := by decide +kernel
theorem dX4_believed_18 : decode cX4_believed 18 = .ok (.istore 4, 2) := by decide +kernel
theorem dX4_believed_20 : decode cX4_believed 20 = .ok (.iload 4, 2) := by decide +kernel
theorem dX4_believed_22 : decode cX4_believed 22 = .ok (.bipush 100, 2) := by decide +kernel
theorem dX4_believed_24 : decode cX4_believed 24 = .ok (.if_icmp .ge 21, 3) := by decide +kernel
theorem dX4_believed_27 : decode cX4_believed 27 = .ok (.aload_n 0, 1) := by decide +kernel
theorem dX4_believed_28 : decode cX4_believed 28 = .ok (.iload_n 1, 1) := by decide +kernel
theorem dX4_believed_29 : decode cX4_believed 29 = .ok (.iload_n 2, 1) := by decide +kernel
theorem dX4_believed_30 : decode cX4_believed 30 = .ok (.iconst 2, 1) := by decide +kernel
theorem dX4_believed_31 : decode cX4_believed 31 = .ok (.iload 4, 2) := by decide +kernel
theorem dX4_believed_33 : decode cX4_believed 33 = .ok (.invokevirtual 201, 3) := by decide +kernel
theorem dX4_believed_36 : decode cX4_believed 36 = .ok (.ifCond .ne 9, 3) := by decide +kernel
theorem dX4_believed_39 : decode cX4_believed 39 = .ok (.iinc 4 1, 3) := by decide +kernel
theorem dX4_believed_42 : decode cX4_believed 42 = .ok (.goto (-22), 3) := by decide +kernel
theorem dX4_believed_45 : decode cX4_believed 45 = .ok (.iload 4, 2) := by decide +kernel
theorem dX4_believed_47 : decode cX4_believed 47 = .ok (.bipush 100, 2) := by decide +kernel
theorem dX4_believed_49 : decode cX4_believed 49 = .ok (.if_icmp .ne 11, 3) := by decide +kernel
theorem dX4_believed_52 : decode cX4_believed 52 = .ok (.aload_n 0, 1) := by decide +kernel
theorem dX4_believed_53 : decode cX4_believed 53 = .ok (.iconst 3, 1) := by decide +kernel
theorem dX4_believed_54 : decode cX4_believed 54 = .ok (.invokevirtual 129, 3) := by decide +kernel
theorem dX4_believed_57 : decode cX4_believed 57 = .ok (.goto 5, 3) := by decide +kernel
theorem dX4_believed_60 : decode cX4_believed 60 = .ok (.iload 4, 2) := by decide +kernel
theorem dX4_believed_62 : decode cX4_believed 62 = .ok (.ireturn, 1) := by decide +kernel
theorem dX4_kinds_0 : decode cX4_kinds 0 = .ok (.aload_n 0, 1) := by decide +kernel
theorem dX4_kinds_1 : decode cX4_kinds 1 = .ok (.iload_n 1, 1) := by decide +kernel
theorem dX4_kinds_2 : decode cX4_kinds 2 = .ok (.iload_n 2, 1) := by decide +kernel
theorem dX4_kinds_3 : decode cX4_kinds 3 = .ok (.invokevirtual 198, 3) := by decide +kernel
theorem dX4_kinds_6 : decode cX4_kinds 6 = .ok (.istore_n 3, 1) := by decide +kernel
theorem dX4_kinds_7 : decode cX4_kinds 7 = .ok (.iload_n 3, 1) := by decide +kernel
theorem dX4_kinds_8 : decode cX4_kinds 8 = .ok (.ifCond .lt 9, 3) := by decide +kernel
theorem dX4_kinds_11 : decode cX4_kinds 11 = .ok (.aload_n 0, 1) := by decide +kernel
theorem dX4_kinds_12 : decode cX4_kinds 12 = .ok (.iload_n 3, 1) := by decide +kernel
theorem dX4_kinds_13 : decode cX4_kinds 13 = .ok (.invokevirtual 129, 3) := by decide +kernel
theorem dX4_kinds_16 : decode cX4_kinds 16 = .ok (.ireturn, 1) := by decide +kernel
theorem dX4_kinds_17 : decode cX4_kinds 17 = .ok (.iconst 0, 1) := by decide +kernel
theorem dX4_kinds_18 : decode cX4_kinds 18 = .ok (.istore 4, 2) := by decide +kernel
theorem dX4_kinds_20 : decode cX4_kinds 20 = .ok (.iconst 0, 1) := by decide +kernel
theorem dX4_kinds_21 : decode cX4_kinds 21 = .ok (.istore 5, 2) := by decide +kernel
theorem dX4_kinds_23 : decode cX4_kinds 23 = .ok (.iload 5, 2) := by decide +kernel
theorem dX4_kinds_25 : decode cX4_kinds 25 = .ok (.bipush 6, 2) := by decide +kernel
theorem dX4_kinds_27 : decode cX4_kinds 27 = .ok (.if_icmp .gt 34, 3) := by decide +kernel
theorem dX4_kinds_30 : decode cX4_kinds 30 = .ok (.iload 4, 2) := by decide +kernel
theorem dX4_kinds_32 : decode cX4_kinds 32 = .ok (.aload_n 0, 1) := by decide +kernel
theorem dX4_kinds_33 : decode cX4_kinds 33 = .ok (.iload_n 1, 1) := by decide +kernel
theorem dX4_kinds_34 : decode cX4_kinds 34 = .ok (.iload_n 2, 1) := by decide +kernel
theorem dX4_kinds_35 : decode cX4_kinds 35 = .ok (.iconst 0, 1) := by decide +kernel
theorem dX4_kinds_36 : decode cX4_kinds 36 = .ok (.iload 5, 2) := by decide +kernel
theorem dX4_kinds_38 : decode cX4_kinds 38 = .ok (.invokevirtual 201, 3) := by decide +kernel
theorem dX4_kinds_41 : decode cX4_kinds 41 = .ok (.ifCond .eq 10, 3) := by decide +kernel
theorem dX4_kinds_44 : decode cX4_kinds 44 = .ok (.iconst 1, 1) := by decide +kernel
theorem dX4_kinds_45 : decode cX4_kinds 45 = .ok (.iload 5, 2) := by decide +kernel
theorem dX4_kinds_47 : decode cX4_kinds 47 = .ok (.ishl, 1) := by decide +kernel
theorem dX4_kinds_48 : decode cX4_kinds 48 = .ok (.goto 4, 3) := by decide +kernel
theorem dX4_kinds_51 : decode cX4_kinds 51 = .ok (.iconst 0, 1) := by decide +kernel
theorem dX4_kinds_52 : decode cX4_kinds 52 = .ok (.ior, 1) := by decide +kernel
theorem dX4_kinds_53 : decode cX4_kinds 53 = .ok (.istore 4, 2) := by decide +kernel
theorem dX4_kinds_55 : decode cX4_kinds 55 = .ok (.iinc 5 1, 3) := by decide +kernel
theorem dX4_kinds_58 : decode cX4_kinds 58 = .ok (.goto (-35), 3) := by decide +kernel
theorem dX4_kinds_61 : decode cX4_kinds 61 = .ok (.iload 4, 2) := by decide +kernel
theorem dX4_kinds_63 : decode cX4_kinds 63 = .ok (.ireturn, 1) := by decide +kernel
theorem dX4_draw_0 : decode cX4_draw 0 = .ok (.aload_n 0, 1) := by decide +kernel
theorem dX4_draw_1 : decode cX4_draw 1 = .ok (.getfield 9, 3) := by decide +kernel
theorem dX4_draw_4 : decode cX4_draw 4 = .ok (.iconst 2, 1) := by decide +kernel
theorem dX4_draw_5 : decode cX4_draw 5 = .ok (.aload_n 0, 1) := by decide +kernel
theorem dX4_draw_6 : decode cX4_draw 6 = .ok (.getfield 9, 3) := by decide +kernel
theorem dX4_draw_9 : decode cX4_draw 9 = .ok (.iconst 2, 1) := by decide +kernel
theorem dX4_draw_10 : decode cX4_draw 10 = .ok (.iaload, 1) := by decide +kernel
theorem dX4_draw_11 : decode cX4_draw 11 = .ok (.ldc 205, 2) := by decide +kernel
theorem dX4_draw_13 : decode cX4_draw 13 = .ok (.imul, 1) := by decide +kernel
theorem dX4_draw_14 : decode cX4_draw 14 = .ok (.sipush 12345, 3) := by decide +kernel
theorem dX4_draw_17 : decode cX4_draw 17 = .ok (.iadd, 1) := by decide +kernel
theorem dX4_draw_18 : decode cX4_draw 18 = .ok (.iastore, 1) := by decide +kernel
theorem dX4_draw_19 : decode cX4_draw 19 = .ok (.aload_n 0, 1) := by decide +kernel
theorem dX4_draw_20 : decode cX4_draw 20 = .ok (.getfield 9, 3) := by decide +kernel
theorem dX4_draw_23 : decode cX4_draw 23 = .ok (.iconst 2, 1) := by decide +kernel
theorem dX4_draw_24 : decode cX4_draw 24 = .ok (.iaload, 1) := by decide +kernel
theorem dX4_draw_25 : decode cX4_draw 25 = .ok (.bipush 8, 2) := by decide +kernel
theorem dX4_draw_27 : decode cX4_draw 27 = .ok (.iushr, 1) := by decide +kernel
theorem dX4_draw_28 : decode cX4_draw 28 = .ok (.ireturn, 1) := by decide +kernel
theorem dX4_fine_0 : decode cX4_fine 0 = .ok (.iload_n 1, 1) := by decide +kernel
theorem dX4_fine_1 : decode cX4_fine 1 = .ok (.iconst 1, 1) := by decide +kernel
theorem dX4_fine_2 : decode cX4_fine 2 = .ok (.bipush 20, 2) := by decide +kernel
theorem dX4_fine_4 : decode cX4_fine 4 = .ok (.invokestatic 61, 3) := by decide +kernel
theorem dX4_fine_7 : decode cX4_fine 7 = .ok (.ifCond .ne 9, 3) := by decide +kernel
theorem dX4_fine_10 : decode cX4_fine 10 = .ok (.aload_n 0, 1) := by decide +kernel
theorem dX4_fine_11 : decode cX4_fine 11 = .ok (.iconst 0, 1) := by decide +kernel
theorem dX4_fine_12 : decode cX4_fine 12 = .ok (.invokevirtual 129, 3) := by decide +kernel
theorem dX4_fine_15 : decode cX4_fine 15 = .ok (.ireturn, 1) := by decide +kernel
theorem dX4_fine_16 : decode cX4_fine 16 = .ok (.aload_n 0, 1) := by decide +kernel
theorem dX4_fine_17 : decode cX4_fine 17 = .ok (.getfield 9, 3) := by decide +kernel
theorem dX4_fine_20 : decode cX4_fine 20 = .ok (.iconst 0, 1) := by decide +kernel
theorem dX4_fine_21 : decode cX4_fine 21 = .ok (.iaload, 1) := by decide +kernel
theorem dX4_fine_22 : decode cX4_fine 22 = .ok (.iload_n 1, 1) := by decide +kernel
theorem dX4_fine_23 : decode cX4_fine 23 = .ok (.iadd, 1) := by decide +kernel
theorem dX4_fine_24 : decode cX4_fine 24 = .ok (.ldc 122, 2) := by decide +kernel
theorem dX4_fine_26 : decode cX4_fine 26 = .ok (.if_icmp .le 9, 3) := by decide +kernel
theorem dX4_fine_29 : decode cX4_fine 29 = .ok (.aload_n 0, 1) := by decide +kernel
theorem dX4_fine_30 : decode cX4_fine 30 = .ok (.iconst 4, 1) := by decide +kernel
theorem dX4_fine_31 : decode cX4_fine 31 = .ok (.invokevirtual 129, 3) := by decide +kernel
theorem dX4_fine_34 : decode cX4_fine 34 = .ok (.ireturn, 1) := by decide +kernel
theorem dX4_fine_35 : decode cX4_fine 35 = .ok (.iconst 0, 1) := by decide +kernel
theorem dX4_fine_36 : decode cX4_fine 36 = .ok (.istore_n 2, 1) := by decide +kernel
theorem dX4_fine_37 : decode cX4_fine 37 = .ok (.iload_n 2, 1) := by decide +kernel
theorem dX4_fine_38 : decode cX4_fine 38 = .ok (.iload_n 1, 1) := by decide +kernel
theorem dX4_fine_39 : decode cX4_fine 39 = .ok (.if_icmp .ge 49, 3) := by decide +kernel
theorem dX4_fine_42 : decode cX4_fine 42 = .ok (.aload_n 0, 1) := by decide +kernel
theorem dX4_fine_43 : decode cX4_fine 43 = .ok (.getfield 9, 3) := by decide +kernel
theorem dX4_fine_46 : decode cX4_fine 46 = .ok (.iconst 4, 1) := by decide +kernel
theorem dX4_fine_47 : decode cX4_fine 47 = .ok (.aload_n 0, 1) := by decide +kernel
theorem dX4_fine_48 : decode cX4_fine 48 = .ok (.getfield 9, 3) := by decide +kernel
theorem dX4_fine_51 : decode cX4_fine 51 = .ok (.iconst 0, 1) := by decide +kernel
theorem dX4_fine_52 : decode cX4_fine 52 = .ok (.iaload, 1) := by decide +kernel
theorem dX4_fine_53 : decode cX4_fine 53 = .ok (.bipush 6, 2) := by decide +kernel
theorem dX4_fine_55 : decode cX4_fine 55 = .ok (.irem, 1) := by decide +kernel
theorem dX4_fine_56 : decode cX4_fine 56 = .ok (.iadd, 1) := by decide +kernel
theorem dX4_fine_57 : decode cX4_fine 57 = .ok (.aload_n 0, 1) := by decide +kernel
theorem dX4_fine_58 : decode cX4_fine 58 = .ok (.invokevirtual 206, 3) := by decide +kernel
theorem dX4_fine_61 : decode cX4_fine 61 = .ok (.bipush 41, 2) := by decide +kernel
theorem dX4_fine_63 : decode cX4_fine 63 = .ok (.irem, 1) := by decide +kernel
theorem dX4_fine_64 : decode cX4_fine 64 = .ok (.iastore, 1) := by decide +kernel
theorem dX4_fine_65 : decode cX4_fine 65 = .ok (.aload_n 0, 1) := by decide +kernel
theorem dX4_fine_66 : decode cX4_fine 66 = .ok (.aload_n 0, 1) := by decide +kernel
theorem dX4_fine_67 : decode cX4_fine 67 = .ok (.invokevirtual 206, 3) := by decide +kernel
theorem dX4_fine_70 : decode cX4_fine 70 = .ok (.bipush 10, 2) := by decide +kernel
theorem dX4_fine_72 : decode cX4_fine 72 = .ok (.irem, 1) := by decide +kernel
theorem dX4_fine_73 : decode cX4_fine 73 = .ok (.iconst 2, 1) := by decide +kernel
theorem dX4_fine_74 : decode cX4_fine 74 = .ok (.iconst (-1), 1) := by decide +kernel
theorem dX4_fine_75 : decode cX4_fine 75 = .ok (.invokevirtual 56, 3) := by decide +kernel
theorem dX4_fine_78 : decode cX4_fine 78 = .ok (.aload_n 0, 1) := by decide +kernel
theorem dX4_fine_79 : decode cX4_fine 79 = .ok (.invokevirtual 123, 3) := by decide +kernel
theorem dX4_fine_82 : decode cX4_fine 82 = .ok (.iinc 2 1, 3) := by decide +kernel
theorem dX4_fine_85 : decode cX4_fine 85 = .ok (.goto (-48), 3) := by decide +kernel
theorem dX4_fine_88 : decode cX4_fine 88 = .ok (.aload_n 0, 1) := by decide +kernel
theorem dX4_fine_89 : decode cX4_fine 89 = .ok (.invokevirtual 147, 3) := by decide +kernel
theorem dX4_fine_92 : decode cX4_fine 92 = .ok (.ireturn, 1) := by decide +kernel
theorem dX4_odds_0 : decode cX4_odds 0 = .ok (.aload_n 0, 1) := by decide +kernel
theorem dX4_odds_1 : decode cX4_odds 1 = .ok (.iload_n 1, 1) := by decide +kernel
theorem dX4_odds_2 : decode cX4_odds 2 = .ok (.invokevirtual 138, 3) := by decide +kernel
theorem dX4_odds_5 : decode cX4_odds 5 = .ok (.ifCond .eq 22, 3) := by decide +kernel
theorem dX4_odds_8 : decode cX4_odds 8 = .ok (.iload_n 2, 1) := by decide +kernel
theorem dX4_odds_9 : decode cX4_odds 9 = .ok (.iconst 0, 1) := by decide +kernel
theorem dX4_odds_10 : decode cX4_odds 10 = .ok (.bipush 18, 2) := by decide +kernel
theorem dX4_odds_12 : decode cX4_odds 12 = .ok (.invokestatic 61, 3) := by decide +kernel
theorem dX4_odds_15 : decode cX4_odds 15 = .ok (.ifCond .eq 12, 3) := by decide +kernel
theorem dX4_odds_18 : decode cX4_odds 18 = .ok (.iload_n 3, 1) := by decide +kernel
theorem dX4_odds_19 : decode cX4_odds 19 = .ok (.iconst 0, 1) := by decide +kernel
theorem dX4_odds_20 : decode cX4_odds 20 = .ok (.iconst 1, 1) := by decide +kernel
theorem dX4_odds_21 : decode cX4_odds 21 = .ok (.invokestatic 61, 3) := by decide +kernel
theorem dX4_odds_24 : decode cX4_odds 24 = .ok (.ifCond .ne 10, 3) := by decide +kernel
theorem dX4_odds_27 : decode cX4_odds 27 = .ok (.aload_n 0, 1) := by decide +kernel
theorem dX4_odds_28 : decode cX4_odds 28 = .ok (.iconst 0, 1) := by decide +kernel
theorem dX4_odds_29 : decode cX4_odds 29 = .ok (.invokevirtual 129, 3) := by decide +kernel
theorem dX4_odds_32 : decode cX4_odds 32 = .ok (.i2l, 1) := by decide +kernel
theorem dX4_odds_33 : decode cX4_odds 33 = .ok (.lreturn, 1) := by decide +kernel
theorem dX4_odds_34 : decode cX4_odds 34 = .ok (.iconst 0, 1) := by decide +kernel
theorem dX4_odds_35 : decode cX4_odds 35 = .ok (.istore 4, 2) := by decide +kernel
theorem dX4_odds_37 : decode cX4_odds 37 = .ok (.iconst 0, 1) := by decide +kernel
theorem dX4_odds_38 : decode cX4_odds 38 = .ok (.istore 5, 2) := by decide +kernel
theorem dX4_odds_40 : decode cX4_odds 40 = .ok (.iload 5, 2) := by decide +kernel
theorem dX4_odds_42 : decode cX4_odds 42 = .ok (.bipush 10, 2) := by decide +kernel
theorem dX4_odds_44 : decode cX4_odds 44 = .ok (.if_icmp .ge 29, 3) := by decide +kernel
theorem dX4_odds_47 : decode cX4_odds 47 = .ok (.iload 4, 2) := by decide +kernel
theorem dX4_odds_49 : decode cX4_odds 49 = .ok (.aload_n 0, 1) := by decide +kernel
theorem dX4_odds_50 : decode cX4_odds 50 = .ok (.iload_n 1, 1) := by decide +kernel
theorem dX4_odds_51 : decode cX4_odds 51 = .ok (.iload 5, 2) := by decide +kernel
theorem dX4_odds_53 : decode cX4_odds 53 = .ok (.invokevirtual 82, 3) := by decide +kernel
theorem dX4_odds_56 : decode cX4_odds 56 = .ok (.ifCond .eq 7, 3) := by decide +kernel
theorem dX4_odds_59 : decode cX4_odds 59 = .ok (.iconst 1, 1) := by decide +kernel
theorem dX4_odds_60 : decode cX4_odds 60 = .ok (.goto 4, 3) := by decide +kernel
theorem dX4_odds_63 : decode cX4_odds 63 = .ok (.iconst 0, 1) := by decide +kernel
theorem dX4_odds_64 : decode cX4_odds 64 = .ok (.iadd, 1) := by decide +kernel
theorem dX4_odds_65 : decode cX4_odds 65 = .ok (.istore 4, 2) := by decide +kernel
theorem dX4_odds_67 : decode cX4_odds 67 = .ok (.iinc 5 1, 3) := by decide +kernel
theorem dX4_odds_70 : decode cX4_odds 70 = .ok (.goto (-30), 3) := by decide +kernel
theorem dX4_odds_73 : decode cX4_odds 73 = .ok (.lconst 1, 1) := by decide +kernel
theorem dX4_odds_74 : decode cX4_odds 74 = .ok (.lstore 5, 2) := by decide +kernel
theorem dX4_odds_76 : decode cX4_odds 76 = .ok (.lconst 1, 1) := by decide +kernel
theorem dX4_odds_77 : decode cX4_odds 77 = .ok (.lstore 7, 2) := by decide +kernel
theorem dX4_odds_79 : decode cX4_odds 79 = .ok (.iconst 0, 1) := by decide +kernel
theorem dX4_odds_80 : decode cX4_odds 80 = .ok (.istore 9, 2) := by decide +kernel
theorem dX4_odds_82 : decode cX4_odds 82 = .ok (.iload 9, 2) := by decide +kernel
theorem dX4_odds_84 : decode cX4_odds 84 = .ok (.iload_n 2, 1) := by decide +kernel
theorem dX4_odds_85 : decode cX4_odds 85 = .ok (.if_icmp .ge 25, 3) := by decide +kernel
theorem dX4_odds_88 : decode cX4_odds 88 = .ok (.lload 5, 2) := by decide +kernel
theorem dX4_odds_90 : decode cX4_odds 90 = .ok (.iload 4, 2) := by decide +kernel
theorem dX4_odds_92 : decode cX4_odds 92 = .ok (.i2l, 1) := by decide +kernel
theorem dX4_odds_93 : decode cX4_odds 93 = .ok (.lmul, 1) := by decide +kernel
theorem dX4_odds_94 : decode cX4_odds 94 = .ok (.lstore 5, 2) := by decide +kernel
theorem dX4_odds_96 : decode cX4_odds 96 = .ok (.lload 7, 2) := by decide +kernel
theorem dX4_odds_98 : decode cX4_odds 98 = .ok (.ldc2_w 209, 3) := by decide +kernel
theorem dX4_odds_101 : decode cX4_odds 101 = .ok (.lmul, 1) := by decide +kernel
theorem dX4_odds_102 : decode cX4_odds 102 = .ok (.lstore 7, 2) := by decide +kernel
theorem dX4_odds_104 : decode cX4_odds 104 = .ok (.iinc 9 1, 3) := by decide +kernel
theorem dX4_odds_107 : decode cX4_odds 107 = .ok (.goto (-25), 3) := by decide +kernel
theorem dX4_odds_110 : decode cX4_odds 110 = .ok (.lload 5, 2) := by decide +kernel
theorem dX4_odds_112 : decode cX4_odds 112 = .ok (.lstore 9, 2) := by decide +kernel
theorem dX4_odds_114 : decode cX4_odds 114 = .ok (.lload 7, 2) := by decide +kernel
theorem dX4_odds_116 : decode cX4_odds 116 = .ok (.lstore 11, 2) := by decide +kernel
theorem dX4_odds_118 : decode cX4_odds 118 = .ok (.lload 11, 2) := by decide +kernel
theorem dX4_odds_120 : decode cX4_odds 120 = .ok (.lconst 0, 1) := by decide +kernel
theorem dX4_odds_121 : decode cX4_odds 121 = .ok (.lcmp, 1) := by decide +kernel
theorem dX4_odds_122 : decode cX4_odds 122 = .ok (.ifCond .eq 21, 3) := by decide +kernel
theorem dX4_odds_125 : decode cX4_odds 125 = .ok (.lload 9, 2) := by decide +kernel
theorem dX4_odds_127 : decode cX4_odds 127 = .ok (.lload 11, 2) := by decide +kernel
theorem dX4_odds_129 : decode cX4_odds 129 = .ok (.lrem, 1) := by decide +kernel
theorem dX4_odds_130 : decode cX4_odds 130 = .ok (.lstore 13, 2) := by decide +kernel
theorem dX4_odds_132 : decode cX4_odds 132 = .ok (.lload 11, 2) := by decide +kernel
theorem dX4_odds_134 : decode cX4_odds 134 = .ok (.lstore 9, 2) := by decide +kernel
theorem dX4_odds_136 : decode cX4_odds 136 = .ok (.lload 13, 2) := by decide +kernel
theorem dX4_odds_138 : decode cX4_odds 138 = .ok (.lstore 11, 2) := by decide +kernel
theorem dX4_odds_140 : decode cX4_odds 140 = .ok (.goto (-22), 3) := by decide +kernel
theorem dX4_odds_143 : decode cX4_odds 143 = .ok (.iload_n 3, 1) := by decide +kernel
theorem dX4_odds_144 : decode cX4_odds 144 = .ok (.ifCond .ne 11, 3) := by decide +kernel
theorem dX4_odds_147 : decode cX4_odds 147 = .ok (.lload 5, 2) := by decide +kernel
theorem dX4_odds_149 : decode cX4_odds 149 = .ok (.lload 9, 2) := by decide +kernel
theorem dX4_odds_151 : decode cX4_odds 151 = .ok (.ldiv, 1) := by decide +kernel
theorem dX4_odds_152 : decode cX4_odds 152 = .ok (.goto 8, 3) := by decide +kernel
theorem dX4_odds_155 : decode cX4_odds 155 = .ok (.lload 7, 2) := by decide +kernel
theorem dX4_odds_157 : decode cX4_odds 157 = .ok (.lload 9, 2) := by decide +kernel
theorem dX4_odds_159 : decode cX4_odds 159 = .ok (.ldiv, 1) := by decide +kernel
theorem dX4_odds_160 : decode cX4_odds 160 = .ok (.lreturn, 1) := by decide +kernel
theorem dX4_seed_0 : decode cX4_seed 0 = .ok (.aload_n 0, 1) := by decide +kernel
theorem dX4_seed_1 : decode cX4_seed 1 = .ok (.getfield 9, 3) := by decide +kernel
theorem dX4_seed_4 : decode cX4_seed 4 = .ok (.iconst 2, 1) := by decide +kernel
theorem dX4_seed_5 : decode cX4_seed 5 = .ok (.iaload, 1) := by decide +kernel
theorem dX4_seed_6 : decode cX4_seed 6 = .ok (.istore_n 2, 1) := by decide +kernel
theorem dX4_seed_7 : decode cX4_seed 7 = .ok (.aload_n 0, 1) := by decide +kernel
theorem dX4_seed_8 : decode cX4_seed 8 = .ok (.getfield 9, 3) := by decide +kernel
theorem dX4_seed_11 : decode cX4_seed 11 = .ok (.iconst 2, 1) := by decide +kernel
theorem dX4_seed_12 : decode cX4_seed 12 = .ok (.iload_n 1, 1) := by decide +kernel
theorem dX4_seed_13 : decode cX4_seed 13 = .ok (.iastore, 1) := by decide +kernel
theorem dX4_seed_14 : decode cX4_seed 14 = .ok (.iload_n 2, 1) := by decide +kernel
theorem dX4_seed_15 : decode cX4_seed 15 = .ok (.ireturn, 1) := by decide +kernel
theorem dX4_feed_0 : decode cX4_feed 0 = .ok (.iload_n 2, 1) := by decide +kernel
theorem dX4_feed_1 : decode cX4_feed 1 = .ok (.iconst 1, 1) := by decide +kernel
theorem dX4_feed_2 : decode cX4_feed 2 = .ok (.iconst 4, 1) := by decide +kernel
theorem dX4_feed_3 : decode cX4_feed 3 = .ok (.invokestatic 61, 3) := by decide +kernel
theorem dX4_feed_6 : decode cX4_feed 6 = .ok (.ifCond .ne 9, 3) := by decide +kernel
theorem dX4_feed_9 : decode cX4_feed 9 = .ok (.aload_n 0, 1) := by decide +kernel
theorem dX4_feed_10 : decode cX4_feed 10 = .ok (.iconst 0, 1) := by decide +kernel
theorem dX4_feed_11 : decode cX4_feed 11 = .ok (.invokevirtual 129, 3) := by decide +kernel
theorem dX4_feed_14 : decode cX4_feed 14 = .ok (.ireturn, 1) := by decide +kernel
theorem dX4_feed_15 : decode cX4_feed 15 = .ok (.aload_n 0, 1) := by decide +kernel
theorem dX4_feed_16 : decode cX4_feed 16 = .ok (.getfield 211, 3) := by decide +kernel
theorem dX4_feed_19 : decode cX4_feed 19 = .ok (.iload_n 2, 1) := by decide +kernel
theorem dX4_feed_20 : decode cX4_feed 20 = .ok (.iadd, 1) := by decide +kernel
theorem dX4_feed_21 : decode cX4_feed 21 = .ok (.bipush 120, 2) := by decide +kernel
theorem dX4_feed_23 : decode cX4_feed 23 = .ok (.if_icmp .le 9, 3) := by decide +kernel
theorem dX4_feed_26 : decode cX4_feed 26 = .ok (.aload_n 0, 1) := by decide +kernel
theorem dX4_feed_27 : decode cX4_feed 27 = .ok (.iconst 1, 1) := by decide +kernel
theorem dX4_feed_28 : decode cX4_feed 28 = .ok (.invokevirtual 129, 3) := by decide +kernel
theorem dX4_feed_31 : decode cX4_feed 31 = .ok (.ireturn, 1) := by decide +kernel
theorem dX4_feed_32 : decode cX4_feed 32 = .ok (.iload_n 2, 1) := by decide +kernel
theorem dX4_feed_33 : decode cX4_feed 33 = .ok (.iconst 1, 1) := by decide +kernel
theorem dX4_feed_34 : decode cX4_feed 34 = .ok (.isub, 1) := by decide +kernel
theorem dX4_feed_35 : decode cX4_feed 35 = .ok (.istore_n 3, 1) := by decide +kernel
theorem dX4_feed_36 : decode cX4_feed 36 = .ok (.iload_n 3, 1) := by decide +kernel
theorem dX4_feed_37 : decode cX4_feed 37 = .ok (.ifCond .lt 38, 3) := by decide +kernel
theorem dX4_feed_40 : decode cX4_feed 40 = .ok (.aload_n 0, 1) := by decide +kernel
theorem dX4_feed_41 : decode cX4_feed 41 = .ok (.getfield 28, 3) := by decide +kernel
theorem dX4_feed_44 : decode cX4_feed 44 = .ok (.aload_n 0, 1) := by decide +kernel
theorem dX4_feed_45 : decode cX4_feed 45 = .ok (.getfield 211, 3) := by decide +kernel
theorem dX4_feed_48 : decode cX4_feed 48 = .ok (.iload_n 1, 1) := by decide +kernel
theorem dX4_feed_49 : decode cX4_feed 49 = .ok (.bipush 8, 2) := by decide +kernel
theorem dX4_feed_51 : decode cX4_feed 51 = .ok (.iload_n 3, 1) := by decide +kernel
theorem dX4_feed_52 : decode cX4_feed 52 = .ok (.imul, 1) := by decide +kernel
theorem dX4_feed_53 : decode cX4_feed 53 = .ok (.ishr, 1) := by decide +kernel
theorem dX4_feed_54 : decode cX4_feed 54 = .ok (.sipush 255, 3) := by decide +kernel
theorem dX4_feed_57 : decode cX4_feed 57 = .ok (.iand, 1) := by decide +kernel
theorem dX4_feed_58 : decode cX4_feed 58 = .ok (.iastore, 1) := by decide +kernel
theorem dX4_feed_59 : decode cX4_feed 59 = .ok (.aload_n 0, 1) := by decide +kernel
theorem dX4_feed_60 : decode cX4_feed 60 = .ok (.dup, 1) := by decide +kernel
theorem dX4_feed_61 : decode cX4_feed 61 = .ok (.getfield 211, 3) := by decide +kernel
theorem dX4_feed_64 : decode cX4_feed 64 = .ok (.iconst 1, 1) := by decide +kernel
theorem dX4_feed_65 : decode cX4_feed 65 = .ok (.iadd, 1) := by decide +kernel
theorem dX4_feed_66 : decode cX4_feed 66 = .ok (.putfield 211, 3) := by decide +kernel
theorem dX4_feed_69 : decode cX4_feed 69 = .ok (.iinc 3 (-1), 3) := by decide +kernel
theorem dX4_feed_72 : decode cX4_feed 72 = .ok (.goto (-36), 3) := by decide +kernel
theorem dX4_feed_75 : decode cX4_feed 75 = .ok (.aload_n 0, 1) := by decide +kernel
theorem dX4_feed_76 : decode cX4_feed 76 = .ok (.getfield 211, 3) := by decide +kernel
theorem dX4_feed_79 : decode cX4_feed 79 = .ok (.ireturn, 1) := by decide +kernel
theorem dX4_wipe_0 : decode cX4_wipe 0 = .ok (.aload_n 0, 1) := by decide +kernel
theorem dX4_wipe_1 : decode cX4_wipe 1 = .ok (.getfield 211, 3) := by decide +kernel
theorem dX4_wipe_4 : decode cX4_wipe 4 = .ok (.istore_n 1, 1) := by decide +kernel
theorem dX4_wipe_5 : decode cX4_wipe 5 = .ok (.aload_n 0, 1) := by decide +kernel
theorem dX4_wipe_6 : decode cX4_wipe 6 = .ok (.iconst 0, 1) := by decide +kernel
theorem dX4_wipe_7 : decode cX4_wipe 7 = .ok (.putfield 211, 3) := by decide +kernel
theorem dX4_wipe_10 : decode cX4_wipe 10 = .ok (.iload_n 1, 1) := by decide +kernel
theorem dX4_wipe_11 : decode cX4_wipe 11 = .ok (.ireturn, 1) := by decide +kernel
theorem dX4_isLetter_0 : decode cX4_isLetter 0 = .ok (.iload_n 0, 1) := by decide +kernel
theorem dX4_isLetter_1 : decode cX4_isLetter 1 = .ok (.bipush 97, 2) := by decide +kernel
theorem dX4_isLetter_3 : decode cX4_isLetter 3 = .ok (.bipush 122, 2) := by decide +kernel
theorem dX4_isLetter_5 : decode cX4_isLetter 5 = .ok (.invokestatic 61, 3) := by decide +kernel
theorem dX4_isLetter_8 : decode cX4_isLetter 8 = .ok (.ireturn, 1) := by decide +kernel
theorem dX4_isDigit_0 : decode cX4_isDigit 0 = .ok (.iload_n 0, 1) := by decide +kernel
theorem dX4_isDigit_1 : decode cX4_isDigit 1 = .ok (.bipush 48, 2) := by decide +kernel
theorem dX4_isDigit_3 : decode cX4_isDigit 3 = .ok (.bipush 57, 2) := by decide +kernel
theorem dX4_isDigit_5 : decode cX4_isDigit 5 = .ok (.invokestatic 61, 3) := by decide +kernel
theorem dX4_isDigit_8 : decode cX4_isDigit 8 = .ok (.ireturn, 1) := by decide +kernel
theorem dX4_nextToken_0 : decode cX4_nextToken 0 = .ok (.aload_n 0, 1) := by decide +kernel
theorem dX4_nextToken_1 : decode cX4_nextToken 1 = .ok (.aload_n 0, 1) := by decide +kernel
theorem dX4_nextToken_2 : decode cX4_nextToken 2 = .ok (.getfield 214, 3) := by decide +kernel
theorem dX4_nextToken_5 : decode cX4_nextToken 5 = .ok (.putfield 217, 3) := by decide +kernel
theorem dX4_nextToken_8 : decode cX4_nextToken 8 = .ok (.aload_n 0, 1) := by decide +kernel
theorem dX4_nextToken_9 : decode cX4_nextToken 9 = .ok (.getfield 217, 3) := by decide +kernel
theorem dX4_nextToken_12 : decode cX4_nextToken 12 = .ok (.aload_n 0, 1) := by decide +kernel
theorem dX4_nextToken_13 : decode cX4_nextToken 13 = .ok (.getfield 211, 3) := by decide +kernel
theorem dX4_nextToken_16 : decode cX4_nextToken 16 = .ok (.if_icmp .ge 30, 3) := by decide +kernel
theorem dX4_nextToken_19 : decode cX4_nextToken 19 = .ok (.aload_n 0, 1) := by decide +kernel
theorem dX4_nextToken_20 : decode cX4_nextToken 20 = .ok (.getfield 28, 3) := by decide +kernel
theorem dX4_nextToken_23 : decode cX4_nextToken 23 = .ok (.aload_n 0, 1) := by decide +kernel
theorem dX4_nextToken_24 : decode cX4_nextToken 24 = .ok (.getfield 217, 3) := by decide +kernel
theorem dX4_nextToken_27 : decode cX4_nextToken 27 = .ok (.iaload, 1) := by decide +kernel
theorem dX4_nextToken_28 : decode cX4_nextToken 28 = .ok (.bipush 32, 2) := by decide +kernel
theorem dX4_nextToken_30 : decode cX4_nextToken 30 = .ok (.if_icmp .ne 16, 3) := by decide +kernel
theorem dX4_nextToken_33 : decode cX4_nextToken 33 = .ok (.aload_n 0, 1) := by decide +kernel
theorem dX4_nextToken_34 : decode cX4_nextToken 34 = .ok (.dup, 1) := by decide +kernel
theorem dX4_nextToken_35 : decode cX4_nextToken 35 = .ok (.getfield 217, 3) := by decide +kernel
theorem dX4_nextToken_38 : decode cX4_nextToken 38 = .ok (.iconst 1, 1) := by decide +kernel
theorem dX4_nextToken_39 : decode cX4_nextToken 39 = .ok (.iadd, 1) := by decide +kernel
theorem dX4_nextToken_40 : decode cX4_nextToken 40 = .ok (.putfield 217, 3) := by decide +kernel
theorem dX4_nextToken_43 : decode cX4_nextToken 43 = .ok (.goto (-35), 3) := by decide +kernel
theorem dX4_nextToken_46 : decode cX4_nextToken 46 = .ok (.aload_n 0, 1) := by decide +kernel
theorem dX4_nextToken_47 : decode cX4_nextToken 47 = .ok (.aload_n 0, 1) := by decide +kernel
theorem dX4_nextToken_48 : decode cX4_nextToken 48 = .ok (.getfield 217, 3) := by decide +kernel
theorem dX4_nextToken_51 : decode cX4_nextToken 51 = .ok (.putfield 214, 3) := by decide +kernel
theorem dX4_nextToken_54 : decode cX4_nextToken 54 = .ok (.aload_n 0, 1) := by decide +kernel
theorem dX4_nextToken_55 : decode cX4_nextToken 55 = .ok (.lconst 0, 1) := by decide +kernel
theorem dX4_nextToken_56 : decode cX4_nextToken 56 = .ok (.putfield 220, 3) := by decide +kernel
theorem dX4_nextToken_59 : decode cX4_nextToken 59 = .ok (.aload_n 0, 1) := by decide +kernel
theorem dX4_nextToken_60 : decode cX4_nextToken 60 = .ok (.getfield 217, 3) := by decide +kernel
theorem dX4_nextToken_63 : decode cX4_nextToken 63 = .ok (.aload_n 0, 1) := by decide +kernel
theorem dX4_nextToken_64 : decode cX4_nextToken 64 = .ok (.getfield 211, 3) := by decide +kernel
theorem dX4_nextToken_67 : decode cX4_nextToken 67 = .ok (.if_icmp .ne 11, 3) := by decide +kernel
theorem dX4_nextToken_70 : decode cX4_nextToken 70 = .ok (.aload_n 0, 1) := by decide +kernel
theorem dX4_nextToken_71 : decode cX4_nextToken 71 = .ok (.iconst 0, 1) := by decide +kernel
theorem dX4_nextToken_72 : decode cX4_nextToken 72 = .ok (.putfield 224, 3) := by decide +kernel
theorem dX4_nextToken_75 : decode cX4_nextToken 75 = .ok (.goto 262, 3) := by decide +kernel
theorem dX4_nextToken_78 : decode cX4_nextToken 78 = .ok (.aload_n 0, 1) := by decide +kernel
theorem dX4_nextToken_79 : decode cX4_nextToken 79 = .ok (.getfield 28, 3) := by decide +kernel
theorem dX4_nextToken_82 : decode cX4_nextToken 82 = .ok (.aload_n 0, 1) := by decide +kernel
theorem dX4_nextToken_83 : decode cX4_nextToken 83 = .ok (.getfield 217, 3) := by decide +kernel
theorem dX4_nextToken_86 : decode cX4_nextToken 86 = .ok (.iaload, 1) := by decide +kernel
theorem dX4_nextToken_87 : decode cX4_nextToken 87 = .ok (.invokestatic 227, 3) := by decide +kernel
theorem dX4_nextToken_90 : decode cX4_nextToken 90 = .ok (.ifCond .eq 92, 3) := by decide +kernel
theorem dX4_nextToken_93 : decode cX4_nextToken 93 = .ok (.aload_n 0, 1) := by decide +kernel
theorem dX4_nextToken_94 : decode cX4_nextToken 94 = .ok (.iconst 1, 1) := by decide +kernel
theorem dX4_nextToken_95 : decode cX4_nextToken 95 = .ok (.putfield 224, 3) := by decide +kernel
theorem dX4_nextToken_98 : decode cX4_nextToken 98 = .ok (.aload_n 0, 1) := by decide +kernel
theorem dX4_nextToken_99 : decode cX4_nextToken 99 = .ok (.getfield 214, 3) := by decide +kernel
theorem dX4_nextToken_102 : decode cX4_nextToken 102 = .ok (.aload_n 0, 1) := by decide +kernel
theorem dX4_nextToken_103 : decode cX4_nextToken 103 = .ok (.getfield 211, 3) := by decide +kernel
theorem dX4_nextToken_106 : decode cX4_nextToken 106 = .ok (.if_icmp .ge 231, 3) := by decide +kernel
theorem dX4_nextToken_109 : decode cX4_nextToken 109 = .ok (.aload_n 0, 1) := by decide +kernel
theorem dX4_nextToken_110 : decode cX4_nextToken 110 = .ok (.getfield 28, 3) := by decide +kernel
theorem dX4_nextToken_113 : decode cX4_nextToken 113 = .ok (.aload_n 0, 1) := by decide +kernel
theorem dX4_nextToken_114 : decode cX4_nextToken 114 = .ok (.getfield 214, 3) := by decide +kernel
theorem dX4_nextToken_117 : decode cX4_nextToken 117 = .ok (.iaload, 1) := by decide +kernel
theorem dX4_nextToken_118 : decode cX4_nextToken 118 = .ok (.invokestatic 227, 3) := by decide +kernel
theorem dX4_nextToken_121 : decode cX4_nextToken 121 = .ok (.ifCond .eq 216, 3) := by decide +kernel
theorem dX4_nextToken_124 : decode cX4_nextToken 124 = .ok (.aload_n 0, 1) := by decide +kernel
theorem dX4_nextToken_125 : decode cX4_nextToken 125 = .ok (.aload_n 0, 1) := by decide +kernel
theorem dX4_nextToken_126 : decode cX4_nextToken 126 = .ok (.getfield 220, 3) := by decide +kernel
theorem dX4_nextToken_129 : decode cX4_nextToken 129 = .ok (.ldc2_w 230, 3) := by decide +kernel
theorem dX4_nextToken_132 : decode cX4_nextToken 132 = .ok (.lcmp, 1) := by decide +kernel
theorem dX4_nextToken_133 : decode cX4_nextToken 133 = .ok (.ifCond .le 10, 3) := by decide +kernel
theorem dX4_nextToken_136 : decode cX4_nextToken 136 = .ok (.aload_n 0, 1) := by decide +kernel
theorem dX4_nextToken_137 : decode cX4_nextToken 137 = .ok (.getfield 220, 3) := by decide +kernel
theorem dX4_nextToken_140 : decode cX4_nextToken 140 = .ok (.goto 26, 3) := by decide +kernel
theorem dX4_nextToken_143 : decode cX4_nextToken 143 = .ok (.aload_n 0, 1) := by decide +kernel
theorem dX4_nextToken_144 : decode cX4_nextToken 144 = .ok (.getfield 220, 3) := by decide +kernel
theorem dX4_nextToken_147 : decode cX4_nextToken 147 = .ok (.ldc2_w 232, 3) := by decide +kernel
theorem dX4_nextToken_150 : decode cX4_nextToken 150 = .ok (.lmul, 1) := by decide +kernel
theorem dX4_nextToken_151 : decode cX4_nextToken 151 = .ok (.aload_n 0, 1) := by decide +kernel
theorem dX4_nextToken_152 : decode cX4_nextToken 152 = .ok (.getfield 28, 3) := by decide +kernel
theorem dX4_nextToken_155 : decode cX4_nextToken 155 = .ok (.aload_n 0, 1) := by decide +kernel
theorem dX4_nextToken_156 : decode cX4_nextToken 156 = .ok (.getfield 214, 3) := by decide +kernel
theorem dX4_nextToken_159 : decode cX4_nextToken 159 = .ok (.iaload, 1) := by decide +kernel
theorem dX4_nextToken_160 : decode cX4_nextToken 160 = .ok (.i2l, 1) := by decide +kernel
theorem dX4_nextToken_161 : decode cX4_nextToken 161 = .ok (.ladd, 1) := by decide +kernel
theorem dX4_nextToken_162 : decode cX4_nextToken 162 = .ok (.ldc2_w 234, 3) := by decide +kernel
theorem dX4_nextToken_165 : decode cX4_nextToken 165 = .ok (.lsub, 1) := by decide +kernel
theorem dX4_nextToken_166 : decode cX4_nextToken 166 = .ok (.putfield 220, 3) := by decide +kernel
theorem dX4_nextToken_169 : decode cX4_nextToken 169 = .ok (.aload_n 0, 1) := by decide +kernel
theorem dX4_nextToken_170 : decode cX4_nextToken 170 = .ok (.dup, 1) := by decide +kernel
theorem dX4_nextToken_171 : decode cX4_nextToken 171 = .ok (.getfield 214, 3) := by decide +kernel
theorem dX4_nextToken_174 : decode cX4_nextToken 174 = .ok (.iconst 1, 1) := by decide +kernel
theorem dX4_nextToken_175 : decode cX4_nextToken 175 = .ok (.iadd, 1) := by decide +kernel
theorem dX4_nextToken_176 : decode cX4_nextToken 176 = .ok (.putfield 214, 3) := by decide +kernel
theorem dX4_nextToken_179 : decode cX4_nextToken 179 = .ok (.goto (-81), 3) := by decide +kernel
theorem dX4_nextToken_182 : decode cX4_nextToken 182 = .ok (.aload_n 0, 1) := by decide +kernel
theorem dX4_nextToken_183 : decode cX4_nextToken 183 = .ok (.getfield 28, 3) := by decide +kernel
theorem dX4_nextToken_186 : decode cX4_nextToken 186 = .ok (.aload_n 0, 1) := by decide +kernel
theorem dX4_nextToken_187 : decode cX4_nextToken 187 = .ok (.getfield 217, 3) := by decide +kernel
theorem dX4_nextToken_190 : decode cX4_nextToken 190 = .ok (.iaload, 1) := by decide +kernel
theorem dX4_nextToken_191 : decode cX4_nextToken 191 = .ok (.invokestatic 236, 3) := by decide +kernel
theorem dX4_nextToken_194 : decode cX4_nextToken 194 = .ok (.ifCond .eq 110, 3) := by decide +kernel
theorem dX4_nextToken_197 : decode cX4_nextToken 197 = .ok (.aload_n 0, 1) := by decide +kernel
theorem dX4_nextToken_198 : decode cX4_nextToken 198 = .ok (.getfield 214, 3) := by decide +kernel
theorem dX4_nextToken_201 : decode cX4_nextToken 201 = .ok (.aload_n 0, 1) := by decide +kernel
theorem dX4_nextToken_202 : decode cX4_nextToken 202 = .ok (.getfield 211, 3) := by decide +kernel
theorem dX4_nextToken_205 : decode cX4_nextToken 205 = .ok (.if_icmp .ge 76, 3) := by decide +kernel
theorem dX4_nextToken_208 : decode cX4_nextToken 208 = .ok (.aload_n 0, 1) := by decide +kernel
theorem dX4_nextToken_209 : decode cX4_nextToken 209 = .ok (.getfield 28, 3) := by decide +kernel
theorem dX4_nextToken_212 : decode cX4_nextToken 212 = .ok (.aload_n 0, 1) := by decide +kernel
theorem dX4_nextToken_213 : decode cX4_nextToken 213 = .ok (.getfield 214, 3) := by decide +kernel
theorem dX4_nextToken_216 : decode cX4_nextToken 216 = .ok (.iaload, 1) := by decide +kernel
theorem dX4_nextToken_217 : decode cX4_nextToken 217 = .ok (.invokestatic 236, 3) := by decide +kernel
theorem dX4_nextToken_220 : decode cX4_nextToken 220 = .ok (.ifCond .eq 61, 3) := by decide +kernel
theorem dX4_nextToken_223 : decode cX4_nextToken 223 = .ok (.aload_n 0, 1) := by decide +kernel
theorem dX4_nextToken_224 : decode cX4_nextToken 224 = .ok (.aload_n 0, 1) := by decide +kernel
theorem dX4_nextToken_225 : decode cX4_nextToken 225 = .ok (.getfield 220, 3) := by decide +kernel
theorem dX4_nextToken_228 : decode cX4_nextToken 228 = .ok (.ldc2_w 239, 3) := by decide +kernel
theorem dX4_nextToken_231 : decode cX4_nextToken 231 = .ok (.lcmp, 1) := by decide +kernel
theorem dX4_nextToken_232 : decode cX4_nextToken 232 = .ok (.ifCond .le 10, 3) := by decide +kernel
theorem dX4_nextToken_235 : decode cX4_nextToken 235 = .ok (.aload_n 0, 1) := by decide +kernel
theorem dX4_nextToken_236 : decode cX4_nextToken 236 = .ok (.getfield 220, 3) := by decide +kernel
theorem dX4_nextToken_239 : decode cX4_nextToken 239 = .ok (.goto 26, 3) := by decide +kernel
theorem dX4_nextToken_242 : decode cX4_nextToken 242 = .ok (.aload_n 0, 1) := by decide +kernel
theorem dX4_nextToken_243 : decode cX4_nextToken 243 = .ok (.getfield 220, 3) := by decide +kernel
theorem dX4_nextToken_246 : decode cX4_nextToken 246 = .ok (.ldc2_w 209, 3) := by decide +kernel
theorem dX4_nextToken_249 : decode cX4_nextToken 249 = .ok (.lmul, 1) := by decide +kernel
theorem dX4_nextToken_250 : decode cX4_nextToken 250 = .ok (.aload_n 0, 1) := by decide +kernel
theorem dX4_nextToken_251 : decode cX4_nextToken 251 = .ok (.getfield 28, 3) := by decide +kernel
theorem dX4_nextToken_254 : decode cX4_nextToken 254 = .ok (.aload_n 0, 1) := by decide +kernel
theorem dX4_nextToken_255 : decode cX4_nextToken 255 = .ok (.getfield 214, 3) := by decide +kernel
theorem dX4_nextToken_258 : decode cX4_nextToken 258 = .ok (.iaload, 1) := by decide +kernel
theorem dX4_nextToken_259 : decode cX4_nextToken 259 = .ok (.i2l, 1) := by decide +kernel
theorem dX4_nextToken_260 : decode cX4_nextToken 260 = .ok (.ladd, 1) := by decide +kernel
theorem dX4_nextToken_261 : decode cX4_nextToken 261 = .ok (.ldc2_w 241, 3) := by decide +kernel
theorem dX4_nextToken_264 : decode cX4_nextToken 264 = .ok (.lsub, 1) := by decide +kernel
theorem dX4_nextToken_265 : decode cX4_nextToken 265 = .ok (.putfield 220, 3) := by decide +kernel
theorem dX4_nextToken_268 : decode cX4_nextToken 268 = .ok (.aload_n 0, 1) := by decide +kernel
theorem dX4_nextToken_269 : decode cX4_nextToken 269 = .ok (.dup, 1) := by decide +kernel
theorem dX4_nextToken_270 : decode cX4_nextToken 270 = .ok (.getfield 214, 3) := by decide +kernel
theorem dX4_nextToken_273 : decode cX4_nextToken 273 = .ok (.iconst 1, 1) := by decide +kernel
theorem dX4_nextToken_274 : decode cX4_nextToken 274 = .ok (.iadd, 1) := by decide +kernel
theorem dX4_nextToken_275 : decode cX4_nextToken 275 = .ok (.putfield 214, 3) := by decide +kernel
theorem dX4_nextToken_278 : decode cX4_nextToken 278 = .ok (.goto (-81), 3) := by decide +kernel
theorem dX4_nextToken_281 : decode cX4_nextToken 281 = .ok (.aload_n 0, 1) := by decide +kernel
theorem dX4_nextToken_282 : decode cX4_nextToken 282 = .ok (.aload_n 0, 1) := by decide +kernel
theorem dX4_nextToken_283 : decode cX4_nextToken 283 = .ok (.getfield 220, 3) := by decide +kernel
theorem dX4_nextToken_286 : decode cX4_nextToken 286 = .ok (.ldc2_w 239, 3) := by decide +kernel
theorem dX4_nextToken_289 : decode cX4_nextToken 289 = .ok (.lcmp, 1) := by decide +kernel
theorem dX4_nextToken_290 : decode cX4_nextToken 290 = .ok (.ifCond .le 7, 3) := by decide +kernel
theorem dX4_nextToken_293 : decode cX4_nextToken 293 = .ok (.iconst 4, 1) := by decide +kernel
theorem dX4_nextToken_294 : decode cX4_nextToken 294 = .ok (.goto 4, 3) := by decide +kernel
theorem dX4_nextToken_297 : decode cX4_nextToken 297 = .ok (.iconst 2, 1) := by decide +kernel
theorem dX4_nextToken_298 : decode cX4_nextToken 298 = .ok (.putfield 224, 3) := by decide +kernel
theorem dX4_nextToken_301 : decode cX4_nextToken 301 = .ok (.goto 36, 3) := by decide +kernel
theorem dX4_nextToken_304 : decode cX4_nextToken 304 = .ok (.aload_n 0, 1) := by decide +kernel
theorem dX4_nextToken_305 : decode cX4_nextToken 305 = .ok (.aload_n 0, 1) := by decide +kernel
theorem dX4_nextToken_306 : decode cX4_nextToken 306 = .ok (.getfield 28, 3) := by decide +kernel
theorem dX4_nextToken_309 : decode cX4_nextToken 309 = .ok (.aload_n 0, 1) := by decide +kernel
theorem dX4_nextToken_310 : decode cX4_nextToken 310 = .ok (.getfield 217, 3) := by decide +kernel
theorem dX4_nextToken_313 : decode cX4_nextToken 313 = .ok (.iaload, 1) := by decide +kernel
theorem dX4_nextToken_314 : decode cX4_nextToken 314 = .ok (.bipush 59, 2) := by decide +kernel
theorem dX4_nextToken_316 : decode cX4_nextToken 316 = .ok (.if_icmp .ne 7, 3) := by decide +kernel
theorem dX4_nextToken_319 : decode cX4_nextToken 319 = .ok (.iconst 3, 1) := by decide +kernel
theorem dX4_nextToken_320 : decode cX4_nextToken 320 = .ok (.goto 4, 3) := by decide +kernel
theorem dX4_nextToken_323 : decode cX4_nextToken 323 = .ok (.iconst 4, 1) := by decide +kernel
theorem dX4_nextToken_324 : decode cX4_nextToken 324 = .ok (.putfield 224, 3) := by decide +kernel
theorem dX4_nextToken_327 : decode cX4_nextToken 327 = .ok (.aload_n 0, 1) := by decide +kernel
theorem dX4_nextToken_328 : decode cX4_nextToken 328 = .ok (.dup, 1) := by decide +kernel
theorem dX4_nextToken_329 : decode cX4_nextToken 329 = .ok (.getfield 214, 3) := by decide +kernel
theorem dX4_nextToken_332 : decode cX4_nextToken 332 = .ok (.iconst 1, 1) := by decide +kernel
theorem dX4_nextToken_333 : decode cX4_nextToken 333 = .ok (.iadd, 1) := by decide +kernel
theorem dX4_nextToken_334 : decode cX4_nextToken 334 = .ok (.putfield 214, 3) := by decide +kernel
theorem dX4_nextToken_337 : decode cX4_nextToken 337 = .ok (.return_, 1) := by decide +kernel
theorem dX4_wordOf_0 : decode cX4_wordOf 0 = .ok (.iconst (-1), 1) := by decide +kernel
theorem dX4_wordOf_1 : decode cX4_wordOf 1 = .ok (.istore_n 2, 1) := by decide +kernel
theorem dX4_wordOf_2 : decode cX4_wordOf 2 = .ok (.iconst 0, 1) := by decide +kernel
theorem dX4_wordOf_3 : decode cX4_wordOf 3 = .ok (.istore_n 3, 1) := by decide +kernel
theorem dX4_wordOf_4 : decode cX4_wordOf 4 = .ok (.iload_n 3, 1) := by decide +kernel
theorem dX4_wordOf_5 : decode cX4_wordOf 5 = .ok (.aload_n 1, 1) := by decide +kernel
theorem dX4_wordOf_6 : decode cX4_wordOf 6 = .ok (.arraylength, 1) := by decide +kernel
theorem dX4_wordOf_7 : decode cX4_wordOf 7 = .ok (.bipush 8, 2) := by decide +kernel
theorem dX4_wordOf_9 : decode cX4_wordOf 9 = .ok (.idiv, 1) := by decide +kernel
theorem dX4_wordOf_10 : decode cX4_wordOf 10 = .ok (.if_icmp .ge 94, 3) := by decide +kernel
theorem dX4_wordOf_13 : decode cX4_wordOf 13 = .ok (.aload_n 0, 1) := by decide +kernel
theorem dX4_wordOf_14 : decode cX4_wordOf 14 = .ok (.getfield 224, 3) := by decide +kernel
theorem dX4_wordOf_17 : decode cX4_wordOf 17 = .ok (.iconst 1, 1) := by decide +kernel
theorem dX4_wordOf_18 : decode cX4_wordOf 18 = .ok (.if_icmp .ne 86, 3) := by decide +kernel
theorem dX4_wordOf_21 : decode cX4_wordOf 21 = .ok (.lconst 0, 1) := by decide +kernel
theorem dX4_wordOf_22 : decode cX4_wordOf 22 = .ok (.lstore 4, 2) := by decide +kernel
theorem dX4_wordOf_24 : decode cX4_wordOf 24 = .ok (.iconst 0, 1) := by decide +kernel
theorem dX4_wordOf_25 : decode cX4_wordOf 25 = .ok (.istore 6, 2) := by decide +kernel
theorem dX4_wordOf_27 : decode cX4_wordOf 27 = .ok (.iload 6, 2) := by decide +kernel
theorem dX4_wordOf_29 : decode cX4_wordOf 29 = .ok (.bipush 8, 2) := by decide +kernel
theorem dX4_wordOf_31 : decode cX4_wordOf 31 = .ok (.if_icmp .ge 51, 3) := by decide +kernel
theorem dX4_wordOf_34 : decode cX4_wordOf 34 = .ok (.aload_n 1, 1) := by decide +kernel
theorem dX4_wordOf_35 : decode cX4_wordOf 35 = .ok (.bipush 8, 2) := by decide +kernel
theorem dX4_wordOf_37 : decode cX4_wordOf 37 = .ok (.iload_n 3, 1) := by decide +kernel
theorem dX4_wordOf_38 : decode cX4_wordOf 38 = .ok (.imul, 1) := by decide +kernel
theorem dX4_wordOf_39 : decode cX4_wordOf 39 = .ok (.iload 6, 2) := by decide +kernel
theorem dX4_wordOf_41 : decode cX4_wordOf 41 = .ok (.iadd, 1) := by decide +kernel
theorem dX4_wordOf_42 : decode cX4_wordOf 42 = .ok (.caload, 1) := by decide +kernel
theorem dX4_wordOf_43 : decode cX4_wordOf 43 = .ok (.bipush 32, 2) := by decide +kernel
theorem dX4_wordOf_45 : decode cX4_wordOf 45 = .ok (.if_icmp .ne 8, 3) := by decide +kernel
theorem dX4_wordOf_48 : decode cX4_wordOf 48 = .ok (.lload 4, 2) := by decide +kernel
theorem dX4_wordOf_50 : decode cX4_wordOf 50 = .ok (.goto 24, 3) := by decide +kernel
theorem dX4_wordOf_53 : decode cX4_wordOf 53 = .ok (.lload 4, 2) := by decide +kernel
theorem dX4_wordOf_55 : decode cX4_wordOf 55 = .ok (.ldc2_w 232, 3) := by decide +kernel
theorem dX4_wordOf_58 : decode cX4_wordOf 58 = .ok (.lmul, 1) := by decide +kernel
theorem dX4_wordOf_59 : decode cX4_wordOf 59 = .ok (.aload_n 1, 1) := by decide +kernel
theorem dX4_wordOf_60 : decode cX4_wordOf 60 = .ok (.bipush 8, 2) := by decide +kernel
theorem dX4_wordOf_62 : decode cX4_wordOf 62 = .ok (.iload_n 3, 1) := by decide +kernel
theorem dX4_wordOf_63 : decode cX4_wordOf 63 = .ok (.imul, 1) := by decide +kernel
theorem dX4_wordOf_64 : decode cX4_wordOf 64 = .ok (.iload 6, 2) := by decide +kernel
theorem dX4_wordOf_66 : decode cX4_wordOf 66 = .ok (.iadd, 1) := by decide +kernel
theorem dX4_wordOf_67 : decode cX4_wordOf 67 = .ok (.caload, 1) := by decide +kernel
theorem dX4_wordOf_68 : decode cX4_wordOf 68 = .ok (.i2l, 1) := by decide +kernel
theorem dX4_wordOf_69 : decode cX4_wordOf 69 = .ok (.ladd, 1) := by decide +kernel
theorem dX4_wordOf_70 : decode cX4_wordOf 70 = .ok (.ldc2_w 234, 3) := by decide +kernel
theorem dX4_wordOf_73 : decode cX4_wordOf 73 = .ok (.lsub, 1) := by decide +kernel
theorem dX4_wordOf_74 : decode cX4_wordOf 74 = .ok (.lstore 4, 2) := by decide +kernel
theorem dX4_wordOf_76 : decode cX4_wordOf 76 = .ok (.iinc 6 1, 3) := by decide +kernel
theorem dX4_wordOf_79 : decode cX4_wordOf 79 = .ok (.goto (-52), 3) := by decide +kernel
theorem dX4_wordOf_82 : decode cX4_wordOf 82 = .ok (.lload 4, 2) := by decide +kernel
theorem dX4_wordOf_84 : decode cX4_wordOf 84 = .ok (.aload_n 0, 1) := by decide +kernel
theorem dX4_wordOf_85 : decode cX4_wordOf 85 = .ok (.getfield 220, 3) := by decide +kernel
theorem dX4_wordOf_88 : decode cX4_wordOf 88 = .ok (.lcmp, 1) := by decide +kernel
theorem dX4_wordOf_89 : decode cX4_wordOf 89 = .ok (.ifCond .ne 7, 3) := by decide +kernel
theorem dX4_wordOf_92 : decode cX4_wordOf 92 = .ok (.iload_n 3, 1) := by decide +kernel
theorem dX4_wordOf_93 : decode cX4_wordOf 93 = .ok (.goto 4, 3) := by decide +kernel
theorem dX4_wordOf_96 : decode cX4_wordOf 96 = .ok (.iload_n 2, 1) := by decide +kernel
theorem dX4_wordOf_97 : decode cX4_wordOf 97 = .ok (.istore_n 2, 1) := by decide +kernel
theorem dX4_wordOf_98 : decode cX4_wordOf 98 = .ok (.iinc 3 1, 3) := by decide +kernel
theorem dX4_wordOf_101 : decode cX4_wordOf 101 = .ok (.goto (-97), 3) := by decide +kernel
theorem dX4_wordOf_104 : decode cX4_wordOf 104 = .ok (.iload_n 2, 1) := by decide +kernel
theorem dX4_wordOf_105 : decode cX4_wordOf 105 = .ok (.ireturn, 1) := by decide +kernel
theorem dX4_takesNumber_0 : decode cX4_takesNumber 0 = .ok (.aload_n 0, 1) := by decide +kernel
theorem dX4_takesNumber_1 : decode cX4_takesNumber 1 = .ok (.getfield 224, 3) := by decide +kernel
theorem dX4_takesNumber_4 : decode cX4_takesNumber 4 = .ok (.iconst 2, 1) := by decide +kernel
theorem dX4_takesNumber_5 : decode cX4_takesNumber 5 = .ok (.if_icmp .ne 24, 3) := by decide +kernel
theorem dX4_takesNumber_8 : decode cX4_takesNumber 8 = .ok (.aload_n 0, 1) := by decide +kernel
theorem dX4_takesNumber_9 : decode cX4_takesNumber 9 = .ok (.getfield 220, 3) := by decide +kernel
theorem dX4_takesNumber_12 : decode cX4_takesNumber 12 = .ok (.l2i, 1) := by decide +kernel
theorem dX4_takesNumber_13 : decode cX4_takesNumber 13 = .ok (.iload_n 1, 1) := by decide +kernel
theorem dX4_takesNumber_14 : decode cX4_takesNumber 14 = .ok (.iload_n 2, 1) := by decide +kernel
theorem dX4_takesNumber_15 : decode cX4_takesNumber 15 = .ok (.invokestatic 61, 3) := by decide +kernel
theorem dX4_takesNumber_18 : decode cX4_takesNumber 18 = .ok (.ifCond .eq 11, 3) := by decide +kernel
theorem dX4_takesNumber_21 : decode cX4_takesNumber 21 = .ok (.aload_n 0, 1) := by decide +kernel
theorem dX4_takesNumber_22 : decode cX4_takesNumber 22 = .ok (.getfield 220, 3) := by decide +kernel
theorem dX4_takesNumber_25 : decode cX4_takesNumber 25 = .ok (.l2i, 1) := by decide +kernel
theorem dX4_takesNumber_26 : decode cX4_takesNumber 26 = .ok (.goto 4, 3) := by decide +kernel
theorem dX4_takesNumber_29 : decode cX4_takesNumber 29 = .ok (.iconst (-1), 1) := by decide +kernel
theorem dX4_takesNumber_30 : decode cX4_takesNumber 30 = .ok (.istore_n 3, 1) := by decide +kernel
theorem dX4_takesNumber_31 : decode cX4_takesNumber 31 = .ok (.iload_n 3, 1) := by decide +kernel
theorem dX4_takesNumber_32 : decode cX4_takesNumber 32 = .ok (.ifCond .lt 7, 3) := by decide +kernel
theorem dX4_takesNumber_35 : decode cX4_takesNumber 35 = .ok (.aload_n 0, 1) := by decide +kernel
theorem dX4_takesNumber_36 : decode cX4_takesNumber 36 = .ok (.invokevirtual 243, 3) := by decide +kernel
theorem dX4_takesNumber_39 : decode cX4_takesNumber 39 = .ok (.iload_n 3, 1) := by decide +kernel
theorem dX4_takesNumber_40 : decode cX4_takesNumber 40 = .ok (.ireturn, 1) := by decide +kernel
theorem dX4_readsPerson_0 : decode cX4_readsPerson 0 = .ok (.aload_n 0, 1) := by decide +kernel
theorem dX4_readsPerson_1 : decode cX4_readsPerson 1 = .ok (.getfield 9, 3) := by decide +kernel
theorem dX4_readsPerson_4 : decode cX4_readsPerson 4 = .ok (.iconst 1, 1) := by decide +kernel
theorem dX4_readsPerson_5 : decode cX4_readsPerson 5 = .ok (.iaload, 1) := by decide +kernel
theorem dX4_readsPerson_6 : decode cX4_readsPerson 6 = .ok (.bipush 8, 2) := by decide +kernel
theorem dX4_readsPerson_8 : decode cX4_readsPerson 8 = .ok (.if_icmp .ne 5, 3) := by decide +kernel
theorem dX4_readsPerson_11 : decode cX4_readsPerson 11 = .ok (.iconst 0, 1) := by decide +kernel
theorem dX4_readsPerson_12 : decode cX4_readsPerson 12 = .ok (.ireturn, 1) := by decide +kernel
theorem dX4_readsPerson_13 : decode cX4_readsPerson 13 = .ok (.aload_n 0, 1) := by decide +kernel
theorem dX4_readsPerson_14 : decode cX4_readsPerson 14 = .ok (.getfield 9, 3) := by decide +kernel
theorem dX4_readsPerson_17 : decode cX4_readsPerson 17 = .ok (.iconst 1, 1) := by decide +kernel
theorem dX4_readsPerson_18 : decode cX4_readsPerson 18 = .ok (.iaload, 1) := by decide +kernel
theorem dX4_readsPerson_19 : decode cX4_readsPerson 19 = .ok (.istore_n 2, 1) := by decide +kernel
theorem dX4_readsPerson_20 : decode cX4_readsPerson 20 = .ok (.aload_n 0, 1) := by decide +kernel
theorem dX4_readsPerson_21 : decode cX4_readsPerson 21 = .ok (.iload_n 1, 1) := by decide +kernel
theorem dX4_readsPerson_22 : decode cX4_readsPerson 22 = .ok (.invokevirtual 135, 3) := by decide +kernel
theorem dX4_readsPerson_25 : decode cX4_readsPerson 25 = .ok (.aload_n 0, 1) := by decide +kernel
theorem dX4_readsPerson_26 : decode cX4_readsPerson 26 = .ok (.invokevirtual 243, 3) := by decide +kernel
theorem dX4_readsPerson_29 : decode cX4_readsPerson 29 = .ok (.iconst 0, 1) := by decide +kernel
theorem dX4_readsPerson_30 : decode cX4_readsPerson 30 = .ok (.istore_n 3, 1) := by decide +kernel
theorem dX4_readsPerson_31 : decode cX4_readsPerson 31 = .ok (.iload_n 3, 1) := by decide +kernel
theorem dX4_readsPerson_32 : decode cX4_readsPerson 32 = .ok (.iconst 3, 1) := by decide +kernel
theorem dX4_readsPerson_33 : decode cX4_readsPerson 33 = .ok (.if_icmp .ge 71, 3) := by decide +kernel
theorem dX4_readsPerson_36 : decode cX4_readsPerson 36 = .ok (.aload_n 0, 1) := by decide +kernel
theorem dX4_readsPerson_37 : decode cX4_readsPerson 37 = .ok (.aload_n 0, 1) := by decide +kernel
theorem dX4_readsPerson_38 : decode cX4_readsPerson 38 = .ok (.getfield 35, 3) := by decide +kernel
theorem dX4_readsPerson_41 : decode cX4_readsPerson 41 = .ok (.invokevirtual 246, 3) := by decide +kernel
theorem dX4_readsPerson_44 : decode cX4_readsPerson 44 = .ok (.iload_n 3, 1) := by decide +kernel
theorem dX4_readsPerson_45 : decode cX4_readsPerson 45 = .ok (.if_icmp .ne 53, 3) := by decide +kernel
theorem dX4_readsPerson_48 : decode cX4_readsPerson 48 = .ok (.aload_n 0, 1) := by decide +kernel
theorem dX4_readsPerson_49 : decode cX4_readsPerson 49 = .ok (.invokevirtual 243, 3) := by decide +kernel
theorem dX4_readsPerson_52 : decode cX4_readsPerson 52 = .ok (.aload_n 0, 1) := by decide +kernel
theorem dX4_readsPerson_53 : decode cX4_readsPerson 53 = .ok (.iconst 0, 1) := by decide +kernel
theorem dX4_readsPerson_54 : decode cX4_readsPerson 54 = .ok (.iload_n 3, 1) := by decide +kernel
theorem dX4_readsPerson_55 : decode cX4_readsPerson 55 = .ok (.ifCond .ne 8, 3) := by decide +kernel
theorem dX4_readsPerson_58 : decode cX4_readsPerson 58 = .ok (.bipush 9, 2) := by decide +kernel
theorem dX4_readsPerson_60 : decode cX4_readsPerson 60 = .ok (.goto 16, 3) := by decide +kernel
theorem dX4_readsPerson_63 : decode cX4_readsPerson 63 = .ok (.iload_n 3, 1) := by decide +kernel
theorem dX4_readsPerson_64 : decode cX4_readsPerson 64 = .ok (.iconst 1, 1) := by decide +kernel
theorem dX4_readsPerson_65 : decode cX4_readsPerson 65 = .ok (.if_icmp .ne 8, 3) := by decide +kernel
theorem dX4_readsPerson_68 : decode cX4_readsPerson 68 = .ok (.bipush 99, 2) := by decide +kernel
theorem dX4_readsPerson_70 : decode cX4_readsPerson 70 = .ok (.goto 6, 3) := by decide +kernel
theorem dX4_readsPerson_73 : decode cX4_readsPerson 73 = .ok (.sipush 9999, 3) := by decide +kernel
theorem dX4_readsPerson_76 : decode cX4_readsPerson 76 = .ok (.invokevirtual 250, 3) := by decide +kernel
theorem dX4_readsPerson_79 : decode cX4_readsPerson 79 = .ok (.istore 4, 2) := by decide +kernel
theorem dX4_readsPerson_81 : decode cX4_readsPerson 81 = .ok (.iload 4, 2) := by decide +kernel
theorem dX4_readsPerson_83 : decode cX4_readsPerson 83 = .ok (.ifCond .ge 5, 3) := by decide +kernel
theorem dX4_readsPerson_86 : decode cX4_readsPerson 86 = .ok (.iconst 0, 1) := by decide +kernel
theorem dX4_readsPerson_87 : decode cX4_readsPerson 87 = .ok (.ireturn, 1) := by decide +kernel
theorem dX4_readsPerson_88 : decode cX4_readsPerson 88 = .ok (.aload_n 0, 1) := by decide +kernel
theorem dX4_readsPerson_89 : decode cX4_readsPerson 89 = .ok (.iload_n 2, 1) := by decide +kernel
theorem dX4_readsPerson_90 : decode cX4_readsPerson 90 = .ok (.iconst 1, 1) := by decide +kernel
theorem dX4_readsPerson_91 : decode cX4_readsPerson 91 = .ok (.iload_n 3, 1) := by decide +kernel
theorem dX4_readsPerson_92 : decode cX4_readsPerson 92 = .ok (.iadd, 1) := by decide +kernel
theorem dX4_readsPerson_93 : decode cX4_readsPerson 93 = .ok (.iload 4, 2) := by decide +kernel
theorem dX4_readsPerson_95 : decode cX4_readsPerson 95 = .ok (.invokevirtual 95, 3) := by decide +kernel
theorem dX4_readsPerson_98 : decode cX4_readsPerson 98 = .ok (.iinc 3 1, 3) := by decide +kernel
theorem dX4_readsPerson_101 : decode cX4_readsPerson 101 = .ok (.goto (-70), 3) := by decide +kernel
theorem dX4_readsPerson_104 : decode cX4_readsPerson 104 = .ok (.iconst 1, 1) := by decide +kernel
theorem dX4_readsPerson_105 : decode cX4_readsPerson 105 = .ok (.ireturn, 1) := by decide +kernel
theorem dX4_readsLot_0 : decode cX4_readsLot 0 = .ok (.aload_n 0, 1) := by decide +kernel
theorem dX4_readsLot_1 : decode cX4_readsLot 1 = .ok (.iconst 0, 1) := by decide +kernel
theorem dX4_readsLot_2 : decode cX4_readsLot 2 = .ok (.bipush 9, 2) := by decide +kernel
theorem dX4_readsLot_4 : decode cX4_readsLot 4 = .ok (.invokevirtual 250, 3) := by decide +kernel
theorem dX4_readsLot_7 : decode cX4_readsLot 7 = .ok (.istore_n 1, 1) := by decide +kernel
theorem dX4_readsLot_8 : decode cX4_readsLot 8 = .ok (.iload_n 1, 1) := by decide +kernel
theorem dX4_readsLot_9 : decode cX4_readsLot 9 = .ok (.ifCond .ge 5, 3) := by decide +kernel
theorem dX4_readsLot_12 : decode cX4_readsLot 12 = .ok (.iconst 0, 1) := by decide +kernel
theorem dX4_readsLot_13 : decode cX4_readsLot 13 = .ok (.ireturn, 1) := by decide +kernel
theorem dX4_readsLot_14 : decode cX4_readsLot 14 = .ok (.iconst 0, 1) := by decide +kernel
theorem dX4_readsLot_15 : decode cX4_readsLot 15 = .ok (.istore_n 2, 1) := by decide +kernel
theorem dX4_readsLot_16 : decode cX4_readsLot 16 = .ok (.iload_n 2, 1) := by decide +kernel
theorem dX4_readsLot_17 : decode cX4_readsLot 17 = .ok (.iconst 3, 1) := by decide +kernel
theorem dX4_readsLot_18 : decode cX4_readsLot 18 = .ok (.if_icmp .ge 71, 3) := by decide +kernel
theorem dX4_readsLot_21 : decode cX4_readsLot 21 = .ok (.aload_n 0, 1) := by decide +kernel
theorem dX4_readsLot_22 : decode cX4_readsLot 22 = .ok (.aload_n 0, 1) := by decide +kernel
theorem dX4_readsLot_23 : decode cX4_readsLot 23 = .ok (.getfield 41, 3) := by decide +kernel
theorem dX4_readsLot_26 : decode cX4_readsLot 26 = .ok (.invokevirtual 246, 3) := by decide +kernel
theorem dX4_readsLot_29 : decode cX4_readsLot 29 = .ok (.iload_n 2, 1) := by decide +kernel
theorem dX4_readsLot_30 : decode cX4_readsLot 30 = .ok (.if_icmp .ne 53, 3) := by decide +kernel
theorem dX4_readsLot_33 : decode cX4_readsLot 33 = .ok (.aload_n 0, 1) := by decide +kernel
theorem dX4_readsLot_34 : decode cX4_readsLot 34 = .ok (.invokevirtual 243, 3) := by decide +kernel
theorem dX4_readsLot_37 : decode cX4_readsLot 37 = .ok (.aload_n 0, 1) := by decide +kernel
theorem dX4_readsLot_38 : decode cX4_readsLot 38 = .ok (.iconst 0, 1) := by decide +kernel
theorem dX4_readsLot_39 : decode cX4_readsLot 39 = .ok (.iload_n 2, 1) := by decide +kernel
theorem dX4_readsLot_40 : decode cX4_readsLot 40 = .ok (.ifCond .ne 8, 3) := by decide +kernel
theorem dX4_readsLot_43 : decode cX4_readsLot 43 = .ok (.bipush 99, 2) := by decide +kernel
theorem dX4_readsLot_45 : decode cX4_readsLot 45 = .ok (.goto 21, 3) := by decide +kernel
theorem dX4_readsLot_48 : decode cX4_readsLot 48 = .ok (.iload_n 2, 1) := by decide +kernel
theorem dX4_readsLot_49 : decode cX4_readsLot 49 = .ok (.iconst 1, 1) := by decide +kernel
theorem dX4_readsLot_50 : decode cX4_readsLot 50 = .ok (.if_icmp .ne 8, 3) := by decide +kernel
theorem dX4_readsLot_53 : decode cX4_readsLot 53 = .ok (.bipush 20, 2) := by decide +kernel
theorem dX4_readsLot_55 : decode cX4_readsLot 55 = .ok (.goto 11, 3) := by decide +kernel
theorem dX4_readsLot_58 : decode cX4_readsLot 58 = .ok (.aload_n 0, 1) := by decide +kernel
theorem dX4_readsLot_59 : decode cX4_readsLot 59 = .ok (.getfield 9, 3) := by decide +kernel
theorem dX4_readsLot_62 : decode cX4_readsLot 62 = .ok (.iconst 1, 1) := by decide +kernel
theorem dX4_readsLot_63 : decode cX4_readsLot 63 = .ok (.iaload, 1) := by decide +kernel
theorem dX4_readsLot_64 : decode cX4_readsLot 64 = .ok (.iconst 1, 1) := by decide +kernel
theorem dX4_readsLot_65 : decode cX4_readsLot 65 = .ok (.isub, 1) := by decide +kernel
theorem dX4_readsLot_66 : decode cX4_readsLot 66 = .ok (.invokevirtual 250, 3) := by decide +kernel
theorem dX4_readsLot_69 : decode cX4_readsLot 69 = .ok (.istore_n 3, 1) := by decide +kernel
theorem dX4_readsLot_70 : decode cX4_readsLot 70 = .ok (.iload_n 3, 1) := by decide +kernel
theorem dX4_readsLot_71 : decode cX4_readsLot 71 = .ok (.ifCond .ge 5, 3) := by decide +kernel
theorem dX4_readsLot_74 : decode cX4_readsLot 74 = .ok (.iconst 0, 1) := by decide +kernel
theorem dX4_readsLot_75 : decode cX4_readsLot 75 = .ok (.ireturn, 1) := by decide +kernel
theorem dX4_readsLot_76 : decode cX4_readsLot 76 = .ok (.aload_n 0, 1) := by decide +kernel
theorem dX4_readsLot_77 : decode cX4_readsLot 77 = .ok (.iload_n 1, 1) := by decide +kernel
theorem dX4_readsLot_78 : decode cX4_readsLot 78 = .ok (.iload_n 2, 1) := by decide +kernel
theorem dX4_readsLot_79 : decode cX4_readsLot 79 = .ok (.iload_n 3, 1) := by decide +kernel
theorem dX4_readsLot_80 : decode cX4_readsLot 80 = .ok (.invokevirtual 56, 3) := by decide +kernel
theorem dX4_readsLot_83 : decode cX4_readsLot 83 = .ok (.iinc 2 1, 3) := by decide +kernel
theorem dX4_readsLot_86 : decode cX4_readsLot 86 = .ok (.goto (-70), 3) := by decide +kernel
theorem dX4_readsLot_89 : decode cX4_readsLot 89 = .ok (.iconst 1, 1) := by decide +kernel
theorem dX4_readsLot_90 : decode cX4_readsLot 90 = .ok (.ireturn, 1) := by decide +kernel
theorem dX4_readsSun_0 : decode cX4_readsSun 0 = .ok (.iload_n 1, 1) := by decide +kernel
theorem dX4_readsSun_1 : decode cX4_readsSun 1 = .ok (.ifCond .eq 7, 3) := by decide +kernel
theorem dX4_readsSun_4 : decode cX4_readsSun 4 = .ok (.iconst 0, 1) := by decide +kernel
theorem dX4_readsSun_5 : decode cX4_readsSun 5 = .ok (.goto 9, 3) := by decide +kernel
theorem dX4_readsSun_8 : decode cX4_readsSun 8 = .ok (.aload_n 0, 1) := by decide +kernel
theorem dX4_readsSun_9 : decode cX4_readsSun 9 = .ok (.iconst 0, 1) := by decide +kernel
theorem dX4_readsSun_10 : decode cX4_readsSun 10 = .ok (.iconst 5, 1) := by decide +kernel
theorem dX4_readsSun_11 : decode cX4_readsSun 11 = .ok (.invokevirtual 250, 3) := by decide +kernel
theorem dX4_readsSun_14 : decode cX4_readsSun 14 = .ok (.istore_n 2, 1) := by decide +kernel
theorem dX4_readsSun_15 : decode cX4_readsSun 15 = .ok (.iload_n 2, 1) := by decide +kernel
theorem dX4_readsSun_16 : decode cX4_readsSun 16 = .ok (.ifCond .ge 7, 3) := by decide +kernel
theorem dX4_readsSun_19 : decode cX4_readsSun 19 = .ok (.iconst (-1), 1) := by decide +kernel
theorem dX4_readsSun_20 : decode cX4_readsSun 20 = .ok (.goto 10, 3) := by decide +kernel
theorem dX4_readsSun_23 : decode cX4_readsSun 23 = .ok (.aload_n 0, 1) := by decide +kernel
theorem dX4_readsSun_24 : decode cX4_readsSun 24 = .ok (.iconst 0, 1) := by decide +kernel
theorem dX4_readsSun_25 : decode cX4_readsSun 25 = .ok (.bipush 40, 2) := by decide +kernel
theorem dX4_readsSun_27 : decode cX4_readsSun 27 = .ok (.invokevirtual 250, 3) := by decide +kernel
theorem dX4_readsSun_30 : decode cX4_readsSun 30 = .ok (.istore_n 3, 1) := by decide +kernel
theorem dX4_readsSun_31 : decode cX4_readsSun 31 = .ok (.iload_n 3, 1) := by decide +kernel
theorem dX4_readsSun_32 : decode cX4_readsSun 32 = .ok (.ifCond .lt 20, 3) := by decide +kernel
theorem dX4_readsSun_35 : decode cX4_readsSun 35 = .ok (.aload_n 0, 1) := by decide +kernel
theorem dX4_readsSun_36 : decode cX4_readsSun 36 = .ok (.getfield 9, 3) := by decide +kernel
theorem dX4_readsSun_39 : decode cX4_readsSun 39 = .ok (.iload_n 1, 1) := by decide +kernel
theorem dX4_readsSun_40 : decode cX4_readsSun 40 = .ok (.ifCond .eq 7, 3) := by decide +kernel
theorem dX4_readsSun_43 : decode cX4_readsSun 43 = .ok (.iconst 3, 1) := by decide +kernel
theorem dX4_readsSun_44 : decode cX4_readsSun 44 = .ok (.goto 6, 3) := by decide +kernel
theorem dX4_readsSun_47 : decode cX4_readsSun 47 = .ok (.iconst 4, 1) := by decide +kernel
theorem dX4_readsSun_48 : decode cX4_readsSun 48 = .ok (.iload_n 2, 1) := by decide +kernel
theorem dX4_readsSun_49 : decode cX4_readsSun 49 = .ok (.iadd, 1) := by decide +kernel
theorem dX4_readsSun_50 : decode cX4_readsSun 50 = .ok (.iload_n 3, 1) := by decide +kernel
theorem dX4_readsSun_51 : decode cX4_readsSun 51 = .ok (.iastore, 1) := by decide +kernel
theorem dX4_readsSun_52 : decode cX4_readsSun 52 = .ok (.iload_n 3, 1) := by decide +kernel
theorem dX4_readsSun_53 : decode cX4_readsSun 53 = .ok (.ifCond .lt 7, 3) := by decide +kernel
theorem dX4_readsSun_56 : decode cX4_readsSun 56 = .ok (.iconst 1, 1) := by decide +kernel
theorem dX4_readsSun_57 : decode cX4_readsSun 57 = .ok (.goto 4, 3) := by decide +kernel
theorem dX4_readsSun_60 : decode cX4_readsSun 60 = .ok (.iconst 0, 1) := by decide +kernel
theorem dX4_readsSun_61 : decode cX4_readsSun 61 = .ok (.ireturn, 1) := by decide +kernel
theorem dX4_readsItem_0 : decode cX4_readsItem 0 = .ok (.aload_n 0, 1) := by decide +kernel
theorem dX4_readsItem_1 : decode cX4_readsItem 1 = .ok (.aload_n 0, 1) := by decide +kernel
theorem dX4_readsItem_2 : decode cX4_readsItem 2 = .ok (.getfield 31, 3) := by decide +kernel
theorem dX4_readsItem_5 : decode cX4_readsItem 5 = .ok (.invokevirtual 246, 3) := by decide +kernel
theorem dX4_readsItem_8 : decode cX4_readsItem 8 = .ok (.istore_n 1, 1) := by decide +kernel
theorem dX4_readsItem_9 : decode cX4_readsItem 9 = .ok (.iload_n 1, 1) := by decide +kernel
theorem dX4_readsItem_10 : decode cX4_readsItem 10 = .ok (.ifCond .lt 9, 3) := by decide +kernel
theorem dX4_readsItem_13 : decode cX4_readsItem 13 = .ok (.aload_n 0, 1) := by decide +kernel
theorem dX4_readsItem_14 : decode cX4_readsItem 14 = .ok (.iload_n 1, 1) := by decide +kernel
theorem dX4_readsItem_15 : decode cX4_readsItem 15 = .ok (.invokevirtual 253, 3) := by decide +kernel
theorem dX4_readsItem_18 : decode cX4_readsItem 18 = .ok (.ireturn, 1) := by decide +kernel
theorem dX4_readsItem_19 : decode cX4_readsItem 19 = .ok (.aload_n 0, 1) := by decide +kernel
theorem dX4_readsItem_20 : decode cX4_readsItem 20 = .ok (.aload_n 0, 1) := by decide +kernel
theorem dX4_readsItem_21 : decode cX4_readsItem 21 = .ok (.getfield 38, 3) := by decide +kernel
theorem dX4_readsItem_24 : decode cX4_readsItem 24 = .ok (.invokevirtual 246, 3) := by decide +kernel
theorem dX4_readsItem_27 : decode cX4_readsItem 27 = .ok (.istore_n 2, 1) := by decide +kernel
theorem dX4_readsItem_28 : decode cX4_readsItem 28 = .ok (.iload_n 2, 1) := by decide +kernel
theorem dX4_readsItem_29 : decode cX4_readsItem 29 = .ok (.ifCond .ge 5, 3) := by decide +kernel
theorem dX4_readsItem_32 : decode cX4_readsItem 32 = .ok (.iconst 0, 1) := by decide +kernel
theorem dX4_readsItem_33 : decode cX4_readsItem 33 = .ok (.ireturn, 1) := by decide +kernel
theorem dX4_readsItem_34 : decode cX4_readsItem 34 = .ok (.aload_n 0, 1) := by decide +kernel
theorem dX4_readsItem_35 : decode cX4_readsItem 35 = .ok (.invokevirtual 243, 3) := by decide +kernel
theorem dX4_readsItem_38 : decode cX4_readsItem 38 = .ok (.iload_n 2, 1) := by decide +kernel
theorem dX4_readsItem_39 : decode cX4_readsItem 39 = .ok (.ifCond .ne 10, 3) := by decide +kernel
theorem dX4_readsItem_42 : decode cX4_readsItem 42 = .ok (.aload_n 0, 1) := by decide +kernel
theorem dX4_readsItem_43 : decode cX4_readsItem 43 = .ok (.invokevirtual 256, 3) := by decide +kernel
theorem dX4_readsItem_46 : decode cX4_readsItem 46 = .ok (.goto 17, 3) := by decide +kernel
theorem dX4_readsItem_49 : decode cX4_readsItem 49 = .ok (.aload_n 0, 1) := by decide +kernel
theorem dX4_readsItem_50 : decode cX4_readsItem 50 = .ok (.iload_n 2, 1) := by decide +kernel
theorem dX4_readsItem_51 : decode cX4_readsItem 51 = .ok (.iconst 2, 1) := by decide +kernel
theorem dX4_readsItem_52 : decode cX4_readsItem 52 = .ok (.if_icmp .ne 7, 3) := by decide +kernel
theorem dX4_readsItem_55 : decode cX4_readsItem 55 = .ok (.iconst 1, 1) := by decide +kernel
theorem dX4_readsItem_56 : decode cX4_readsItem 56 = .ok (.goto 4, 3) := by decide +kernel
theorem dX4_readsItem_59 : decode cX4_readsItem 59 = .ok (.iconst 0, 1) := by decide +kernel
theorem dX4_readsItem_60 : decode cX4_readsItem 60 = .ok (.invokevirtual 260, 3) := by decide +kernel
theorem dX4_readsItem_63 : decode cX4_readsItem 63 = .ok (.ireturn, 1) := by decide +kernel
theorem dX4_text_0 : decode cX4_text 0 = .ok (.aload_n 0, 1) := by decide +kernel
theorem dX4_text_1 : decode cX4_text 1 = .ok (.invokevirtual 163, 3) := by decide +kernel
theorem dX4_text_4 : decode cX4_text 4 = .ok (.aload_n 0, 1) := by decide +kernel
theorem dX4_text_5 : decode cX4_text 5 = .ok (.iconst 0, 1) := by decide +kernel
theorem dX4_text_6 : decode cX4_text 6 = .ok (.putfield 214, 3) := by decide +kernel
theorem dX4_text_9 : decode cX4_text 9 = .ok (.aload_n 0, 1) := by decide +kernel
theorem dX4_text_10 : decode cX4_text 10 = .ok (.invokevirtual 243, 3) := by decide +kernel
theorem dX4_text_13 : decode cX4_text 13 = .ok (.iconst 1, 1) := by decide +kernel
theorem dX4_text_14 : decode cX4_text 14 = .ok (.istore_n 1, 1) := by decide +kernel
theorem dX4_text_15 : decode cX4_text 15 = .ok (.aload_n 0, 1) := by decide +kernel
theorem dX4_text_16 : decode cX4_text 16 = .ok (.invokevirtual 264, 3) := by decide +kernel
theorem dX4_text_19 : decode cX4_text 19 = .ok (.istore_n 2, 1) := by decide +kernel
theorem dX4_text_20 : decode cX4_text 20 = .ok (.iload_n 2, 1) := by decide +kernel
theorem dX4_text_21 : decode cX4_text 21 = .ok (.ifCond .eq 26, 3) := by decide +kernel
theorem dX4_text_24 : decode cX4_text 24 = .ok (.aload_n 0, 1) := by decide +kernel
theorem dX4_text_25 : decode cX4_text 25 = .ok (.getfield 224, 3) := by decide +kernel
theorem dX4_text_28 : decode cX4_text 28 = .ok (.iconst 3, 1) := by decide +kernel
theorem dX4_text_29 : decode cX4_text 29 = .ok (.if_icmp .ne 18, 3) := by decide +kernel
theorem dX4_text_32 : decode cX4_text 32 = .ok (.aload_n 0, 1) := by decide +kernel
theorem dX4_text_33 : decode cX4_text 33 = .ok (.invokevirtual 243, 3) := by decide +kernel
theorem dX4_text_36 : decode cX4_text 36 = .ok (.aload_n 0, 1) := by decide +kernel
theorem dX4_text_37 : decode cX4_text 37 = .ok (.invokevirtual 264, 3) := by decide +kernel
theorem dX4_text_40 : decode cX4_text 40 = .ok (.istore_n 2, 1) := by decide +kernel
theorem dX4_text_41 : decode cX4_text 41 = .ok (.iinc 1 1, 3) := by decide +kernel
theorem dX4_text_44 : decode cX4_text 44 = .ok (.goto (-24), 3) := by decide +kernel
theorem dX4_text_47 : decode cX4_text 47 = .ok (.iload_n 2, 1) := by decide +kernel
theorem dX4_text_48 : decode cX4_text 48 = .ok (.ifCond .eq 14, 3) := by decide +kernel
theorem dX4_text_51 : decode cX4_text 51 = .ok (.aload_n 0, 1) := by decide +kernel
theorem dX4_text_52 : decode cX4_text 52 = .ok (.getfield 224, 3) := by decide +kernel
theorem dX4_text_55 : decode cX4_text 55 = .ok (.ifCond .ne 7, 3) := by decide +kernel
theorem dX4_text_58 : decode cX4_text 58 = .ok (.iconst 1, 1) := by decide +kernel
theorem dX4_text_59 : decode cX4_text 59 = .ok (.goto 4, 3) := by decide +kernel
theorem dX4_text_62 : decode cX4_text 62 = .ok (.iconst 0, 1) := by decide +kernel
theorem dX4_text_63 : decode cX4_text 63 = .ok (.istore_n 2, 1) := by decide +kernel
theorem dX4_text_64 : decode cX4_text 64 = .ok (.aload_n 0, 1) := by decide +kernel
theorem dX4_text_65 : decode cX4_text 65 = .ok (.iconst 0, 1) := by decide +kernel
theorem dX4_text_66 : decode cX4_text 66 = .ok (.putfield 211, 3) := by decide +kernel
theorem dX4_text_69 : decode cX4_text 69 = .ok (.iload_n 2, 1) := by decide +kernel
theorem dX4_text_70 : decode cX4_text 70 = .ok (.ifCond .ne 14, 3) := by decide +kernel
theorem dX4_text_73 : decode cX4_text 73 = .ok (.aload_n 0, 1) := by decide +kernel
theorem dX4_text_74 : decode cX4_text 74 = .ok (.invokevirtual 166, 3) := by decide +kernel
theorem dX4_text_77 : decode cX4_text 77 = .ok (.iconst (-1), 1) := by decide +kernel
theorem dX4_text_78 : decode cX4_text 78 = .ok (.aload_n 0, 1) := by decide +kernel
theorem dX4_text_79 : decode cX4_text 79 = .ok (.getfield 217, 3) := by decide +kernel
theorem dX4_text_82 : decode cX4_text 82 = .ok (.isub, 1) := by decide +kernel
theorem dX4_text_83 : decode cX4_text 83 = .ok (.ireturn, 1) := by decide +kernel
theorem dX4_text_84 : decode cX4_text 84 = .ok (.iload_n 1, 1) := by decide +kernel
theorem dX4_text_85 : decode cX4_text 85 = .ok (.ireturn, 1) := by decide +kernel
theorem dX4_isSpot_0 : decode cX4_isSpot 0 = .ok (.iload_n 0, 1) := by decide +kernel
theorem dX4_isSpot_1 : decode cX4_isSpot 1 = .ok (.iconst 0, 1) := by decide +kernel
theorem dX4_isSpot_2 : decode cX4_isSpot 2 = .ok (.bipush 9, 2) := by decide +kernel
theorem dX4_isSpot_4 : decode cX4_isSpot 4 = .ok (.invokestatic 61, 3) := by decide +kernel
theorem dX4_isSpot_7 : decode cX4_isSpot 7 = .ok (.ireturn, 1) := by decide +kernel
theorem dX4_hold_0 : decode cX4_hold 0 = .ok (.iload_n 1, 1) := by decide +kernel
theorem dX4_hold_1 : decode cX4_hold 1 = .ok (.invokestatic 267, 3) := by decide +kernel
theorem dX4_hold_4 : decode cX4_hold 4 = .ok (.ifCond .eq 16, 3) := by decide +kernel
theorem dX4_hold_7 : decode cX4_hold 7 = .ok (.iload_n 2, 1) := by decide +kernel
theorem dX4_hold_8 : decode cX4_hold 8 = .ok (.iconst (-1), 1) := by decide +kernel
theorem dX4_hold_9 : decode cX4_hold 9 = .ok (.if_icmp .eq 17, 3) := by decide +kernel
theorem dX4_hold_12 : decode cX4_hold 12 = .ok (.aload_n 0, 1) := by decide +kernel
theorem dX4_hold_13 : decode cX4_hold 13 = .ok (.iload_n 2, 1) := by decide +kernel
theorem dX4_hold_14 : decode cX4_hold 14 = .ok (.invokevirtual 138, 3) := by decide +kernel
theorem dX4_hold_17 : decode cX4_hold 17 = .ok (.ifCond .ne 9, 3) := by decide +kernel
theorem dX4_hold_20 : decode cX4_hold 20 = .ok (.aload_n 0, 1) := by decide +kernel
theorem dX4_hold_21 : decode cX4_hold 21 = .ok (.iconst 0, 1) := by decide +kernel
theorem dX4_hold_22 : decode cX4_hold 22 = .ok (.invokevirtual 129, 3) := by decide +kernel
theorem dX4_hold_25 : decode cX4_hold 25 = .ok (.ireturn, 1) := by decide +kernel
theorem dX4_hold_26 : decode cX4_hold 26 = .ok (.aload_n 0, 1) := by decide +kernel
theorem dX4_hold_27 : decode cX4_hold 27 = .ok (.getfield 9, 3) := by decide +kernel
theorem dX4_hold_30 : decode cX4_hold 30 = .ok (.bipush 80, 2) := by decide +kernel
theorem dX4_hold_32 : decode cX4_hold 32 = .ok (.iload_n 1, 1) := by decide +kernel
theorem dX4_hold_33 : decode cX4_hold 33 = .ok (.iadd, 1) := by decide +kernel
theorem dX4_hold_34 : decode cX4_hold 34 = .ok (.iload_n 2, 1) := by decide +kernel
theorem dX4_hold_35 : decode cX4_hold 35 = .ok (.iastore, 1) := by decide +kernel
theorem dX4_hold_36 : decode cX4_hold 36 = .ok (.iconst 1, 1) := by decide +kernel
theorem dX4_hold_37 : decode cX4_hold 37 = .ok (.ireturn, 1) := by decide +kernel
theorem dX4_above_0 : decode cX4_above 0 = .ok (.iload_n 0, 1) := by decide +kernel
theorem dX4_above_1 : decode cX4_above 1 = .ok (.iconst 3, 1) := by decide +kernel
theorem dX4_above_2 : decode cX4_above 2 = .ok (.if_icmp .ne 7, 3) := by decide +kernel
theorem dX4_above_5 : decode cX4_above 5 = .ok (.iconst 2, 1) := by decide +kernel
theorem dX4_above_6 : decode cX4_above 6 = .ok (.goto 23, 3) := by decide +kernel
theorem dX4_above_9 : decode cX4_above 9 = .ok (.iload_n 0, 1) := by decide +kernel
theorem dX4_above_10 : decode cX4_above 10 = .ok (.iconst 4, 1) := by decide +kernel
theorem dX4_above_11 : decode cX4_above 11 = .ok (.if_icmp .ne 7, 3) := by decide +kernel
theorem dX4_above_14 : decode cX4_above 14 = .ok (.iconst 3, 1) := by decide +kernel
theorem dX4_above_15 : decode cX4_above 15 = .ok (.goto 14, 3) := by decide +kernel
theorem dX4_above_18 : decode cX4_above 18 = .ok (.iload_n 0, 1) := by decide +kernel
theorem dX4_above_19 : decode cX4_above 19 = .ok (.bipush 6, 2) := by decide +kernel
theorem dX4_above_21 : decode cX4_above 21 = .ok (.if_icmp .ne 7, 3) := by decide +kernel
theorem dX4_above_24 : decode cX4_above 24 = .ok (.iconst 1, 1) := by decide +kernel
theorem dX4_above_25 : decode cX4_above 25 = .ok (.goto 4, 3) := by decide +kernel
theorem dX4_above_28 : decode cX4_above 28 = .ok (.iconst 0, 1) := by decide +kernel
theorem dX4_above_29 : decode cX4_above 29 = .ok (.ireturn, 1) := by decide +kernel
theorem dX4_as_0 : decode cX4_as 0 = .ok (.iload_n 1, 1) := by decide +kernel
theorem dX4_as_1 : decode cX4_as 1 = .ok (.invokestatic 267, 3) := by decide +kernel
theorem dX4_as_4 : decode cX4_as 4 = .ok (.ifCond .eq 13, 3) := by decide +kernel
theorem dX4_as_7 : decode cX4_as 7 = .ok (.iload_n 2, 1) := by decide +kernel
theorem dX4_as_8 : decode cX4_as 8 = .ok (.iconst 0, 1) := by decide +kernel
theorem dX4_as_9 : decode cX4_as 9 = .ok (.bipush 6, 2) := by decide +kernel
theorem dX4_as_11 : decode cX4_as 11 = .ok (.invokestatic 61, 3) := by decide +kernel
theorem dX4_as_14 : decode cX4_as 14 = .ok (.ifCond .ne 9, 3) := by decide +kernel
theorem dX4_as_17 : decode cX4_as 17 = .ok (.aload_n 0, 1) := by decide +kernel
theorem dX4_as_18 : decode cX4_as 18 = .ok (.iconst 0, 1) := by decide +kernel
theorem dX4_as_19 : decode cX4_as 19 = .ok (.invokevirtual 129, 3) := by decide +kernel
theorem dX4_as_22 : decode cX4_as 22 = .ok (.ireturn, 1) := by decide +kernel
theorem dX4_as_23 : decode cX4_as 23 = .ok (.aload_n 0, 1) := by decide +kernel
theorem dX4_as_24 : decode cX4_as 24 = .ok (.getfield 9, 3) := by decide +kernel
theorem dX4_as_27 : decode cX4_as 27 = .ok (.bipush 80, 2) := by decide +kernel
theorem dX4_as_29 : decode cX4_as 29 = .ok (.iload_n 1, 1) := by decide +kernel
theorem dX4_as_30 : decode cX4_as 30 = .ok (.iadd, 1) := by decide +kernel
theorem dX4_as_31 : decode cX4_as 31 = .ok (.iaload, 1) := by decide +kernel
theorem dX4_as_32 : decode cX4_as 32 = .ok (.istore_n 3, 1) := by decide +kernel
theorem dX4_as_33 : decode cX4_as 33 = .ok (.iload_n 3, 1) := by decide +kernel
theorem dX4_as_34 : decode cX4_as 34 = .ok (.ifCond .ge 9, 3) := by decide +kernel
theorem dX4_as_37 : decode cX4_as 37 = .ok (.aload_n 0, 1) := by decide +kernel
theorem dX4_as_38 : decode cX4_as 38 = .ok (.iconst 5, 1) := by decide +kernel
theorem dX4_as_39 : decode cX4_as 39 = .ok (.invokevirtual 129, 3) := by decide +kernel
theorem dX4_as_42 : decode cX4_as 42 = .ok (.ireturn, 1) := by decide +kernel
theorem dX4_as_43 : decode cX4_as 43 = .ok (.aload_n 0, 1) := by decide +kernel
theorem dX4_as_44 : decode cX4_as 44 = .ok (.iload_n 3, 1) := by decide +kernel
theorem dX4_as_45 : decode cX4_as 45 = .ok (.iconst 0, 1) := by decide +kernel
theorem dX4_as_46 : decode cX4_as 46 = .ok (.invokevirtual 65, 3) := by decide +kernel
theorem dX4_as_49 : decode cX4_as 49 = .ok (.istore 4, 2) := by decide +kernel
theorem dX4_as_51 : decode cX4_as 51 = .ok (.iload 4, 2) := by decide +kernel
theorem dX4_as_53 : decode cX4_as 53 = .ok (.iload_n 2, 1) := by decide +kernel
theorem dX4_as_54 : decode cX4_as 54 = .ok (.if_icmp .eq 18, 3) := by decide +kernel
theorem dX4_as_57 : decode cX4_as 57 = .ok (.iload 4, 2) := by decide +kernel
theorem dX4_as_59 : decode cX4_as 59 = .ok (.ifCond .eq 13, 3) := by decide +kernel
theorem dX4_as_62 : decode cX4_as 62 = .ok (.iload 4, 2) := by decide +kernel
theorem dX4_as_64 : decode cX4_as 64 = .ok (.invokestatic 270, 3) := by decide +kernel
theorem dX4_as_67 : decode cX4_as 67 = .ok (.istore 4, 2) := by decide +kernel
theorem dX4_as_69 : decode cX4_as 69 = .ok (.goto (-18), 3) := by decide +kernel
theorem dX4_as_72 : decode cX4_as 72 = .ok (.iload 4, 2) := by decide +kernel
theorem dX4_as_74 : decode cX4_as 74 = .ok (.iload_n 2, 1) := by decide +kernel
theorem dX4_as_75 : decode cX4_as 75 = .ok (.if_icmp .ne 7, 3) := by decide +kernel
theorem dX4_as_78 : decode cX4_as 78 = .ok (.iload_n 3, 1) := by decide +kernel
theorem dX4_as_79 : decode cX4_as 79 = .ok (.goto 8, 3) := by decide +kernel
theorem dX4_as_82 : decode cX4_as 82 = .ok (.aload_n 0, 1) := by decide +kernel
theorem dX4_as_83 : decode cX4_as 83 = .ok (.iconst 2, 1) := by decide +kernel
theorem dX4_as_84 : decode cX4_as 84 = .ok (.invokevirtual 129, 3) := by decide +kernel
theorem dX4_as_87 : decode cX4_as 87 = .ok (.ireturn, 1) := by decide +kernel
theorem dX4_sheet_0 : decode cX4_sheet 0 = .ok (.iload_n 1, 1) := by decide +kernel
theorem dX4_sheet_1 : decode cX4_sheet 1 = .ok (.invokestatic 189, 3) := by decide +kernel
theorem dX4_sheet_4 : decode cX4_sheet 4 = .ok (.ifCond .eq 25, 3) := by decide +kernel
theorem dX4_sheet_7 : decode cX4_sheet 7 = .ok (.iload_n 2, 1) := by decide +kernel
theorem dX4_sheet_8 : decode cX4_sheet 8 = .ok (.ifCond .eq 27, 3) := by decide +kernel
theorem dX4_sheet_11 : decode cX4_sheet 11 = .ok (.iload_n 2, 1) := by decide +kernel
theorem dX4_sheet_12 : decode cX4_sheet 12 = .ok (.bipush 8, 2) := by decide +kernel
theorem dX4_sheet_14 : decode cX4_sheet 14 = .ok (.if_icmp .eq 21, 3) := by decide +kernel
theorem dX4_sheet_17 : decode cX4_sheet 17 = .ok (.iload_n 2, 1) := by decide +kernel
theorem dX4_sheet_18 : decode cX4_sheet 18 = .ok (.bipush 16, 2) := by decide +kernel
theorem dX4_sheet_20 : decode cX4_sheet 20 = .ok (.if_icmp .eq 15, 3) := by decide +kernel
theorem dX4_sheet_23 : decode cX4_sheet 23 = .ok (.iload_n 2, 1) := by decide +kernel
theorem dX4_sheet_24 : decode cX4_sheet 24 = .ok (.bipush 32, 2) := by decide +kernel
theorem dX4_sheet_26 : decode cX4_sheet 26 = .ok (.if_icmp .eq 9, 3) := by decide +kernel
theorem dX4_sheet_29 : decode cX4_sheet 29 = .ok (.aload_n 0, 1) := by decide +kernel
theorem dX4_sheet_30 : decode cX4_sheet 30 = .ok (.iconst 0, 1) := by decide +kernel
theorem dX4_sheet_31 : decode cX4_sheet 31 = .ok (.invokevirtual 129, 3) := by decide +kernel
theorem dX4_sheet_34 : decode cX4_sheet 34 = .ok (.ireturn, 1) := by decide +kernel
theorem dX4_sheet_35 : decode cX4_sheet 35 = .ok (.iload_n 3, 1) := by decide +kernel
theorem dX4_sheet_36 : decode cX4_sheet 36 = .ok (.ifCond .ge 10, 3) := by decide +kernel
theorem dX4_sheet_39 : decode cX4_sheet 39 = .ok (.aload_n 0, 1) := by decide +kernel
theorem dX4_sheet_40 : decode cX4_sheet 40 = .ok (.bipush 6, 2) := by decide +kernel
theorem dX4_sheet_42 : decode cX4_sheet 42 = .ok (.invokevirtual 129, 3) := by decide +kernel
theorem dX4_sheet_45 : decode cX4_sheet 45 = .ok (.ireturn, 1) := by decide +kernel
theorem dX4_sheet_46 : decode cX4_sheet 46 = .ok (.iload_n 3, 1) := by decide +kernel
theorem dX4_sheet_47 : decode cX4_sheet 47 = .ok (.bipush 40, 2) := by decide +kernel
theorem dX4_sheet_49 : decode cX4_sheet 49 = .ok (.if_icmp .le 9, 3) := by decide +kernel
theorem dX4_sheet_52 : decode cX4_sheet 52 = .ok (.aload_n 0, 1) := by decide +kernel
theorem dX4_sheet_53 : decode cX4_sheet 53 = .ok (.iconst 0, 1) := by decide +kernel
theorem dX4_sheet_54 : decode cX4_sheet 54 = .ok (.invokevirtual 129, 3) := by decide +kernel
theorem dX4_sheet_57 : decode cX4_sheet 57 = .ok (.ireturn, 1) := by decide +kernel
theorem dX4_sheet_58 : decode cX4_sheet 58 = .ok (.aload_n 0, 1) := by decide +kernel
theorem dX4_sheet_59 : decode cX4_sheet 59 = .ok (.getfield 44, 3) := by decide +kernel
theorem dX4_sheet_62 : decode cX4_sheet 62 = .ok (.iload_n 1, 1) := by decide +kernel
theorem dX4_sheet_63 : decode cX4_sheet 63 = .ok (.iload_n 2, 1) := by decide +kernel
theorem dX4_sheet_64 : decode cX4_sheet 64 = .ok (.iastore, 1) := by decide +kernel
theorem dX4_sheet_65 : decode cX4_sheet 65 = .ok (.aload_n 0, 1) := by decide +kernel
theorem dX4_sheet_66 : decode cX4_sheet 66 = .ok (.getfield 47, 3) := by decide +kernel
theorem dX4_sheet_69 : decode cX4_sheet 69 = .ok (.iload_n 1, 1) := by decide +kernel
theorem dX4_sheet_70 : decode cX4_sheet 70 = .ok (.iload_n 2, 1) := by decide +kernel
theorem dX4_sheet_71 : decode cX4_sheet 71 = .ok (.ifCond .ne 7, 3) := by decide +kernel
theorem dX4_sheet_74 : decode cX4_sheet 74 = .ok (.iconst 0, 1) := by decide +kernel
theorem dX4_sheet_75 : decode cX4_sheet 75 = .ok (.goto 4, 3) := by decide +kernel
theorem dX4_sheet_78 : decode cX4_sheet 78 = .ok (.iload_n 3, 1) := by decide +kernel
theorem dX4_sheet_79 : decode cX4_sheet 79 = .ok (.iastore, 1) := by decide +kernel
theorem dX4_sheet_80 : decode cX4_sheet 80 = .ok (.iconst 0, 1) := by decide +kernel
theorem dX4_sheet_81 : decode cX4_sheet 81 = .ok (.istore 4, 2) := by decide +kernel
theorem dX4_sheet_83 : decode cX4_sheet 83 = .ok (.iload 4, 2) := by decide +kernel
theorem dX4_sheet_85 : decode cX4_sheet 85 = .ok (.bipush 40, 2) := by decide +kernel
theorem dX4_sheet_87 : decode cX4_sheet 87 = .ok (.if_icmp .ge 22, 3) := by decide +kernel
theorem dX4_sheet_90 : decode cX4_sheet 90 = .ok (.aload_n 0, 1) := by decide +kernel
theorem dX4_sheet_91 : decode cX4_sheet 91 = .ok (.getfield 50, 3) := by decide +kernel
theorem dX4_sheet_94 : decode cX4_sheet 94 = .ok (.bipush 40, 2) := by decide +kernel
theorem dX4_sheet_96 : decode cX4_sheet 96 = .ok (.iload_n 1, 1) := by decide +kernel
theorem dX4_sheet_97 : decode cX4_sheet 97 = .ok (.imul, 1) := by decide +kernel
theorem dX4_sheet_98 : decode cX4_sheet 98 = .ok (.iload 4, 2) := by decide +kernel
theorem dX4_sheet_100 : decode cX4_sheet 100 = .ok (.iadd, 1) := by decide +kernel
theorem dX4_sheet_101 : decode cX4_sheet 101 = .ok (.iconst 0, 1) := by decide +kernel
theorem dX4_sheet_102 : decode cX4_sheet 102 = .ok (.iastore, 1) := by decide +kernel
theorem dX4_sheet_103 : decode cX4_sheet 103 = .ok (.iinc 4 1, 3) := by decide +kernel
theorem dX4_sheet_106 : decode cX4_sheet 106 = .ok (.goto (-23), 3) := by decide +kernel
theorem dX4_sheet_109 : decode cX4_sheet 109 = .ok (.aload_n 0, 1) := by decide +kernel
theorem dX4_sheet_110 : decode cX4_sheet 110 = .ok (.getfield 47, 3) := by decide +kernel
theorem dX4_sheet_113 : decode cX4_sheet 113 = .ok (.iload_n 1, 1) := by decide +kernel
theorem dX4_sheet_114 : decode cX4_sheet 114 = .ok (.iaload, 1) := by decide +kernel
theorem dX4_sheet_115 : decode cX4_sheet 115 = .ok (.ireturn, 1) := by decide +kernel
theorem dX4_write_0 : decode cX4_write 0 = .ok (.aload_n 0, 1) := by decide +kernel
theorem dX4_write_1 : decode cX4_write 1 = .ok (.iload_n 1, 1) := by decide +kernel
theorem dX4_write_2 : decode cX4_write 2 = .ok (.invokevirtual 192, 3) := by decide +kernel
theorem dX4_write_5 : decode cX4_write 5 = .ok (.istore 4, 2) := by decide +kernel
theorem dX4_write_7 : decode cX4_write 7 = .ok (.iload 4, 2) := by decide +kernel
theorem dX4_write_9 : decode cX4_write 9 = .ok (.ifCond .ge 22, 3) := by decide +kernel
theorem dX4_write_12 : decode cX4_write 12 = .ok (.iload_n 2, 1) := by decide +kernel
theorem dX4_write_13 : decode cX4_write 13 = .ok (.iconst 0, 1) := by decide +kernel
theorem dX4_write_14 : decode cX4_write 14 = .ok (.aload_n 0, 1) := by decide +kernel
theorem dX4_write_15 : decode cX4_write 15 = .ok (.getfield 47, 3) := by decide +kernel
theorem dX4_write_18 : decode cX4_write 18 = .ok (.iload_n 1, 1) := by decide +kernel
theorem dX4_write_19 : decode cX4_write 19 = .ok (.iaload, 1) := by decide +kernel
theorem dX4_write_20 : decode cX4_write 20 = .ok (.iconst 1, 1) := by decide +kernel
theorem dX4_write_21 : decode cX4_write 21 = .ok (.isub, 1) := by decide +kernel
theorem dX4_write_22 : decode cX4_write 22 = .ok (.invokestatic 61, 3) := by decide +kernel
theorem dX4_write_25 : decode cX4_write 25 = .ok (.ifCond .ne 6, 3) := by decide +kernel
theorem dX4_write_28 : decode cX4_write 28 = .ok (.iconst 0, 1) := by decide +kernel
theorem dX4_write_29 : decode cX4_write 29 = .ok (.istore 4, 2) := by decide +kernel
theorem dX4_write_31 : decode cX4_write 31 = .ok (.iload 4, 2) := by decide +kernel
theorem dX4_write_33 : decode cX4_write 33 = .ok (.ifCond .lt 10, 3) := by decide +kernel
theorem dX4_write_36 : decode cX4_write 36 = .ok (.aload_n 0, 1) := by decide +kernel
theorem dX4_write_37 : decode cX4_write 37 = .ok (.iload 4, 2) := by decide +kernel
theorem dX4_write_39 : decode cX4_write 39 = .ok (.invokevirtual 129, 3) := by decide +kernel
theorem dX4_write_42 : decode cX4_write 42 = .ok (.ireturn, 1) := by decide +kernel
theorem dX4_write_43 : decode cX4_write 43 = .ok (.aload_n 0, 1) := by decide +kernel
theorem dX4_write_44 : decode cX4_write 44 = .ok (.getfield 50, 3) := by decide +kernel
theorem dX4_write_47 : decode cX4_write 47 = .ok (.bipush 40, 2) := by decide +kernel
theorem dX4_write_49 : decode cX4_write 49 = .ok (.iload_n 1, 1) := by decide +kernel
theorem dX4_write_50 : decode cX4_write 50 = .ok (.imul, 1) := by decide +kernel
theorem dX4_write_51 : decode cX4_write 51 = .ok (.iload_n 2, 1) := by decide +kernel
theorem dX4_write_52 : decode cX4_write 52 = .ok (.iadd, 1) := by decide +kernel
theorem dX4_write_53 : decode cX4_write 53 = .ok (.aload_n 0, 1) := by decide +kernel
theorem dX4_write_54 : decode cX4_write 54 = .ok (.getfield 44, 3) := by decide +kernel
theorem dX4_write_57 : decode cX4_write 57 = .ok (.iload_n 1, 1) := by decide +kernel
theorem dX4_write_58 : decode cX4_write 58 = .ok (.iaload, 1) := by decide +kernel
theorem dX4_write_59 : decode cX4_write 59 = .ok (.bipush 8, 2) := by decide +kernel
theorem dX4_write_61 : decode cX4_write 61 = .ok (.if_icmp .ne 8, 3) := by decide +kernel
theorem dX4_write_64 : decode cX4_write 64 = .ok (.iload_n 3, 1) := by decide +kernel
theorem dX4_write_65 : decode cX4_write 65 = .ok (.i2b, 1) := by decide +kernel
theorem dX4_write_66 : decode cX4_write 66 = .ok (.goto 20, 3) := by decide +kernel
theorem dX4_write_69 : decode cX4_write 69 = .ok (.aload_n 0, 1) := by decide +kernel
theorem dX4_write_70 : decode cX4_write 70 = .ok (.getfield 44, 3) := by decide +kernel
theorem dX4_write_73 : decode cX4_write 73 = .ok (.iload_n 1, 1) := by decide +kernel
theorem dX4_write_74 : decode cX4_write 74 = .ok (.iaload, 1) := by decide +kernel
theorem dX4_write_75 : decode cX4_write 75 = .ok (.bipush 16, 2) := by decide +kernel
theorem dX4_write_77 : decode cX4_write 77 = .ok (.if_icmp .ne 8, 3) := by decide +kernel
theorem dX4_write_80 : decode cX4_write 80 = .ok (.iload_n 3, 1) := by decide +kernel
theorem dX4_write_81 : decode cX4_write 81 = .ok (.i2s, 1) := by decide +kernel
theorem dX4_write_82 : decode cX4_write 82 = .ok (.goto 4, 3) := by decide +kernel
theorem dX4_write_85 : decode cX4_write 85 = .ok (.iload_n 3, 1) := by decide +kernel
theorem dX4_write_86 : decode cX4_write 86 = .ok (.iastore, 1) := by decide +kernel
theorem dX4_write_87 : decode cX4_write 87 = .ok (.iconst 1, 1) := by decide +kernel
theorem dX4_write_88 : decode cX4_write 88 = .ok (.ireturn, 1) := by decide +kernel
theorem dX4_copy_0 : decode cX4_copy 0 = .ok (.iload_n 1, 1) := by decide +kernel
theorem dX4_copy_1 : decode cX4_copy 1 = .ok (.invokestatic 189, 3) := by decide +kernel
theorem dX4_copy_4 : decode cX4_copy 4 = .ok (.ifCond .eq 10, 3) := by decide +kernel
theorem dX4_copy_7 : decode cX4_copy 7 = .ok (.iload_n 3, 1) := by decide +kernel
theorem dX4_copy_8 : decode cX4_copy 8 = .ok (.invokestatic 189, 3) := by decide +kernel
theorem dX4_copy_11 : decode cX4_copy 11 = .ok (.ifCond .ne 9, 3) := by decide +kernel
theorem dX4_copy_14 : decode cX4_copy 14 = .ok (.aload_n 0, 1) := by decide +kernel
theorem dX4_copy_15 : decode cX4_copy 15 = .ok (.iconst 0, 1) := by decide +kernel
theorem dX4_copy_16 : decode cX4_copy 16 = .ok (.invokevirtual 129, 3) := by decide +kernel
theorem dX4_copy_19 : decode cX4_copy 19 = .ok (.ireturn, 1) := by decide +kernel
theorem dX4_copy_20 : decode cX4_copy 20 = .ok (.aload_n 0, 1) := by decide +kernel
theorem dX4_copy_21 : decode cX4_copy 21 = .ok (.getfield 44, 3) := by decide +kernel
theorem dX4_copy_24 : decode cX4_copy 24 = .ok (.iload_n 1, 1) := by decide +kernel
theorem dX4_copy_25 : decode cX4_copy 25 = .ok (.iaload, 1) := by decide +kernel
theorem dX4_copy_26 : decode cX4_copy 26 = .ok (.ifCond .eq 12, 3) := by decide +kernel
theorem dX4_copy_29 : decode cX4_copy 29 = .ok (.aload_n 0, 1) := by decide +kernel
theorem dX4_copy_30 : decode cX4_copy 30 = .ok (.getfield 44, 3) := by decide +kernel
theorem dX4_copy_33 : decode cX4_copy 33 = .ok (.iload_n 3, 1) := by decide +kernel
theorem dX4_copy_34 : decode cX4_copy 34 = .ok (.iaload, 1) := by decide +kernel
theorem dX4_copy_35 : decode cX4_copy 35 = .ok (.ifCond .ne 9, 3) := by decide +kernel
theorem dX4_copy_38 : decode cX4_copy 38 = .ok (.aload_n 0, 1) := by decide +kernel
theorem dX4_copy_39 : decode cX4_copy 39 = .ok (.iconst 5, 1) := by decide +kernel
theorem dX4_copy_40 : decode cX4_copy 40 = .ok (.invokevirtual 129, 3) := by decide +kernel
theorem dX4_copy_43 : decode cX4_copy 43 = .ok (.ireturn, 1) := by decide +kernel
theorem dX4_copy_44 : decode cX4_copy 44 = .ok (.aload_n 0, 1) := by decide +kernel
theorem dX4_copy_45 : decode cX4_copy 45 = .ok (.getfield 44, 3) := by decide +kernel
theorem dX4_copy_48 : decode cX4_copy 48 = .ok (.iload_n 1, 1) := by decide +kernel
theorem dX4_copy_49 : decode cX4_copy 49 = .ok (.iaload, 1) := by decide +kernel
theorem dX4_copy_50 : decode cX4_copy 50 = .ok (.aload_n 0, 1) := by decide +kernel
theorem dX4_copy_51 : decode cX4_copy 51 = .ok (.getfield 44, 3) := by decide +kernel
theorem dX4_copy_54 : decode cX4_copy 54 = .ok (.iload_n 3, 1) := by decide +kernel
theorem dX4_copy_55 : decode cX4_copy 55 = .ok (.iaload, 1) := by decide +kernel
theorem dX4_copy_56 : decode cX4_copy 56 = .ok (.if_icmp .eq 9, 3) := by decide +kernel
theorem dX4_copy_59 : decode cX4_copy 59 = .ok (.aload_n 0, 1) := by decide +kernel
theorem dX4_copy_60 : decode cX4_copy 60 = .ok (.iconst 2, 1) := by decide +kernel
theorem dX4_copy_61 : decode cX4_copy 61 = .ok (.invokevirtual 129, 3) := by decide +kernel
theorem dX4_copy_64 : decode cX4_copy 64 = .ok (.ireturn, 1) := by decide +kernel
theorem dX4_copy_65 : decode cX4_copy 65 = .ok (.iload 5, 2) := by decide +kernel
theorem dX4_copy_67 : decode cX4_copy 67 = .ok (.ifCond .lt 39, 3) := by decide +kernel
theorem dX4_copy_70 : decode cX4_copy 70 = .ok (.iload_n 2, 1) := by decide +kernel
theorem dX4_copy_71 : decode cX4_copy 71 = .ok (.ifCond .lt 35, 3) := by decide +kernel
theorem dX4_copy_74 : decode cX4_copy 74 = .ok (.iload 4, 2) := by decide +kernel
theorem dX4_copy_76 : decode cX4_copy 76 = .ok (.ifCond .lt 30, 3) := by decide +kernel
theorem dX4_copy_79 : decode cX4_copy 79 = .ok (.iload_n 2, 1) := by decide +kernel
theorem dX4_copy_80 : decode cX4_copy 80 = .ok (.aload_n 0, 1) := by decide +kernel
theorem dX4_copy_81 : decode cX4_copy 81 = .ok (.getfield 47, 3) := by decide +kernel
theorem dX4_copy_84 : decode cX4_copy 84 = .ok (.iload_n 1, 1) := by decide +kernel
theorem dX4_copy_85 : decode cX4_copy 85 = .ok (.iaload, 1) := by decide +kernel
theorem dX4_copy_86 : decode cX4_copy 86 = .ok (.iload 5, 2) := by decide +kernel
theorem dX4_copy_88 : decode cX4_copy 88 = .ok (.isub, 1) := by decide +kernel
theorem dX4_copy_89 : decode cX4_copy 89 = .ok (.if_icmp .gt 17, 3) := by decide +kernel
theorem dX4_copy_92 : decode cX4_copy 92 = .ok (.iload 4, 2) := by decide +kernel
theorem dX4_copy_94 : decode cX4_copy 94 = .ok (.aload_n 0, 1) := by decide +kernel
theorem dX4_copy_95 : decode cX4_copy 95 = .ok (.getfield 47, 3) := by decide +kernel
theorem dX4_copy_98 : decode cX4_copy 98 = .ok (.iload_n 3, 1) := by decide +kernel
theorem dX4_copy_99 : decode cX4_copy 99 = .ok (.iaload, 1) := by decide +kernel
theorem dX4_copy_100 : decode cX4_copy 100 = .ok (.iload 5, 2) := by decide +kernel
theorem dX4_copy_102 : decode cX4_copy 102 = .ok (.isub, 1) := by decide +kernel
theorem dX4_copy_103 : decode cX4_copy 103 = .ok (.if_icmp .le 9, 3) := by decide +kernel
theorem dX4_copy_106 : decode cX4_copy 106 = .ok (.aload_n 0, 1) := by decide +kernel
theorem dX4_copy_107 : decode cX4_copy 107 = .ok (.iconst 0, 1) := by decide +kernel
theorem dX4_copy_108 : decode cX4_copy 108 = .ok (.invokevirtual 129, 3) := by decide +kernel
theorem dX4_copy_111 : decode cX4_copy 111 = .ok (.ireturn, 1) := by decide +kernel
theorem dX4_copy_112 : decode cX4_copy 112 = .ok (.iconst 0, 1) := by decide +kernel
theorem dX4_copy_113 : decode cX4_copy 113 = .ok (.istore 6, 2) := by decide +kernel
theorem dX4_copy_115 : decode cX4_copy 115 = .ok (.iload 6, 2) := by decide +kernel
theorem dX4_copy_117 : decode cX4_copy 117 = .ok (.iload 5, 2) := by decide +kernel
theorem dX4_copy_119 : decode cX4_copy 119 = .ok (.if_icmp .ge 30, 3) := by decide +kernel
theorem dX4_copy_122 : decode cX4_copy 122 = .ok (.aload_n 0, 1) := by decide +kernel
theorem dX4_copy_123 : decode cX4_copy 123 = .ok (.getfield 53, 3) := by decide +kernel
theorem dX4_copy_126 : decode cX4_copy 126 = .ok (.iload 6, 2) := by decide +kernel
theorem dX4_copy_128 : decode cX4_copy 128 = .ok (.aload_n 0, 1) := by decide +kernel
theorem dX4_copy_129 : decode cX4_copy 129 = .ok (.getfield 50, 3) := by decide +kernel
theorem dX4_copy_132 : decode cX4_copy 132 = .ok (.bipush 40, 2) := by decide +kernel
theorem dX4_copy_134 : decode cX4_copy 134 = .ok (.iload_n 1, 1) := by decide +kernel
theorem dX4_copy_135 : decode cX4_copy 135 = .ok (.imul, 1) := by decide +kernel
theorem dX4_copy_136 : decode cX4_copy 136 = .ok (.iload_n 2, 1) := by decide +kernel
theorem dX4_copy_137 : decode cX4_copy 137 = .ok (.iadd, 1) := by decide +kernel
theorem dX4_copy_138 : decode cX4_copy 138 = .ok (.iload 6, 2) := by decide +kernel
theorem dX4_copy_140 : decode cX4_copy 140 = .ok (.iadd, 1) := by decide +kernel
theorem dX4_copy_141 : decode cX4_copy 141 = .ok (.iaload, 1) := by decide +kernel
theorem dX4_copy_142 : decode cX4_copy 142 = .ok (.iastore, 1) := by decide +kernel
theorem dX4_copy_143 : decode cX4_copy 143 = .ok (.iinc 6 1, 3) := by decide +kernel
theorem dX4_copy_146 : decode cX4_copy 146 = .ok (.goto (-31), 3) := by decide +kernel
theorem dX4_copy_149 : decode cX4_copy 149 = .ok (.iconst 0, 1) := by decide +kernel
theorem dX4_copy_150 : decode cX4_copy 150 = .ok (.istore 6, 2) := by decide +kernel
theorem dX4_copy_152 : decode cX4_copy 152 = .ok (.iload 6, 2) := by decide +kernel
theorem dX4_copy_154 : decode cX4_copy 154 = .ok (.iload 5, 2) := by decide +kernel
theorem dX4_copy_156 : decode cX4_copy 156 = .ok (.if_icmp .ge 31, 3) := by decide +kernel
theorem dX4_copy_159 : decode cX4_copy 159 = .ok (.aload_n 0, 1) := by decide +kernel
theorem dX4_copy_160 : decode cX4_copy 160 = .ok (.getfield 50, 3) := by decide +kernel
theorem dX4_copy_163 : decode cX4_copy 163 = .ok (.bipush 40, 2) := by decide +kernel
theorem dX4_copy_165 : decode cX4_copy 165 = .ok (.iload_n 3, 1) := by decide +kernel
theorem dX4_copy_166 : decode cX4_copy 166 = .ok (.imul, 1) := by decide +kernel
theorem dX4_copy_167 : decode cX4_copy 167 = .ok (.iload 4, 2) := by decide +kernel
theorem dX4_copy_169 : decode cX4_copy 169 = .ok (.iadd, 1) := by decide +kernel
theorem dX4_copy_170 : decode cX4_copy 170 = .ok (.iload 6, 2) := by decide +kernel
theorem dX4_copy_172 : decode cX4_copy 172 = .ok (.iadd, 1) := by decide +kernel
theorem dX4_copy_173 : decode cX4_copy 173 = .ok (.aload_n 0, 1) := by decide +kernel
theorem dX4_copy_174 : decode cX4_copy 174 = .ok (.getfield 53, 3) := by decide +kernel
theorem dX4_copy_177 : decode cX4_copy 177 = .ok (.iload 6, 2) := by decide +kernel
theorem dX4_copy_179 : decode cX4_copy 179 = .ok (.iaload, 1) := by decide +kernel
theorem dX4_copy_180 : decode cX4_copy 180 = .ok (.iastore, 1) := by decide +kernel
theorem dX4_copy_181 : decode cX4_copy 181 = .ok (.iinc 6 1, 3) := by decide +kernel
theorem dX4_copy_184 : decode cX4_copy 184 = .ok (.goto (-32), 3) := by decide +kernel
theorem dX4_copy_187 : decode cX4_copy 187 = .ok (.iload 5, 2) := by decide +kernel
theorem dX4_copy_189 : decode cX4_copy 189 = .ok (.ireturn, 1) := by decide +kernel
theorem dX4_load_0 : decode cX4_load 0 = .ok (.aload_n 0, 1) := by decide +kernel
theorem dX4_load_1 : decode cX4_load 1 = .ok (.iload_n 1, 1) := by decide +kernel
theorem dX4_load_2 : decode cX4_load 2 = .ok (.invokevirtual 192, 3) := by decide +kernel
theorem dX4_load_5 : decode cX4_load 5 = .ok (.istore_n 2, 1) := by decide +kernel
theorem dX4_load_6 : decode cX4_load 6 = .ok (.iload_n 2, 1) := by decide +kernel
theorem dX4_load_7 : decode cX4_load 7 = .ok (.ifCond .lt 9, 3) := by decide +kernel
theorem dX4_load_10 : decode cX4_load 10 = .ok (.aload_n 0, 1) := by decide +kernel
theorem dX4_load_11 : decode cX4_load 11 = .ok (.iload_n 2, 1) := by decide +kernel
theorem dX4_load_12 : decode cX4_load 12 = .ok (.invokevirtual 129, 3) := by decide +kernel
theorem dX4_load_15 : decode cX4_load 15 = .ok (.ireturn, 1) := by decide +kernel
theorem dX4_load_16 : decode cX4_load 16 = .ok (.iconst 0, 1) := by decide +kernel
theorem dX4_load_17 : decode cX4_load 17 = .ok (.istore_n 3, 1) := by decide +kernel
theorem dX4_load_18 : decode cX4_load 18 = .ok (.iload_n 3, 1) := by decide +kernel
theorem dX4_load_19 : decode cX4_load 19 = .ok (.aload_n 0, 1) := by decide +kernel
theorem dX4_load_20 : decode cX4_load 20 = .ok (.getfield 47, 3) := by decide +kernel
theorem dX4_load_23 : decode cX4_load 23 = .ok (.iload_n 1, 1) := by decide +kernel
theorem dX4_load_24 : decode cX4_load 24 = .ok (.iaload, 1) := by decide +kernel
theorem dX4_load_25 : decode cX4_load 25 = .ok (.if_icmp .ge 42, 3) := by decide +kernel
theorem dX4_load_28 : decode cX4_load 28 = .ok (.iload_n 3, 1) := by decide +kernel
theorem dX4_load_29 : decode cX4_load 29 = .ok (.bipush 10, 2) := by decide +kernel
theorem dX4_load_31 : decode cX4_load 31 = .ok (.if_icmp .ge 36, 3) := by decide +kernel
theorem dX4_load_34 : decode cX4_load 34 = .ok (.aload_n 0, 1) := by decide +kernel
theorem dX4_load_35 : decode cX4_load 35 = .ok (.iload_n 1, 1) := by decide +kernel
theorem dX4_load_36 : decode cX4_load 36 = .ok (.iload_n 3, 1) := by decide +kernel
theorem dX4_load_37 : decode cX4_load 37 = .ok (.invokevirtual 195, 3) := by decide +kernel
theorem dX4_load_40 : decode cX4_load 40 = .ok (.iconst 0, 1) := by decide +kernel
theorem dX4_load_41 : decode cX4_load 41 = .ok (.bipush 99, 2) := by decide +kernel
theorem dX4_load_43 : decode cX4_load 43 = .ok (.invokestatic 61, 3) := by decide +kernel
theorem dX4_load_46 : decode cX4_load 46 = .ok (.ifCond .eq 21, 3) := by decide +kernel
theorem dX4_load_49 : decode cX4_load 49 = .ok (.aload_n 0, 1) := by decide +kernel
theorem dX4_load_50 : decode cX4_load 50 = .ok (.iload_n 3, 1) := by decide +kernel
theorem dX4_load_51 : decode cX4_load 51 = .ok (.iconst 0, 1) := by decide +kernel
theorem dX4_load_52 : decode cX4_load 52 = .ok (.aload_n 0, 1) := by decide +kernel
theorem dX4_load_53 : decode cX4_load 53 = .ok (.iload_n 1, 1) := by decide +kernel
theorem dX4_load_54 : decode cX4_load 54 = .ok (.iload_n 3, 1) := by decide +kernel
theorem dX4_load_55 : decode cX4_load 55 = .ok (.invokevirtual 195, 3) := by decide +kernel
theorem dX4_load_58 : decode cX4_load 58 = .ok (.invokevirtual 56, 3) := by decide +kernel
theorem dX4_load_61 : decode cX4_load 61 = .ok (.iinc 3 1, 3) := by decide +kernel
theorem dX4_load_64 : decode cX4_load 64 = .ok (.goto (-46), 3) := by decide +kernel
theorem dX4_load_67 : decode cX4_load 67 = .ok (.iload_n 3, 1) := by decide +kernel
theorem dX4_load_68 : decode cX4_load 68 = .ok (.ireturn, 1) := by decide +kernel
theorem dX4_judge_0 : decode cX4_judge 0 = .ok (.aload_n 0, 1) := by decide +kernel
theorem dX4_judge_1 : decode cX4_judge 1 = .ok (.iload_n 1, 1) := by decide +kernel
theorem dX4_judge_2 : decode cX4_judge 2 = .ok (.invokevirtual 192, 3) := by decide +kernel
theorem dX4_judge_5 : decode cX4_judge 5 = .ok (.istore_n 2, 1) := by decide +kernel
theorem dX4_judge_6 : decode cX4_judge 6 = .ok (.iload_n 2, 1) := by decide +kernel
theorem dX4_judge_7 : decode cX4_judge 7 = .ok (.ifCond .lt 9, 3) := by decide +kernel
theorem dX4_judge_10 : decode cX4_judge 10 = .ok (.aload_n 0, 1) := by decide +kernel
theorem dX4_judge_11 : decode cX4_judge 11 = .ok (.iload_n 2, 1) := by decide +kernel
theorem dX4_judge_12 : decode cX4_judge 12 = .ok (.invokevirtual 129, 3) := by decide +kernel
theorem dX4_judge_15 : decode cX4_judge 15 = .ok (.ireturn, 1) := by decide +kernel
theorem dX4_judge_16 : decode cX4_judge 16 = .ok (.iconst 0, 1) := by decide +kernel
theorem dX4_judge_17 : decode cX4_judge 17 = .ok (.istore_n 3, 1) := by decide +kernel
theorem dX4_judge_18 : decode cX4_judge 18 = .ok (.iload_n 3, 1) := by decide +kernel
theorem dX4_judge_19 : decode cX4_judge 19 = .ok (.aload_n 0, 1) := by decide +kernel
theorem dX4_judge_20 : decode cX4_judge 20 = .ok (.getfield 47, 3) := by decide +kernel
theorem dX4_judge_23 : decode cX4_judge 23 = .ok (.iload_n 1, 1) := by decide +kernel
theorem dX4_judge_24 : decode cX4_judge 24 = .ok (.iaload, 1) := by decide +kernel
theorem dX4_judge_25 : decode cX4_judge 25 = .ok (.if_icmp .ge 36, 3) := by decide +kernel
theorem dX4_judge_28 : decode cX4_judge 28 = .ok (.aload_n 0, 1) := by decide +kernel
theorem dX4_judge_29 : decode cX4_judge 29 = .ok (.iload_n 3, 1) := by decide +kernel
theorem dX4_judge_30 : decode cX4_judge 30 = .ok (.invokevirtual 138, 3) := by decide +kernel
theorem dX4_judge_33 : decode cX4_judge 33 = .ok (.ifCond .eq 18, 3) := by decide +kernel
theorem dX4_judge_36 : decode cX4_judge 36 = .ok (.aload_n 0, 1) := by decide +kernel
theorem dX4_judge_37 : decode cX4_judge 37 = .ok (.iload_n 3, 1) := by decide +kernel
theorem dX4_judge_38 : decode cX4_judge 38 = .ok (.iconst 1, 1) := by decide +kernel
theorem dX4_judge_39 : decode cX4_judge 39 = .ok (.invokevirtual 65, 3) := by decide +kernel
theorem dX4_judge_42 : decode cX4_judge 42 = .ok (.aload_n 0, 1) := by decide +kernel
theorem dX4_judge_43 : decode cX4_judge 43 = .ok (.iload_n 1, 1) := by decide +kernel
theorem dX4_judge_44 : decode cX4_judge 44 = .ok (.iload_n 3, 1) := by decide +kernel
theorem dX4_judge_45 : decode cX4_judge 45 = .ok (.invokevirtual 195, 3) := by decide +kernel
theorem dX4_judge_48 : decode cX4_judge 48 = .ok (.if_icmp .eq 7, 3) := by decide +kernel
theorem dX4_judge_51 : decode cX4_judge 51 = .ok (.iconst 1, 1) := by decide +kernel
theorem dX4_judge_52 : decode cX4_judge 52 = .ok (.iload_n 3, 1) := by decide +kernel
theorem dX4_judge_53 : decode cX4_judge 53 = .ok (.iadd, 1) := by decide +kernel
theorem dX4_judge_54 : decode cX4_judge 54 = .ok (.ireturn, 1) := by decide +kernel
theorem dX4_judge_55 : decode cX4_judge 55 = .ok (.iinc 3 1, 3) := by decide +kernel
theorem dX4_judge_58 : decode cX4_judge 58 = .ok (.goto (-40), 3) := by decide +kernel
theorem dX4_judge_61 : decode cX4_judge 61 = .ok (.iconst 0, 1) := by decide +kernel
theorem dX4_judge_62 : decode cX4_judge 62 = .ok (.ireturn, 1) := by decide +kernel
theorem dX4_image_0 : decode cX4_image 0 = .ok (.iconst 0, 1) := by decide +kernel
theorem dX4_image_1 : decode cX4_image 1 = .ok (.istore_n 1, 1) := by decide +kernel
theorem dX4_image_2 : decode cX4_image 2 = .ok (.iload_n 1, 1) := by decide +kernel
theorem dX4_image_3 : decode cX4_image 3 = .ok (.bipush 90, 2) := by decide +kernel
theorem dX4_image_5 : decode cX4_image 5 = .ok (.if_icmp .ge 21, 3) := by decide +kernel
theorem dX4_image_8 : decode cX4_image 8 = .ok (.aload_n 0, 1) := by decide +kernel
theorem dX4_image_9 : decode cX4_image 9 = .ok (.getfield 13, 3) := by decide +kernel
theorem dX4_image_12 : decode cX4_image 12 = .ok (.iload_n 1, 1) := by decide +kernel
theorem dX4_image_13 : decode cX4_image 13 = .ok (.aload_n 0, 1) := by decide +kernel
theorem dX4_image_14 : decode cX4_image 14 = .ok (.getfield 9, 3) := by decide +kernel
theorem dX4_image_17 : decode cX4_image 17 = .ok (.iload_n 1, 1) := by decide +kernel
theorem dX4_image_18 : decode cX4_image 18 = .ok (.iaload, 1) := by decide +kernel
theorem dX4_image_19 : decode cX4_image 19 = .ok (.iastore, 1) := by decide +kernel
theorem dX4_image_20 : decode cX4_image 20 = .ok (.iinc 1 1, 3) := by decide +kernel
theorem dX4_image_23 : decode cX4_image 23 = .ok (.goto (-21), 3) := by decide +kernel
theorem dX4_image_26 : decode cX4_image 26 = .ok (.aload_n 0, 1) := by decide +kernel
theorem dX4_image_27 : decode cX4_image 27 = .ok (.iconst 1, 1) := by decide +kernel
theorem dX4_image_28 : decode cX4_image 28 = .ok (.putfield 273, 3) := by decide +kernel
theorem dX4_image_31 : decode cX4_image 31 = .ok (.iconst 1, 1) := by decide +kernel
theorem dX4_image_32 : decode cX4_image 32 = .ok (.ireturn, 1) := by decide +kernel
theorem dX4_undo_0 : decode cX4_undo 0 = .ok (.aload_n 0, 1) := by decide +kernel
theorem dX4_undo_1 : decode cX4_undo 1 = .ok (.getfield 273, 3) := by decide +kernel
theorem dX4_undo_4 : decode cX4_undo 4 = .ok (.ifCond .ne 9, 3) := by decide +kernel
theorem dX4_undo_7 : decode cX4_undo 7 = .ok (.aload_n 0, 1) := by decide +kernel
theorem dX4_undo_8 : decode cX4_undo 8 = .ok (.iconst 3, 1) := by decide +kernel
theorem dX4_undo_9 : decode cX4_undo 9 = .ok (.invokevirtual 129, 3) := by decide +kernel
theorem dX4_undo_12 : decode cX4_undo 12 = .ok (.ireturn, 1) := by decide +kernel
theorem dX4_undo_13 : decode cX4_undo 13 = .ok (.iconst 0, 1) := by decide +kernel
theorem dX4_undo_14 : decode cX4_undo 14 = .ok (.istore_n 1, 1) := by decide +kernel
theorem dX4_undo_15 : decode cX4_undo 15 = .ok (.iload_n 1, 1) := by decide +kernel
theorem dX4_undo_16 : decode cX4_undo 16 = .ok (.bipush 90, 2) := by decide +kernel
theorem dX4_undo_18 : decode cX4_undo 18 = .ok (.if_icmp .ge 21, 3) := by decide +kernel
theorem dX4_undo_21 : decode cX4_undo 21 = .ok (.aload_n 0, 1) := by decide +kernel
theorem dX4_undo_22 : decode cX4_undo 22 = .ok (.getfield 9, 3) := by decide +kernel
theorem dX4_undo_25 : decode cX4_undo 25 = .ok (.iload_n 1, 1) := by decide +kernel
theorem dX4_undo_26 : decode cX4_undo 26 = .ok (.aload_n 0, 1) := by decide +kernel
theorem dX4_undo_27 : decode cX4_undo 27 = .ok (.getfield 13, 3) := by decide +kernel
theorem dX4_undo_30 : decode cX4_undo 30 = .ok (.iload_n 1, 1) := by decide +kernel
theorem dX4_undo_31 : decode cX4_undo 31 = .ok (.iaload, 1) := by decide +kernel
theorem dX4_undo_32 : decode cX4_undo 32 = .ok (.iastore, 1) := by decide +kernel
theorem dX4_undo_33 : decode cX4_undo 33 = .ok (.iinc 1 1, 3) := by decide +kernel
theorem dX4_undo_36 : decode cX4_undo 36 = .ok (.goto (-21), 3) := by decide +kernel
theorem dX4_undo_39 : decode cX4_undo 39 = .ok (.aload_n 0, 1) := by decide +kernel
theorem dX4_undo_40 : decode cX4_undo 40 = .ok (.getfield 9, 3) := by decide +kernel
theorem dX4_undo_43 : decode cX4_undo 43 = .ok (.iconst 0, 1) := by decide +kernel
theorem dX4_undo_44 : decode cX4_undo 44 = .ok (.iaload, 1) := by decide +kernel
theorem dX4_undo_45 : decode cX4_undo 45 = .ok (.ireturn, 1) := by decide +kernel
theorem dX4_tear_0 : decode cX4_tear 0 = .ok (.aload_n 0, 1) := by decide +kernel
theorem dX4_tear_1 : decode cX4_tear 1 = .ok (.getfield 273, 3) := by decide +kernel
theorem dX4_tear_4 : decode cX4_tear 4 = .ok (.ifCond .eq 7, 3) := by decide +kernel
theorem dX4_tear_7 : decode cX4_tear 7 = .ok (.iconst 1, 1) := by decide +kernel
theorem dX4_tear_8 : decode cX4_tear 8 = .ok (.goto 4, 3) := by decide +kernel
theorem dX4_tear_11 : decode cX4_tear 11 = .ok (.iconst 0, 1) := by decide +kernel
theorem dX4_tear_12 : decode cX4_tear 12 = .ok (.istore_n 1, 1) := by decide +kernel
theorem dX4_tear_13 : decode cX4_tear 13 = .ok (.aload_n 0, 1) := by decide +kernel
theorem dX4_tear_14 : decode cX4_tear 14 = .ok (.iconst 0, 1) := by decide +kernel
theorem dX4_tear_15 : decode cX4_tear 15 = .ok (.putfield 273, 3) := by decide +kernel
theorem dX4_tear_18 : decode cX4_tear 18 = .ok (.iload_n 1, 1) := by decide +kernel
theorem dX4_tear_19 : decode cX4_tear 19 = .ok (.ireturn, 1) := by decide +kernel
theorem dX4_count_0 : decode cX4_count 0 = .ok (.iconst 0, 1) := by decide +kernel
theorem dX4_count_1 : decode cX4_count 1 = .ok (.istore_n 2, 1) := by decide +kernel
theorem dX4_count_2 : decode cX4_count 2 = .ok (.iload_n 1, 1) := by decide +kernel
theorem dX4_count_3 : decode cX4_count 3 = .ok (.tableswitch 127 0 7 #[45, 52, 59, 67, 73, 79, 84, 91], 45) := by decide +kernel
theorem dX4_count_48 : decode cX4_count 48 = .ok (.aload_n 0, 1) := by decide +kernel
theorem dX4_count_49 : decode cX4_count 49 = .ok (.getfield 9, 3) := by decide +kernel
theorem dX4_count_52 : decode cX4_count 52 = .ok (.iconst 0, 1) := by decide +kernel
theorem dX4_count_53 : decode cX4_count 53 = .ok (.iaload, 1) := by decide +kernel
theorem dX4_count_54 : decode cX4_count 54 = .ok (.ireturn, 1) := by decide +kernel
theorem dX4_count_55 : decode cX4_count 55 = .ok (.aload_n 0, 1) := by decide +kernel
theorem dX4_count_56 : decode cX4_count 56 = .ok (.getfield 9, 3) := by decide +kernel
theorem dX4_count_59 : decode cX4_count 59 = .ok (.iconst 1, 1) := by decide +kernel
theorem dX4_count_60 : decode cX4_count 60 = .ok (.iaload, 1) := by decide +kernel
theorem dX4_count_61 : decode cX4_count 61 = .ok (.ireturn, 1) := by decide +kernel
theorem dX4_count_62 : decode cX4_count 62 = .ok (.aload_n 0, 1) := by decide +kernel
theorem dX4_count_63 : decode cX4_count 63 = .ok (.invokevirtual 147, 3) := by decide +kernel
theorem dX4_count_66 : decode cX4_count 66 = .ok (.invokestatic 76, 3) := by decide +kernel
theorem dX4_count_69 : decode cX4_count 69 = .ok (.ireturn, 1) := by decide +kernel
theorem dX4_count_70 : decode cX4_count 70 = .ok (.aload_n 0, 1) := by decide +kernel
theorem dX4_count_71 : decode cX4_count 71 = .ok (.iconst 4, 1) := by decide +kernel
theorem dX4_count_72 : decode cX4_count 72 = .ok (.invokevirtual 154, 3) := by decide +kernel
theorem dX4_count_75 : decode cX4_count 75 = .ok (.ireturn, 1) := by decide +kernel
theorem dX4_count_76 : decode cX4_count 76 = .ok (.aload_n 0, 1) := by decide +kernel
theorem dX4_count_77 : decode cX4_count 77 = .ok (.iconst 3, 1) := by decide +kernel
theorem dX4_count_78 : decode cX4_count 78 = .ok (.invokevirtual 154, 3) := by decide +kernel
theorem dX4_count_81 : decode cX4_count 81 = .ok (.ireturn, 1) := by decide +kernel
theorem dX4_count_82 : decode cX4_count 82 = .ok (.aload_n 0, 1) := by decide +kernel
theorem dX4_count_83 : decode cX4_count 83 = .ok (.getfield 211, 3) := by decide +kernel
theorem dX4_count_86 : decode cX4_count 86 = .ok (.ireturn, 1) := by decide +kernel
theorem dX4_count_87 : decode cX4_count 87 = .ok (.aload_n 0, 1) := by decide +kernel
theorem dX4_count_88 : decode cX4_count 88 = .ok (.getfield 9, 3) := by decide +kernel
theorem dX4_count_91 : decode cX4_count 91 = .ok (.iconst 2, 1) := by decide +kernel
theorem dX4_count_92 : decode cX4_count 92 = .ok (.iaload, 1) := by decide +kernel
theorem dX4_count_93 : decode cX4_count 93 = .ok (.ireturn, 1) := by decide +kernel
theorem dX4_count_94 : decode cX4_count 94 = .ok (.iconst 0, 1) := by decide +kernel
theorem dX4_count_95 : decode cX4_count 95 = .ok (.istore_n 3, 1) := by decide +kernel
theorem dX4_count_96 : decode cX4_count 96 = .ok (.iload_n 3, 1) := by decide +kernel
theorem dX4_count_97 : decode cX4_count 97 = .ok (.bipush 10, 2) := by decide +kernel
theorem dX4_count_99 : decode cX4_count 99 = .ok (.if_icmp .ge 29, 3) := by decide +kernel
theorem dX4_count_102 : decode cX4_count 102 = .ok (.iload_n 2, 1) := by decide +kernel
theorem dX4_count_103 : decode cX4_count 103 = .ok (.aload_n 0, 1) := by decide +kernel
theorem dX4_count_104 : decode cX4_count 104 = .ok (.getfield 9, 3) := by decide +kernel
theorem dX4_count_107 : decode cX4_count 107 = .ok (.bipush 80, 2) := by decide +kernel
theorem dX4_count_109 : decode cX4_count 109 = .ok (.iload_n 3, 1) := by decide +kernel
theorem dX4_count_110 : decode cX4_count 110 = .ok (.iadd, 1) := by decide +kernel
theorem dX4_count_111 : decode cX4_count 111 = .ok (.iaload, 1) := by decide +kernel
theorem dX4_count_112 : decode cX4_count 112 = .ok (.ifCond .lt 7, 3) := by decide +kernel
theorem dX4_count_115 : decode cX4_count 115 = .ok (.iconst 1, 1) := by decide +kernel
theorem dX4_count_116 : decode cX4_count 116 = .ok (.goto 4, 3) := by decide +kernel
theorem dX4_count_119 : decode cX4_count 119 = .ok (.iconst 0, 1) := by decide +kernel
theorem dX4_count_120 : decode cX4_count 120 = .ok (.iadd, 1) := by decide +kernel
theorem dX4_count_121 : decode cX4_count 121 = .ok (.istore_n 2, 1) := by decide +kernel
theorem dX4_count_122 : decode cX4_count 122 = .ok (.iinc 3 1, 3) := by decide +kernel
theorem dX4_count_125 : decode cX4_count 125 = .ok (.goto (-29), 3) := by decide +kernel
theorem dX4_count_128 : decode cX4_count 128 = .ok (.iload_n 2, 1) := by decide +kernel
theorem dX4_count_129 : decode cX4_count 129 = .ok (.ireturn, 1) := by decide +kernel
theorem dX4_count_130 : decode cX4_count 130 = .ok (.aload_n 0, 1) := by decide +kernel
theorem dX4_count_131 : decode cX4_count 131 = .ok (.iconst 0, 1) := by decide +kernel
theorem dX4_count_132 : decode cX4_count 132 = .ok (.invokevirtual 129, 3) := by decide +kernel
theorem dX4_count_135 : decode cX4_count 135 = .ok (.ireturn, 1) := by decide +kernel
theorem dX4_status_0 : decode cX4_status 0 = .ok (.iload_n 1, 1) := by decide +kernel
theorem dX4_status_1 : decode cX4_status 1 = .ok (.iconst (-1), 1) := by decide +kernel
theorem dX4_status_2 : decode cX4_status 2 = .ok (.bipush 6, 2) := by decide +kernel
theorem dX4_status_4 : decode cX4_status 4 = .ok (.invokestatic 61, 3) := by decide +kernel
theorem dX4_status_7 : decode cX4_status 7 = .ok (.ifCond .ne 9, 3) := by decide +kernel
theorem dX4_status_10 : decode cX4_status 10 = .ok (.aload_n 0, 1) := by decide +kernel
theorem dX4_status_11 : decode cX4_status 11 = .ok (.iconst 0, 1) := by decide +kernel
theorem dX4_status_12 : decode cX4_status 12 = .ok (.invokevirtual 129, 3) := by decide +kernel
theorem dX4_status_15 : decode cX4_status 15 = .ok (.ireturn, 1) := by decide +kernel
theorem dX4_status_16 : decode cX4_status 16 = .ok (.iconst 0, 1) := by decide +kernel
theorem dX4_status_17 : decode cX4_status 17 = .ok (.istore_n 2, 1) := by decide +kernel
theorem dX4_status_18 : decode cX4_status 18 = .ok (.iconst 0, 1) := by decide +kernel
theorem dX4_status_19 : decode cX4_status 19 = .ok (.istore_n 3, 1) := by decide +kernel
theorem dX4_status_20 : decode cX4_status 20 = .ok (.iload_n 3, 1) := by decide +kernel
theorem dX4_status_21 : decode cX4_status 21 = .ok (.bipush 7, 2) := by decide +kernel
theorem dX4_status_23 : decode cX4_status 23 = .ok (.if_icmp .ge 32, 3) := by decide +kernel
theorem dX4_status_26 : decode cX4_status 26 = .ok (.iload_n 2, 1) := by decide +kernel
theorem dX4_status_27 : decode cX4_status 27 = .ok (.iload_n 1, 1) := by decide +kernel
theorem dX4_status_28 : decode cX4_status 28 = .ok (.iconst (-1), 1) := by decide +kernel
theorem dX4_status_29 : decode cX4_status 29 = .ok (.if_icmp .eq 8, 3) := by decide +kernel
theorem dX4_status_32 : decode cX4_status 32 = .ok (.iload_n 1, 1) := by decide +kernel
theorem dX4_status_33 : decode cX4_status 33 = .ok (.iload_n 3, 1) := by decide +kernel
theorem dX4_status_34 : decode cX4_status 34 = .ok (.if_icmp .ne 12, 3) := by decide +kernel
theorem dX4_status_37 : decode cX4_status 37 = .ok (.aload_n 0, 1) := by decide +kernel
theorem dX4_status_38 : decode cX4_status 38 = .ok (.getfield 19, 3) := by decide +kernel
theorem dX4_status_41 : decode cX4_status 41 = .ok (.iload_n 3, 1) := by decide +kernel
theorem dX4_status_42 : decode cX4_status 42 = .ok (.iaload, 1) := by decide +kernel
theorem dX4_status_43 : decode cX4_status 43 = .ok (.goto 4, 3) := by decide +kernel
theorem dX4_status_46 : decode cX4_status 46 = .ok (.iconst 0, 1) := by decide +kernel
theorem dX4_status_47 : decode cX4_status 47 = .ok (.iadd, 1) := by decide +kernel
theorem dX4_status_48 : decode cX4_status 48 = .ok (.istore_n 2, 1) := by decide +kernel
theorem dX4_status_49 : decode cX4_status 49 = .ok (.iinc 3 1, 3) := by decide +kernel
theorem dX4_status_52 : decode cX4_status 52 = .ok (.goto (-32), 3) := by decide +kernel
theorem dX4_status_55 : decode cX4_status 55 = .ok (.iload_n 2, 1) := by decide +kernel
theorem dX4_status_56 : decode cX4_status 56 = .ok (.ireturn, 1) := by decide +kernel
theorem dJ6_bitCount_0f7a4_0 : decode cJ6_bitCount_0f7a4 0 = .ok (.iload_n 0, 1) := by decide +kernel
theorem dJ6_bitCount_0f7a4_1 : decode cJ6_bitCount_0f7a4 1 = .ok (.iload_n 0, 1) := by decide +kernel
theorem dJ6_bitCount_0f7a4_2 : decode cJ6_bitCount_0f7a4 2 = .ok (.iconst 1, 1) := by decide +kernel
theorem dJ6_bitCount_0f7a4_3 : decode cJ6_bitCount_0f7a4 3 = .ok (.iushr, 1) := by decide +kernel
theorem dJ6_bitCount_0f7a4_4 : decode cJ6_bitCount_0f7a4 4 = .ok (.ldc_w 265, 3) := by decide +kernel
theorem dJ6_bitCount_0f7a4_7 : decode cJ6_bitCount_0f7a4 7 = .ok (.iand, 1) := by decide +kernel
theorem dJ6_bitCount_0f7a4_8 : decode cJ6_bitCount_0f7a4 8 = .ok (.isub, 1) := by decide +kernel
theorem dJ6_bitCount_0f7a4_9 : decode cJ6_bitCount_0f7a4 9 = .ok (.istore_n 0, 1) := by decide +kernel
theorem dJ6_bitCount_0f7a4_10 : decode cJ6_bitCount_0f7a4 10 = .ok (.iload_n 0, 1) := by decide +kernel
theorem dJ6_bitCount_0f7a4_11 : decode cJ6_bitCount_0f7a4 11 = .ok (.ldc_w 266, 3) := by decide +kernel
theorem dJ6_bitCount_0f7a4_14 : decode cJ6_bitCount_0f7a4 14 = .ok (.iand, 1) := by decide +kernel
theorem dJ6_bitCount_0f7a4_15 : decode cJ6_bitCount_0f7a4 15 = .ok (.iload_n 0, 1) := by decide +kernel
theorem dJ6_bitCount_0f7a4_16 : decode cJ6_bitCount_0f7a4 16 = .ok (.iconst 2, 1) := by decide +kernel
theorem dJ6_bitCount_0f7a4_17 : decode cJ6_bitCount_0f7a4 17 = .ok (.iushr, 1) := by decide +kernel
theorem dJ6_bitCount_0f7a4_18 : decode cJ6_bitCount_0f7a4 18 = .ok (.ldc_w 266, 3) := by decide +kernel
theorem dJ6_bitCount_0f7a4_21 : decode cJ6_bitCount_0f7a4 21 = .ok (.iand, 1) := by decide +kernel
theorem dJ6_bitCount_0f7a4_22 : decode cJ6_bitCount_0f7a4 22 = .ok (.iadd, 1) := by decide +kernel
theorem dJ6_bitCount_0f7a4_23 : decode cJ6_bitCount_0f7a4 23 = .ok (.istore_n 0, 1) := by decide +kernel
theorem dJ6_bitCount_0f7a4_24 : decode cJ6_bitCount_0f7a4 24 = .ok (.iload_n 0, 1) := by decide +kernel
theorem dJ6_bitCount_0f7a4_25 : decode cJ6_bitCount_0f7a4 25 = .ok (.iload_n 0, 1) := by decide +kernel
theorem dJ6_bitCount_0f7a4_26 : decode cJ6_bitCount_0f7a4 26 = .ok (.iconst 4, 1) := by decide +kernel
theorem dJ6_bitCount_0f7a4_27 : decode cJ6_bitCount_0f7a4 27 = .ok (.iushr, 1) := by decide +kernel
theorem dJ6_bitCount_0f7a4_28 : decode cJ6_bitCount_0f7a4 28 = .ok (.iadd, 1) := by decide +kernel
theorem dJ6_bitCount_0f7a4_29 : decode cJ6_bitCount_0f7a4 29 = .ok (.ldc_w 267, 3) := by decide +kernel
theorem dJ6_bitCount_0f7a4_32 : decode cJ6_bitCount_0f7a4 32 = .ok (.iand, 1) := by decide +kernel
theorem dJ6_bitCount_0f7a4_33 : decode cJ6_bitCount_0f7a4 33 = .ok (.istore_n 0, 1) := by decide +kernel
theorem dJ6_bitCount_0f7a4_34 : decode cJ6_bitCount_0f7a4 34 = .ok (.iload_n 0, 1) := by decide +kernel
theorem dJ6_bitCount_0f7a4_35 : decode cJ6_bitCount_0f7a4 35 = .ok (.iload_n 0, 1) := by decide +kernel
theorem dJ6_bitCount_0f7a4_36 : decode cJ6_bitCount_0f7a4 36 = .ok (.bipush 8, 2) := by decide +kernel
theorem dJ6_bitCount_0f7a4_38 : decode cJ6_bitCount_0f7a4 38 = .ok (.iushr, 1) := by decide +kernel
theorem dJ6_bitCount_0f7a4_39 : decode cJ6_bitCount_0f7a4 39 = .ok (.iadd, 1) := by decide +kernel
theorem dJ6_bitCount_0f7a4_40 : decode cJ6_bitCount_0f7a4 40 = .ok (.istore_n 0, 1) := by decide +kernel
theorem dJ6_bitCount_0f7a4_41 : decode cJ6_bitCount_0f7a4 41 = .ok (.iload_n 0, 1) := by decide +kernel
theorem dJ6_bitCount_0f7a4_42 : decode cJ6_bitCount_0f7a4 42 = .ok (.iload_n 0, 1) := by decide +kernel
theorem dJ6_bitCount_0f7a4_43 : decode cJ6_bitCount_0f7a4 43 = .ok (.bipush 16, 2) := by decide +kernel
theorem dJ6_bitCount_0f7a4_45 : decode cJ6_bitCount_0f7a4 45 = .ok (.iushr, 1) := by decide +kernel
theorem dJ6_bitCount_0f7a4_46 : decode cJ6_bitCount_0f7a4 46 = .ok (.iadd, 1) := by decide +kernel
theorem dJ6_bitCount_0f7a4_47 : decode cJ6_bitCount_0f7a4 47 = .ok (.istore_n 0, 1) := by decide +kernel
theorem dJ6_bitCount_0f7a4_48 : decode cJ6_bitCount_0f7a4 48 = .ok (.iload_n 0, 1) := by decide +kernel
theorem dJ6_bitCount_0f7a4_49 : decode cJ6_bitCount_0f7a4 49 = .ok (.bipush 63, 2) := by decide +kernel
theorem dJ6_bitCount_0f7a4_51 : decode cJ6_bitCount_0f7a4 51 = .ok (.iand, 1) := by decide +kernel
theorem dJ6_bitCount_0f7a4_52 : decode cJ6_bitCount_0f7a4 52 = .ok (.ireturn, 1) := by decide +kernel
theorem dJ9_max_7cf53_0 : decode cJ9_max_7cf53 0 = .ok (.iload_n 0, 1) := by decide +kernel
theorem dJ9_max_7cf53_1 : decode cJ9_max_7cf53 1 = .ok (.iload_n 1, 1) := by decide +kernel
theorem dJ9_max_7cf53_2 : decode cJ9_max_7cf53 2 = .ok (.if_icmp .lt 7, 3) := by decide +kernel
theorem dJ9_max_7cf53_5 : decode cJ9_max_7cf53 5 = .ok (.iload_n 0, 1) := by decide +kernel
theorem dJ9_max_7cf53_6 : decode cJ9_max_7cf53 6 = .ok (.goto 4, 3) := by decide +kernel
theorem dJ9_max_7cf53_9 : decode cJ9_max_7cf53 9 = .ok (.iload_n 1, 1) := by decide +kernel
theorem dJ9_max_7cf53_10 : decode cJ9_max_7cf53 10 = .ok (.ireturn, 1) := by decide +kernel
theorem dJ9_min_7cf53_0 : decode cJ9_min_7cf53 0 = .ok (.iload_n 0, 1) := by decide +kernel
theorem dJ9_min_7cf53_1 : decode cJ9_min_7cf53 1 = .ok (.iload_n 1, 1) := by decide +kernel
theorem dJ9_min_7cf53_2 : decode cJ9_min_7cf53 2 = .ok (.if_icmp .gt 7, 3) := by decide +kernel
theorem dJ9_min_7cf53_5 : decode cJ9_min_7cf53 5 = .ok (.iload_n 0, 1) := by decide +kernel
theorem dJ9_min_7cf53_6 : decode cJ9_min_7cf53 6 = .ok (.goto 4, 3) := by decide +kernel
theorem dJ9_min_7cf53_9 : decode cJ9_min_7cf53 9 = .ok (.iload_n 1, 1) := by decide +kernel
theorem dJ9_min_7cf53_10 : decode cJ9_min_7cf53 10 = .ok (.ireturn, 1) := by decide +kernel
theorem dJ0_length_8abf5_0 : decode cJ0_length_8abf5 0 = .ok (.aload_n 0, 1) := by decide +kernel
theorem dJ0_length_8abf5_1 : decode cJ0_length_8abf5 1 = .ok (.getfield 9, 3) := by decide +kernel
theorem dJ0_length_8abf5_4 : decode cJ0_length_8abf5 4 = .ok (.arraylength, 1) := by decide +kernel
theorem dJ0_length_8abf5_5 : decode cJ0_length_8abf5 5 = .ok (.aload_n 0, 1) := by decide +kernel
theorem dJ0_length_8abf5_6 : decode cJ0_length_8abf5 6 = .ok (.invokevirtual 335, 3) := by decide +kernel
theorem dJ0_length_8abf5_9 : decode cJ0_length_8abf5 9 = .ok (.ishr, 1) := by decide +kernel
theorem dJ0_length_8abf5_10 : decode cJ0_length_8abf5 10 = .ok (.ireturn, 1) := by decide +kernel
theorem dJ0_charAt_5068e_0 : decode cJ0_charAt_5068e 0 = .ok (.aload_n 0, 1) := by decide +kernel
theorem dJ0_charAt_5068e_1 : decode cJ0_charAt_5068e 1 = .ok (.invokevirtual 492, 3) := by decide +kernel
theorem dJ0_charAt_5068e_4 : decode cJ0_charAt_5068e 4 = .ok (.ifCond .eq 12, 3) := by decide +kernel
theorem dJ0_charAt_5068e_7 : decode cJ0_charAt_5068e 7 = .ok (.aload_n 0, 1) := by decide +kernel
theorem dJ0_charAt_5068e_8 : decode cJ0_charAt_5068e 8 = .ok (.getfield 9, 3) := by decide +kernel
theorem dJ0_charAt_5068e_11 : decode cJ0_charAt_5068e 11 = .ok (.iload_n 1, 1) := by decide +kernel
theorem dJ0_charAt_5068e_12 : decode cJ0_charAt_5068e 12 = .ok (.invokestatic 495, 3) := by decide +kernel
theorem dJ0_charAt_5068e_15 : decode cJ0_charAt_5068e 15 = .ok (.ireturn, 1) := by decide +kernel
theorem dJ0_charAt_5068e_16 : decode cJ0_charAt_5068e 16 = .ok (.aload_n 0, 1) := by decide +kernel
theorem dJ0_charAt_5068e_17 : decode cJ0_charAt_5068e 17 = .ok (.getfield 9, 3) := by decide +kernel
theorem dJ0_charAt_5068e_20 : decode cJ0_charAt_5068e 20 = .ok (.iload_n 1, 1) := by decide +kernel
theorem dJ0_charAt_5068e_21 : decode cJ0_charAt_5068e 21 = .ok (.invokestatic 498, 3) := by decide +kernel
theorem dJ0_charAt_5068e_24 : decode cJ0_charAt_5068e 24 = .ok (.ireturn, 1) := by decide +kernel
theorem dJ0_coder_7d493_0 : decode cJ0_coder_7d493 0 = .ok (.getstatic 38, 3) := by decide +kernel
theorem dJ0_coder_7d493_3 : decode cJ0_coder_7d493 3 = .ok (.ifCond .eq 10, 3) := by decide +kernel
theorem dJ0_coder_7d493_6 : decode cJ0_coder_7d493 6 = .ok (.aload_n 0, 1) := by decide +kernel
theorem dJ0_coder_7d493_7 : decode cJ0_coder_7d493 7 = .ok (.getfield 15, 3) := by decide +kernel
theorem dJ0_coder_7d493_10 : decode cJ0_coder_7d493 10 = .ok (.goto 4, 3) := by decide +kernel
theorem dJ0_coder_7d493_13 : decode cJ0_coder_7d493 13 = .ok (.iconst 1, 1) := by decide +kernel
theorem dJ0_coder_7d493_14 : decode cJ0_coder_7d493 14 = .ok (.ireturn, 1) := by decide +kernel
theorem dJ0_isLatin1_aae02_0 : decode cJ0_isLatin1_aae02 0 = .ok (.getstatic 38, 3) := by decide +kernel
theorem dJ0_isLatin1_aae02_3 : decode cJ0_isLatin1_aae02 3 = .ok (.ifCond .eq 14, 3) := by decide +kernel
theorem dJ0_isLatin1_aae02_6 : decode cJ0_isLatin1_aae02 6 = .ok (.aload_n 0, 1) := by decide +kernel
theorem dJ0_isLatin1_aae02_7 : decode cJ0_isLatin1_aae02 7 = .ok (.getfield 15, 3) := by decide +kernel
theorem dJ0_isLatin1_aae02_10 : decode cJ0_isLatin1_aae02 10 = .ok (.ifCond .ne 7, 3) := by decide +kernel
theorem dJ0_isLatin1_aae02_13 : decode cJ0_isLatin1_aae02 13 = .ok (.iconst 1, 1) := by decide +kernel
theorem dJ0_isLatin1_aae02_14 : decode cJ0_isLatin1_aae02 14 = .ok (.goto 4, 3) := by decide +kernel
theorem dJ0_isLatin1_aae02_17 : decode cJ0_isLatin1_aae02 17 = .ok (.iconst 0, 1) := by decide +kernel
theorem dJ0_isLatin1_aae02_18 : decode cJ0_isLatin1_aae02 18 = .ok (.ireturn, 1) := by decide +kernel
theorem dJ0_checkIndex_df160_0 : decode cJ0_checkIndex_df160 0 = .ok (.iload_n 0, 1) := by decide +kernel
theorem dJ0_checkIndex_df160_1 : decode cJ0_checkIndex_df160 1 = .ok (.iload_n 1, 1) := by decide +kernel
theorem dJ0_checkIndex_df160_2 : decode cJ0_checkIndex_df160 2 = .ok (.getstatic 1053, 3) := by decide +kernel
theorem dJ0_checkIndex_df160_5 : decode cJ0_checkIndex_df160 5 = .ok (.invokestatic 1059, 3) := by decide +kernel
theorem dJ0_checkIndex_df160_8 : decode cJ0_checkIndex_df160 8 = .ok (.pop, 1) := by decide +kernel
theorem dJ0_checkIndex_df160_9 : decode cJ0_checkIndex_df160 9 = .ok (.return_, 1) := by decide +kernel
theorem dJ1_charAt_3b067_0 : decode cJ1_charAt_3b067 0 = .ok (.iload_n 1, 1) := by decide +kernel
theorem dJ1_charAt_3b067_1 : decode cJ1_charAt_3b067 1 = .ok (.aload_n 0, 1) := by decide +kernel
theorem dJ1_charAt_3b067_2 : decode cJ1_charAt_3b067 2 = .ok (.arraylength, 1) := by decide +kernel
theorem dJ1_charAt_3b067_3 : decode cJ1_charAt_3b067 3 = .ok (.invokestatic 9, 3) := by decide +kernel
theorem dJ1_charAt_3b067_6 : decode cJ1_charAt_3b067 6 = .ok (.aload_n 0, 1) := by decide +kernel
theorem dJ1_charAt_3b067_7 : decode cJ1_charAt_3b067 7 = .ok (.iload_n 1, 1) := by decide +kernel
theorem dJ1_charAt_3b067_8 : decode cJ1_charAt_3b067 8 = .ok (.baload, 1) := by decide +kernel
theorem dJ1_charAt_3b067_9 : decode cJ1_charAt_3b067 9 = .ok (.sipush 255, 3) := by decide +kernel
theorem dJ1_charAt_3b067_12 : decode cJ1_charAt_3b067 12 = .ok (.iand, 1) := by decide +kernel
theorem dJ1_charAt_3b067_13 : decode cJ1_charAt_3b067 13 = .ok (.i2c, 1) := by decide +kernel
theorem dJ1_charAt_3b067_14 : decode cJ1_charAt_3b067 14 = .ok (.ireturn, 1) := by decide +kernel
theorem dJ2_getChar_3b067_0 : decode cJ2_getChar_3b067 0 = .ok (.getstatic 44, 3) := by decide +kernel
theorem dJ2_getChar_3b067_3 : decode cJ2_getChar_3b067 3 = .ok (.ifCond .ne 25, 3) := by decide +kernel
theorem dJ2_getChar_3b067_6 : decode cJ2_getChar_3b067 6 = .ok (.iload_n 1, 1) := by decide +kernel
theorem dJ2_getChar_3b067_7 : decode cJ2_getChar_3b067 7 = .ok (.ifCond .lt 11, 3) := by decide +kernel
theorem dJ2_getChar_3b067_10 : decode cJ2_getChar_3b067 10 = .ok (.iload_n 1, 1) := by decide +kernel
theorem dJ2_getChar_3b067_11 : decode cJ2_getChar_3b067 11 = .ok (.aload_n 0, 1) := by decide +kernel
theorem dJ2_getChar_3b067_12 : decode cJ2_getChar_3b067 12 = .ok (.invokestatic 48, 3) := by decide +kernel
theorem dJ2_getChar_3b067_15 : decode cJ2_getChar_3b067 15 = .ok (.if_icmp .lt 13, 3) := by decide +kernel
theorem dJ2_getChar_3b067_18 : decode cJ2_getChar_3b067 18 = .ok (.new 52, 3) := by decide +kernel
theorem dJ2_getChar_3b067_21 : decode cJ2_getChar_3b067 21 = .ok (.dup, 1) := by decide +kernel
theorem dJ2_getChar_3b067_22 : decode cJ2_getChar_3b067 22 = .ok (.ldc 54, 2) := by decide +kernel
theorem dJ2_getChar_3b067_24 : decode cJ2_getChar_3b067 24 = .ok (.invokespecial 56, 3) := by decide +kernel
theorem dJ2_getChar_3b067_27 : decode cJ2_getChar_3b067 27 = .ok (.athrow, 1) := by decide +kernel
theorem dJ2_getChar_3b067_28 : decode cJ2_getChar_3b067 28 = .ok (.iload_n 1, 1) := by decide +kernel
theorem dJ2_getChar_3b067_29 : decode cJ2_getChar_3b067 29 = .ok (.iconst 1, 1) := by decide +kernel
theorem dJ2_getChar_3b067_30 : decode cJ2_getChar_3b067 30 = .ok (.ishl, 1) := by decide +kernel
theorem dJ2_getChar_3b067_31 : decode cJ2_getChar_3b067 31 = .ok (.istore_n 1, 1) := by decide +kernel
theorem dJ2_getChar_3b067_32 : decode cJ2_getChar_3b067 32 = .ok (.aload_n 0, 1) := by decide +kernel
theorem dJ2_getChar_3b067_33 : decode cJ2_getChar_3b067 33 = .ok (.iload_n 1, 1) := by decide +kernel
theorem dJ2_getChar_3b067_34 : decode cJ2_getChar_3b067 34 = .ok (.iinc 1 1, 3) := by decide +kernel
theorem dJ2_getChar_3b067_37 : decode cJ2_getChar_3b067 37 = .ok (.baload, 1) := by decide +kernel
theorem dJ2_getChar_3b067_38 : decode cJ2_getChar_3b067 38 = .ok (.sipush 255, 3) := by decide +kernel
theorem dJ2_getChar_3b067_41 : decode cJ2_getChar_3b067 41 = .ok (.iand, 1) := by decide +kernel
theorem dJ2_getChar_3b067_42 : decode cJ2_getChar_3b067 42 = .ok (.getstatic 59, 3) := by decide +kernel
theorem dJ2_getChar_3b067_45 : decode cJ2_getChar_3b067 45 = .ok (.ishl, 1) := by decide +kernel
theorem dJ2_getChar_3b067_46 : decode cJ2_getChar_3b067 46 = .ok (.aload_n 0, 1) := by decide +kernel
theorem dJ2_getChar_3b067_47 : decode cJ2_getChar_3b067 47 = .ok (.iload_n 1, 1) := by decide +kernel
theorem dJ2_getChar_3b067_48 : decode cJ2_getChar_3b067 48 = .ok (.baload, 1) := by decide +kernel
theorem dJ2_getChar_3b067_49 : decode cJ2_getChar_3b067 49 = .ok (.sipush 255, 3) := by decide +kernel
theorem dJ2_getChar_3b067_52 : decode cJ2_getChar_3b067 52 = .ok (.iand, 1) := by decide +kernel
theorem dJ2_getChar_3b067_53 : decode cJ2_getChar_3b067 53 = .ok (.getstatic 63, 3) := by decide +kernel
theorem dJ2_getChar_3b067_56 : decode cJ2_getChar_3b067 56 = .ok (.ishl, 1) := by decide +kernel
theorem dJ2_getChar_3b067_57 : decode cJ2_getChar_3b067 57 = .ok (.ior, 1) := by decide +kernel
theorem dJ2_getChar_3b067_58 : decode cJ2_getChar_3b067 58 = .ok (.i2c, 1) := by decide +kernel
theorem dJ2_getChar_3b067_59 : decode cJ2_getChar_3b067 59 = .ok (.ireturn, 1) := by decide +kernel
theorem dJ2_length_9d52b_0 : decode cJ2_length_9d52b 0 = .ok (.aload_n 0, 1) := by decide +kernel
theorem dJ2_length_9d52b_1 : decode cJ2_length_9d52b 1 = .ok (.arraylength, 1) := by decide +kernel
theorem dJ2_length_9d52b_2 : decode cJ2_length_9d52b 2 = .ok (.iconst 1, 1) := by decide +kernel
theorem dJ2_length_9d52b_3 : decode cJ2_length_9d52b 3 = .ok (.ishr, 1) := by decide +kernel
theorem dJ2_length_9d52b_4 : decode cJ2_length_9d52b 4 = .ok (.ireturn, 1) := by decide +kernel
theorem dJ2_charAt_3b067_0 : decode cJ2_charAt_3b067 0 = .ok (.iload_n 1, 1) := by decide +kernel
theorem dJ2_charAt_3b067_1 : decode cJ2_charAt_3b067 1 = .ok (.aload_n 0, 1) := by decide +kernel
theorem dJ2_charAt_3b067_2 : decode cJ2_charAt_3b067 2 = .ok (.invokestatic 67, 3) := by decide +kernel
theorem dJ2_charAt_3b067_5 : decode cJ2_charAt_3b067 5 = .ok (.aload_n 0, 1) := by decide +kernel
theorem dJ2_charAt_3b067_6 : decode cJ2_charAt_3b067 6 = .ok (.iload_n 1, 1) := by decide +kernel
theorem dJ2_charAt_3b067_7 : decode cJ2_charAt_3b067 7 = .ok (.invokestatic 71, 3) := by decide +kernel
theorem dJ2_charAt_3b067_10 : decode cJ2_charAt_3b067 10 = .ok (.ireturn, 1) := by decide +kernel
theorem dJ2_checkIndex_2214a_0 : decode cJ2_checkIndex_2214a 0 = .ok (.iload_n 0, 1) := by decide +kernel
theorem dJ2_checkIndex_2214a_1 : decode cJ2_checkIndex_2214a 1 = .ok (.aload_n 1, 1) := by decide +kernel
theorem dJ2_checkIndex_2214a_2 : decode cJ2_checkIndex_2214a 2 = .ok (.invokestatic 48, 3) := by decide +kernel
theorem dJ2_checkIndex_2214a_5 : decode cJ2_checkIndex_2214a 5 = .ok (.invokestatic 414, 3) := by decide +kernel
theorem dJ2_checkIndex_2214a_8 : decode cJ2_checkIndex_2214a 8 = .ok (.return_, 1) := by decide +kernel
theorem dJ3_checkIndex_8e157_0 : decode cJ3_checkIndex_8e157 0 = .ok (.iload_n 0, 1) := by decide +kernel
theorem dJ3_checkIndex_8e157_1 : decode cJ3_checkIndex_8e157 1 = .ok (.ifCond .lt 8, 3) := by decide +kernel
theorem dJ3_checkIndex_8e157_4 : decode cJ3_checkIndex_8e157 4 = .ok (.iload_n 0, 1) := by decide +kernel
theorem dJ3_checkIndex_8e157_5 : decode cJ3_checkIndex_8e157 5 = .ok (.iload_n 1, 1) := by decide +kernel
theorem dJ3_checkIndex_8e157_6 : decode cJ3_checkIndex_8e157 6 = .ok (.if_icmp .lt 10, 3) := by decide +kernel
theorem dJ3_checkIndex_8e157_9 : decode cJ3_checkIndex_8e157 9 = .ok (.aload_n 2, 1) := by decide +kernel
theorem dJ3_checkIndex_8e157_10 : decode cJ3_checkIndex_8e157 10 = .ok (.iload_n 0, 1) := by decide +kernel
theorem dJ3_checkIndex_8e157_11 : decode cJ3_checkIndex_8e157 11 = .ok (.iload_n 1, 1) := by decide +kernel
theorem dJ3_checkIndex_8e157_12 : decode cJ3_checkIndex_8e157 12 = .ok (.invokestatic 95, 3) := by decide +kernel
theorem dJ3_checkIndex_8e157_15 : decode cJ3_checkIndex_8e157 15 = .ok (.athrow, 1) := by decide +kernel
theorem dJ3_checkIndex_8e157_16 : decode cJ3_checkIndex_8e157 16 = .ok (.iload_n 0, 1) := by decide +kernel
theorem dJ3_checkIndex_8e157_17 : decode cJ3_checkIndex_8e157 17 = .ok (.ireturn, 1) := by decide +kernel
