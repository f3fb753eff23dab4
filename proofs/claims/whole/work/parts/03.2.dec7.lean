theorem dX7_init_0 : decode cX7_init 0 = .ok (.aload_n 0, 1) := by decide +kernel
theorem dX7_init_1 : decode cX7_init 1 = .ok (.invokespecial 1, 3) := by decide +kernel
theorem dX7_init_4 : decode cX7_init 4 = .ok (.aload_n 0, 1) := by decide +kernel
theorem dX7_init_5 : decode cX7_init 5 = .ok (.bipush 59, 2) := by decide +kernel
theorem dX7_init_7 : decode cX7_init 7 = .ok (.newarray .int, 2) := by decide +kernel
theorem dX7_init_9 : decode cX7_init 9 = .ok (.putfield 7, 3) := by decide +kernel
theorem dX7_init_12 : decode cX7_init 12 = .ok (.aload_n 0, 1) := by decide +kernel
theorem dX7_init_13 : decode cX7_init 13 = .ok (.sipush 236, 3) := by decide +kernel
theorem dX7_init_16 : decode cX7_init 16 = .ok (.newarray .int, 2) := by decide +kernel
theorem dX7_init_18 : decode cX7_init 18 = .ok (.putfield 13, 3) := by decide +kernel
theorem dX7_init_21 : decode cX7_init 21 = .ok (.aload_n 0, 1) := by decide +kernel
theorem dX7_init_22 : decode cX7_init 22 = .ok (.bipush 59, 2) := by decide +kernel
theorem dX7_init_24 : decode cX7_init 24 = .ok (.newarray .int, 2) := by decide +kernel
theorem dX7_init_26 : decode cX7_init 26 = .ok (.putfield 16, 3) := by decide +kernel
theorem dX7_init_29 : decode cX7_init 29 = .ok (.aload_n 0, 1) := by decide +kernel
theorem dX7_init_30 : decode cX7_init 30 = .ok (.bipush 14, 2) := by decide +kernel
theorem dX7_init_32 : decode cX7_init 32 = .ok (.newarray .int, 2) := by decide +kernel
theorem dX7_init_34 : decode cX7_init 34 = .ok (.putfield 19, 3) := by decide +kernel
theorem dX7_init_37 : decode cX7_init 37 = .ok (.aload_n 0, 1) := by decide +kernel
theorem dX7_init_38 : decode cX7_init 38 = .ok (.iconst 4, 1) := by decide +kernel
theorem dX7_init_39 : decode cX7_init 39 = .ok (.newarray .int, 2) := by decide +kernel
theorem dX7_init_41 : decode cX7_init 41 = .ok (.putfield 22, 3) := by decide +kernel
theorem dX7_init_44 : decode cX7_init 44 = .ok (.aload_n 0, 1) := by decide +kernel
theorem dX7_init_45 : decode cX7_init 45 = .ok (.iconst 4, 1) := by decide +kernel
theorem dX7_init_46 : decode cX7_init 46 = .ok (.newarray .int, 2) := by decide +kernel
theorem dX7_init_48 : decode cX7_init 48 = .ok (.putfield 25, 3) := by decide +kernel
theorem dX7_init_51 : decode cX7_init 51 = .ok (.aload_n 0, 1) := by decide +kernel
theorem dX7_init_52 : decode cX7_init 52 = .ok (.bipush 60, 2) := by decide +kernel
theorem dX7_init_54 : decode cX7_init 54 = .ok (.newarray .char, 2) := by decide +kernel
theorem dX7_init_56 : decode cX7_init 56 = .ok (.putfield 28, 3) := by decide +kernel
theorem dX7_init_59 : decode cX7_init 59 = .ok (.aload_n 0, 1) := by decide +kernel
theorem dX7_init_60 : decode cX7_init 60 = .ok (.bipush 100, 2) := by decide +kernel
theorem dX7_init_62 : decode cX7_init 62 = .ok (.newarray .int, 2) := by decide +kernel
theorem dX7_init_64 : decode cX7_init 64 = .ok (.putfield 32, 3) := by decide +kernel
theorem dX7_init_67 : decode cX7_init 67 = .ok (.aload_n 0, 1) := by decide +kernel
theorem dX7_init_68 : decode cX7_init 68 = .ok (.bipush 14, 2) := by decide +kernel
theorem dX7_init_70 : decode cX7_init 70 = .ok (.newarray .int, 2) := by decide +kernel
theorem dX7_init_72 : decode cX7_init 72 = .ok (.putfield 35, 3) := by decide +kernel
theorem dX7_init_75 : decode cX7_init 75 = .ok (.aload_n 0, 1) := by decide +kernel
theorem dX7_init_76 : decode cX7_init 76 = .ok (.bipush 14, 2) := by decide +kernel
theorem dX7_init_78 : decode cX7_init 78 = .ok (.newarray .int, 2) := by decide +kernel
theorem dX7_init_80 : decode cX7_init 80 = .ok (.putfield 38, 3) := by decide +kernel
theorem dX7_init_83 : decode cX7_init 83 = .ok (.aload_n 0, 1) := by decide +kernel
theorem dX7_init_84 : decode cX7_init 84 = .ok (.bipush 16, 2) := by decide +kernel
theorem dX7_init_86 : decode cX7_init 86 = .ok (.newarray .int, 2) := by decide +kernel
theorem dX7_init_88 : decode cX7_init 88 = .ok (.putfield 41, 3) := by decide +kernel
theorem dX7_init_91 : decode cX7_init 91 = .ok (.aload_n 0, 1) := by decide +kernel
theorem dX7_init_92 : decode cX7_init 92 = .ok (.getfield 7, 3) := by decide +kernel
theorem dX7_init_95 : decode cX7_init 95 = .ok (.bipush 57, 2) := by decide +kernel
theorem dX7_init_97 : decode cX7_init 97 = .ok (.iconst (-1), 1) := by decide +kernel
theorem dX7_init_98 : decode cX7_init 98 = .ok (.iastore, 1) := by decide +kernel
theorem dX7_init_99 : decode cX7_init 99 = .ok (.return_, 1) := by decide +kernel
theorem dX7_in_0 : decode cX7_in 0 = .ok (.iload_n 0, 1) := by decide +kernel
theorem dX7_in_1 : decode cX7_in 1 = .ok (.iload_n 1, 1) := by decide +kernel
theorem dX7_in_2 : decode cX7_in 2 = .ok (.if_icmp .lt 12, 3) := by decide +kernel
theorem dX7_in_5 : decode cX7_in 5 = .ok (.iload_n 0, 1) := by decide +kernel
theorem dX7_in_6 : decode cX7_in 6 = .ok (.iload_n 2, 1) := by decide +kernel
theorem dX7_in_7 : decode cX7_in 7 = .ok (.if_icmp .gt 7, 3) := by decide +kernel
theorem dX7_in_10 : decode cX7_in 10 = .ok (.iconst 1, 1) := by decide +kernel
theorem dX7_in_11 : decode cX7_in 11 = .ok (.goto 4, 3) := by decide +kernel
theorem dX7_in_14 : decode cX7_in 14 = .ok (.iconst 0, 1) := by decide +kernel
theorem dX7_in_15 : decode cX7_in 15 = .ok (.ireturn, 1) := by decide +kernel
theorem dX7_of_0 : decode cX7_of 0 = .ok (.aload_n 0, 1) := by decide +kernel
theorem dX7_of_1 : decode cX7_of 1 = .ok (.getfield 7, 3) := by decide +kernel
theorem dX7_of_4 : decode cX7_of 4 = .ok (.iconst 4, 1) := by decide +kernel
theorem dX7_of_5 : decode cX7_of 5 = .ok (.iload_n 1, 1) := by decide +kernel
theorem dX7_of_6 : decode cX7_of 6 = .ok (.imul, 1) := by decide +kernel
theorem dX7_of_7 : decode cX7_of 7 = .ok (.iload_n 2, 1) := by decide +kernel
theorem dX7_of_8 : decode cX7_of 8 = .ok (.iadd, 1) := by decide +kernel
theorem dX7_of_9 : decode cX7_of 9 = .ok (.iaload, 1) := by decide +kernel
theorem dX7_of_10 : decode cX7_of 10 = .ok (.ireturn, 1) := by decide +kernel
theorem dX7_puts_0 : decode cX7_puts 0 = .ok (.aload_n 0, 1) := by decide +kernel
theorem dX7_puts_1 : decode cX7_puts 1 = .ok (.getfield 7, 3) := by decide +kernel
theorem dX7_puts_4 : decode cX7_puts 4 = .ok (.iconst 4, 1) := by decide +kernel
theorem dX7_puts_5 : decode cX7_puts 5 = .ok (.iload_n 1, 1) := by decide +kernel
theorem dX7_puts_6 : decode cX7_puts 6 = .ok (.imul, 1) := by decide +kernel
theorem dX7_puts_7 : decode cX7_puts 7 = .ok (.iload_n 2, 1) := by decide +kernel
theorem dX7_puts_8 : decode cX7_puts 8 = .ok (.iadd, 1) := by decide +kernel
theorem dX7_puts_9 : decode cX7_puts 9 = .ok (.iload_n 3, 1) := by decide +kernel
theorem dX7_puts_10 : decode cX7_puts 10 = .ok (.iastore, 1) := by decide +kernel
theorem dX7_puts_11 : decode cX7_puts 11 = .ok (.return_, 1) := by decide +kernel
set_option maxRecDepth 20000 in
theorem ggX7_no_X7_in : GoodIn wsX7_no wsX7_in := goodIn_r _ [5] (by decide +kernel) (by decide +kernel)
set_option maxRecDepth 20000 in
theorem gX7_no_X7_in : GoodIn wsX7_no (va_wsS RX7 44 yX7_in wsX7_in) := goodIn_app (goodIn_of _ (by decide +kernel)) ggX7_no_X7_in
theorem dX7_no_0 : decode cX7_no 0 = .ok (.iload_n 1, 1) := by decide +kernel
theorem dX7_no_1 : decode cX7_no 1 = .ok (.iconst 0, 1) := by decide +kernel
theorem dX7_no_2 : decode cX7_no 2 = .ok (.aload_n 0, 1) := by decide +kernel
theorem dX7_no_3 : decode cX7_no 3 = .ok (.getfield 7, 3) := by decide +kernel
theorem dX7_no_6 : decode cX7_no 6 = .ok (.bipush 56, 2) := by decide +kernel
theorem dX7_no_8 : decode cX7_no 8 = .ok (.iaload, 1) := by decide +kernel
theorem dX7_no_9 : decode cX7_no 9 = .ok (.iconst 1, 1) := by decide +kernel
theorem dX7_no_10 : decode cX7_no 10 = .ok (.isub, 1) := by decide +kernel
theorem dX7_no_11 : decode cX7_no 11 = .ok (.invokestatic 44, 3) := by decide +kernel
theorem dX7_no_14 : decode cX7_no 14 = .ok (.ifCond .ne 7, 3) := by decide +kernel
theorem dX7_no_17 : decode cX7_no 17 = .ok (.iconst 1, 1) := by decide +kernel
theorem dX7_no_18 : decode cX7_no 18 = .ok (.goto 4, 3) := by decide +kernel
theorem dX7_no_21 : decode cX7_no 21 = .ok (.iconst 0, 1) := by decide +kernel
theorem dX7_no_22 : decode cX7_no 22 = .ok (.ireturn, 1) := by decide +kernel
set_option maxRecDepth 20000 in
theorem ggX7_noPlayer_X7_in : GoodIn wsX7_noPlayer wsX7_in := goodIn_r _ [4] (by decide +kernel) (by decide +kernel)
set_option maxRecDepth 20000 in
theorem gX7_noPlayer_X7_in : GoodIn wsX7_noPlayer (va_wsS RX7 44 yX7_in wsX7_in) := goodIn_app (goodIn_of _ (by decide +kernel)) ggX7_noPlayer_X7_in
theorem dX7_noPlayer_0 : decode cX7_noPlayer 0 = .ok (.iload_n 0, 1) := by decide +kernel
theorem dX7_noPlayer_1 : decode cX7_noPlayer 1 = .ok (.iconst 0, 1) := by decide +kernel
theorem dX7_noPlayer_2 : decode cX7_noPlayer 2 = .ok (.iconst 1, 1) := by decide +kernel
theorem dX7_noPlayer_3 : decode cX7_noPlayer 3 = .ok (.invokestatic 44, 3) := by decide +kernel
theorem dX7_noPlayer_6 : decode cX7_noPlayer 6 = .ok (.ifCond .ne 7, 3) := by decide +kernel
theorem dX7_noPlayer_9 : decode cX7_noPlayer 9 = .ok (.iconst 1, 1) := by decide +kernel
theorem dX7_noPlayer_10 : decode cX7_noPlayer 10 = .ok (.goto 4, 3) := by decide +kernel
theorem dX7_noPlayer_13 : decode cX7_noPlayer 13 = .ok (.iconst 0, 1) := by decide +kernel
theorem dX7_noPlayer_14 : decode cX7_noPlayer 14 = .ok (.ireturn, 1) := by decide +kernel
set_option maxRecDepth 20000 in
theorem ggX7_hasArrow_X7_of : GoodIn wsX7_hasArrow wsX7_of := goodIn_r _ [5, 6, 7, 8, 9, 10, 11, 12, 13, 14, 15, 16, 17, 18, 19, 20, 21, 22, 23, 24, 25] (by decide +kernel) (by decide +kernel)
set_option maxRecDepth 20000 in
theorem gX7_hasArrow_X7_of : GoodIn wsX7_hasArrow (wsV RX7 48 RX7 yX7_of wsX7_of) := goodIn_app (goodIn_of _ (by decide +kernel)) ggX7_hasArrow_X7_of
theorem dX7_hasArrow_0 : decode cX7_hasArrow 0 = .ok (.aload_n 0, 1) := by decide +kernel
theorem dX7_hasArrow_1 : decode cX7_hasArrow 1 = .ok (.iload_n 1, 1) := by decide +kernel
theorem dX7_hasArrow_2 : decode cX7_hasArrow 2 = .ok (.iconst 2, 1) := by decide +kernel
theorem dX7_hasArrow_3 : decode cX7_hasArrow 3 = .ok (.invokevirtual 48, 3) := by decide +kernel
theorem dX7_hasArrow_6 : decode cX7_hasArrow 6 = .ok (.iload_n 2, 1) := by decide +kernel
theorem dX7_hasArrow_7 : decode cX7_hasArrow 7 = .ok (.ishr, 1) := by decide +kernel
theorem dX7_hasArrow_8 : decode cX7_hasArrow 8 = .ok (.iconst 1, 1) := by decide +kernel
theorem dX7_hasArrow_9 : decode cX7_hasArrow 9 = .ok (.iand, 1) := by decide +kernel
theorem dX7_hasArrow_10 : decode cX7_hasArrow 10 = .ok (.iconst 1, 1) := by decide +kernel
theorem dX7_hasArrow_11 : decode cX7_hasArrow 11 = .ok (.if_icmp .ne 7, 3) := by decide +kernel
theorem dX7_hasArrow_14 : decode cX7_hasArrow 14 = .ok (.iconst 1, 1) := by decide +kernel
theorem dX7_hasArrow_15 : decode cX7_hasArrow 15 = .ok (.goto 4, 3) := by decide +kernel
theorem dX7_hasArrow_18 : decode cX7_hasArrow 18 = .ok (.iconst 0, 1) := by decide +kernel
theorem dX7_hasArrow_19 : decode cX7_hasArrow 19 = .ok (.ireturn, 1) := by decide +kernel
theorem dX7_bits_0 : decode cX7_bits 0 = .ok (.iconst 0, 1) := by decide +kernel
theorem dX7_bits_1 : decode cX7_bits 1 = .ok (.istore_n 1, 1) := by decide +kernel
theorem dX7_bits_2 : decode cX7_bits 2 = .ok (.iconst 0, 1) := by decide +kernel
theorem dX7_bits_3 : decode cX7_bits 3 = .ok (.istore_n 2, 1) := by decide +kernel
theorem dX7_bits_4 : decode cX7_bits 4 = .ok (.iload_n 2, 1) := by decide +kernel
theorem dX7_bits_5 : decode cX7_bits 5 = .ok (.bipush 14, 2) := by decide +kernel
theorem dX7_bits_7 : decode cX7_bits 7 = .ok (.if_icmp .ge 17, 3) := by decide +kernel
theorem dX7_bits_10 : decode cX7_bits 10 = .ok (.iload_n 1, 1) := by decide +kernel
theorem dX7_bits_11 : decode cX7_bits 11 = .ok (.iload_n 0, 1) := by decide +kernel
theorem dX7_bits_12 : decode cX7_bits 12 = .ok (.iload_n 2, 1) := by decide +kernel
theorem dX7_bits_13 : decode cX7_bits 13 = .ok (.ishr, 1) := by decide +kernel
theorem dX7_bits_14 : decode cX7_bits 14 = .ok (.iconst 1, 1) := by decide +kernel
theorem dX7_bits_15 : decode cX7_bits 15 = .ok (.iand, 1) := by decide +kernel
theorem dX7_bits_16 : decode cX7_bits 16 = .ok (.iadd, 1) := by decide +kernel
theorem dX7_bits_17 : decode cX7_bits 17 = .ok (.istore_n 1, 1) := by decide +kernel
theorem dX7_bits_18 : decode cX7_bits 18 = .ok (.iinc 2 1, 3) := by decide +kernel
theorem dX7_bits_21 : decode cX7_bits 21 = .ok (.goto (-17), 3) := by decide +kernel
theorem dX7_bits_24 : decode cX7_bits 24 = .ok (.iload_n 1, 1) := by decide +kernel
theorem dX7_bits_25 : decode cX7_bits 25 = .ok (.ireturn, 1) := by decide +kernel
theorem dX7_lowest_0 : decode cX7_lowest 0 = .ok (.iconst 0, 1) := by decide +kernel
theorem dX7_lowest_1 : decode cX7_lowest 1 = .ok (.istore_n 1, 1) := by decide +kernel
theorem dX7_lowest_2 : decode cX7_lowest 2 = .ok (.iload_n 0, 1) := by decide +kernel
theorem dX7_lowest_3 : decode cX7_lowest 3 = .ok (.iload_n 1, 1) := by decide +kernel
theorem dX7_lowest_4 : decode cX7_lowest 4 = .ok (.ishr, 1) := by decide +kernel
theorem dX7_lowest_5 : decode cX7_lowest 5 = .ok (.iconst 1, 1) := by decide +kernel
theorem dX7_lowest_6 : decode cX7_lowest 6 = .ok (.iand, 1) := by decide +kernel
theorem dX7_lowest_7 : decode cX7_lowest 7 = .ok (.ifCond .ne 9, 3) := by decide +kernel
theorem dX7_lowest_10 : decode cX7_lowest 10 = .ok (.iinc 1 1, 3) := by decide +kernel
theorem dX7_lowest_13 : decode cX7_lowest 13 = .ok (.goto (-11), 3) := by decide +kernel
theorem dX7_lowest_16 : decode cX7_lowest 16 = .ok (.iload_n 1, 1) := by decide +kernel
theorem dX7_lowest_17 : decode cX7_lowest 17 = .ok (.ireturn, 1) := by decide +kernel
set_option maxRecDepth 20000 in
theorem ggX7_arrows_X7_of : GoodIn wsX7_arrows wsX7_of := goodIn_r _ [6, 1, 10, 11, 12, 13, 14, 15, 16, 17, 18, 19, 20, 21, 22, 23, 24, 25, 26, 27, 28] (by decide +kernel) (by decide +kernel)
set_option maxRecDepth 20000 in
theorem gX7_arrows_X7_of : GoodIn wsX7_arrows (wsV RX7 48 RX7 yX7_of wsX7_of) := goodIn_app (goodIn_of _ (by decide +kernel)) ggX7_arrows_X7_of
set_option maxRecDepth 20000 in
theorem ggX7_arrows_X7_bits : GoodIn wsX7_arrows wsX7_bits := goodIn_r _ [9] (by decide +kernel) (by decide +kernel)
set_option maxRecDepth 20000 in
theorem gX7_arrows_X7_bits : GoodIn wsX7_arrows (va_wsS RX7 52 yX7_bits wsX7_bits) := goodIn_app (goodIn_of _ (by decide +kernel)) ggX7_arrows_X7_bits
theorem dX7_arrows_0 : decode cX7_arrows 0 = .ok (.iconst 0, 1) := by decide +kernel
theorem dX7_arrows_1 : decode cX7_arrows 1 = .ok (.istore_n 1, 1) := by decide +kernel
theorem dX7_arrows_2 : decode cX7_arrows 2 = .ok (.iconst 0, 1) := by decide +kernel
theorem dX7_arrows_3 : decode cX7_arrows 3 = .ok (.istore_n 2, 1) := by decide +kernel
theorem dX7_arrows_4 : decode cX7_arrows 4 = .ok (.iload_n 2, 1) := by decide +kernel
theorem dX7_arrows_5 : decode cX7_arrows 5 = .ok (.aload_n 0, 1) := by decide +kernel
theorem dX7_arrows_6 : decode cX7_arrows 6 = .ok (.getfield 7, 3) := by decide +kernel
theorem dX7_arrows_9 : decode cX7_arrows 9 = .ok (.bipush 56, 2) := by decide +kernel
theorem dX7_arrows_11 : decode cX7_arrows 11 = .ok (.iaload, 1) := by decide +kernel
theorem dX7_arrows_12 : decode cX7_arrows 12 = .ok (.if_icmp .ge 21, 3) := by decide +kernel
theorem dX7_arrows_15 : decode cX7_arrows 15 = .ok (.iload_n 1, 1) := by decide +kernel
theorem dX7_arrows_16 : decode cX7_arrows 16 = .ok (.aload_n 0, 1) := by decide +kernel
theorem dX7_arrows_17 : decode cX7_arrows 17 = .ok (.iload_n 2, 1) := by decide +kernel
theorem dX7_arrows_18 : decode cX7_arrows 18 = .ok (.iconst 2, 1) := by decide +kernel
theorem dX7_arrows_19 : decode cX7_arrows 19 = .ok (.invokevirtual 48, 3) := by decide +kernel
theorem dX7_arrows_22 : decode cX7_arrows 22 = .ok (.invokestatic 52, 3) := by decide +kernel
theorem dX7_arrows_25 : decode cX7_arrows 25 = .ok (.iadd, 1) := by decide +kernel
theorem dX7_arrows_26 : decode cX7_arrows 26 = .ok (.istore_n 1, 1) := by decide +kernel
theorem dX7_arrows_27 : decode cX7_arrows 27 = .ok (.iinc 2 1, 3) := by decide +kernel
theorem dX7_arrows_30 : decode cX7_arrows 30 = .ok (.goto (-26), 3) := by decide +kernel
theorem dX7_arrows_33 : decode cX7_arrows 33 = .ok (.iload_n 1, 1) := by decide +kernel
theorem dX7_arrows_34 : decode cX7_arrows 34 = .ok (.ireturn, 1) := by decide +kernel
theorem dX7_record_0 : decode cX7_record 0 = .ok (.aload_n 0, 1) := by decide +kernel
theorem dX7_record_1 : decode cX7_record 1 = .ok (.getfield 56, 3) := by decide +kernel
theorem dX7_record_4 : decode cX7_record 4 = .ok (.iconst 4, 1) := by decide +kernel
theorem dX7_record_5 : decode cX7_record 5 = .ok (.if_icmp .ne 43, 3) := by decide +kernel
theorem dX7_record_8 : decode cX7_record 8 = .ok (.iconst 0, 1) := by decide +kernel
theorem dX7_record_9 : decode cX7_record 9 = .ok (.istore_n 1, 1) := by decide +kernel
theorem dX7_record_10 : decode cX7_record 10 = .ok (.iload_n 1, 1) := by decide +kernel
theorem dX7_record_11 : decode cX7_record 11 = .ok (.sipush 177, 3) := by decide +kernel
theorem dX7_record_14 : decode cX7_record 14 = .ok (.if_icmp .ge 24, 3) := by decide +kernel
theorem dX7_record_17 : decode cX7_record 17 = .ok (.aload_n 0, 1) := by decide +kernel
theorem dX7_record_18 : decode cX7_record 18 = .ok (.getfield 13, 3) := by decide +kernel
theorem dX7_record_21 : decode cX7_record 21 = .ok (.iload_n 1, 1) := by decide +kernel
theorem dX7_record_22 : decode cX7_record 22 = .ok (.aload_n 0, 1) := by decide +kernel
theorem dX7_record_23 : decode cX7_record 23 = .ok (.getfield 13, 3) := by decide +kernel
theorem dX7_record_26 : decode cX7_record 26 = .ok (.iload_n 1, 1) := by decide +kernel
theorem dX7_record_27 : decode cX7_record 27 = .ok (.bipush 59, 2) := by decide +kernel
theorem dX7_record_29 : decode cX7_record 29 = .ok (.iadd, 1) := by decide +kernel
theorem dX7_record_30 : decode cX7_record 30 = .ok (.iaload, 1) := by decide +kernel
theorem dX7_record_31 : decode cX7_record 31 = .ok (.iastore, 1) := by decide +kernel
theorem dX7_record_32 : decode cX7_record 32 = .ok (.iinc 1 1, 3) := by decide +kernel
theorem dX7_record_35 : decode cX7_record 35 = .ok (.goto (-25), 3) := by decide +kernel
theorem dX7_record_38 : decode cX7_record 38 = .ok (.aload_n 0, 1) := by decide +kernel
theorem dX7_record_39 : decode cX7_record 39 = .ok (.dup, 1) := by decide +kernel
theorem dX7_record_40 : decode cX7_record 40 = .ok (.getfield 56, 3) := by decide +kernel
theorem dX7_record_43 : decode cX7_record 43 = .ok (.iconst 1, 1) := by decide +kernel
theorem dX7_record_44 : decode cX7_record 44 = .ok (.isub, 1) := by decide +kernel
theorem dX7_record_45 : decode cX7_record 45 = .ok (.putfield 56, 3) := by decide +kernel
theorem dX7_record_48 : decode cX7_record 48 = .ok (.iconst 0, 1) := by decide +kernel
theorem dX7_record_49 : decode cX7_record 49 = .ok (.istore_n 1, 1) := by decide +kernel
theorem dX7_record_50 : decode cX7_record 50 = .ok (.iload_n 1, 1) := by decide +kernel
theorem dX7_record_51 : decode cX7_record 51 = .ok (.bipush 59, 2) := by decide +kernel
theorem dX7_record_53 : decode cX7_record 53 = .ok (.if_icmp .ge 29, 3) := by decide +kernel
theorem dX7_record_56 : decode cX7_record 56 = .ok (.aload_n 0, 1) := by decide +kernel
theorem dX7_record_57 : decode cX7_record 57 = .ok (.getfield 13, 3) := by decide +kernel
theorem dX7_record_60 : decode cX7_record 60 = .ok (.bipush 59, 2) := by decide +kernel
theorem dX7_record_62 : decode cX7_record 62 = .ok (.aload_n 0, 1) := by decide +kernel
theorem dX7_record_63 : decode cX7_record 63 = .ok (.getfield 56, 3) := by decide +kernel
theorem dX7_record_66 : decode cX7_record 66 = .ok (.imul, 1) := by decide +kernel
theorem dX7_record_67 : decode cX7_record 67 = .ok (.iload_n 1, 1) := by decide +kernel
theorem dX7_record_68 : decode cX7_record 68 = .ok (.iadd, 1) := by decide +kernel
theorem dX7_record_69 : decode cX7_record 69 = .ok (.aload_n 0, 1) := by decide +kernel
theorem dX7_record_70 : decode cX7_record 70 = .ok (.getfield 7, 3) := by decide +kernel
theorem dX7_record_73 : decode cX7_record 73 = .ok (.iload_n 1, 1) := by decide +kernel
theorem dX7_record_74 : decode cX7_record 74 = .ok (.iaload, 1) := by decide +kernel
theorem dX7_record_75 : decode cX7_record 75 = .ok (.iastore, 1) := by decide +kernel
theorem dX7_record_76 : decode cX7_record 76 = .ok (.iinc 1 1, 3) := by decide +kernel
theorem dX7_record_79 : decode cX7_record 79 = .ok (.goto (-29), 3) := by decide +kernel
theorem dX7_record_82 : decode cX7_record 82 = .ok (.aload_n 0, 1) := by decide +kernel
theorem dX7_record_83 : decode cX7_record 83 = .ok (.dup, 1) := by decide +kernel
theorem dX7_record_84 : decode cX7_record 84 = .ok (.getfield 56, 3) := by decide +kernel
theorem dX7_record_87 : decode cX7_record 87 = .ok (.iconst 1, 1) := by decide +kernel
theorem dX7_record_88 : decode cX7_record 88 = .ok (.iadd, 1) := by decide +kernel
theorem dX7_record_89 : decode cX7_record 89 = .ok (.putfield 56, 3) := by decide +kernel
theorem dX7_record_92 : decode cX7_record 92 = .ok (.return_, 1) := by decide +kernel
set_option maxRecDepth 20000 in
theorem ggX7_colourIn_X7_of : GoodIn wsX7_colourIn wsX7_of := goodIn_r _ [6, 7, 8, 9, 10, 11, 12, 13, 14, 15, 16, 17, 18, 19, 20, 21, 22, 23, 24, 25, 26] (by decide +kernel) (by decide +kernel)
set_option maxRecDepth 20000 in
theorem gX7_colourIn_X7_of : GoodIn wsX7_colourIn (wsV RX7 48 RX7 yX7_of wsX7_of) := goodIn_app (goodIn_of _ (by decide +kernel)) ggX7_colourIn_X7_of
theorem dX7_colourIn_0 : decode cX7_colourIn 0 = .ok (.aload_n 0, 1) := by decide +kernel
theorem dX7_colourIn_1 : decode cX7_colourIn 1 = .ok (.iload_n 1, 1) := by decide +kernel
theorem dX7_colourIn_2 : decode cX7_colourIn 2 = .ok (.iconst 1, 1) := by decide +kernel
theorem dX7_colourIn_3 : decode cX7_colourIn 3 = .ok (.invokevirtual 48, 3) := by decide +kernel
theorem dX7_colourIn_6 : decode cX7_colourIn 6 = .ok (.aload_n 0, 1) := by decide +kernel
theorem dX7_colourIn_7 : decode cX7_colourIn 7 = .ok (.getfield 60, 3) := by decide +kernel
theorem dX7_colourIn_10 : decode cX7_colourIn 10 = .ok (.iadd, 1) := by decide +kernel
theorem dX7_colourIn_11 : decode cX7_colourIn 11 = .ok (.ireturn, 1) := by decide +kernel
set_option maxRecDepth 20000 in
theorem ggX7_ownerIn_X7_of : GoodIn wsX7_ownerIn wsX7_of := goodIn_r _ [6, 7, 8, 9, 10, 11, 12, 13, 14, 15, 16, 17, 18, 19, 20, 21, 22, 23, 24, 25, 26] (by decide +kernel) (by decide +kernel)
set_option maxRecDepth 20000 in
theorem gX7_ownerIn_X7_of : GoodIn wsX7_ownerIn (wsV RX7 48 RX7 yX7_of wsX7_of) := goodIn_app (goodIn_of _ (by decide +kernel)) ggX7_ownerIn_X7_of
theorem dX7_ownerIn_0 : decode cX7_ownerIn 0 = .ok (.aload_n 0, 1) := by decide +kernel
theorem dX7_ownerIn_1 : decode cX7_ownerIn 1 = .ok (.getfield 60, 3) := by decide +kernel
theorem dX7_ownerIn_4 : decode cX7_ownerIn 4 = .ok (.ifCond .ne 12, 3) := by decide +kernel
theorem dX7_ownerIn_7 : decode cX7_ownerIn 7 = .ok (.aload_n 0, 1) := by decide +kernel
theorem dX7_ownerIn_8 : decode cX7_ownerIn 8 = .ok (.iload_n 1, 1) := by decide +kernel
theorem dX7_ownerIn_9 : decode cX7_ownerIn 9 = .ok (.iconst 0, 1) := by decide +kernel
theorem dX7_ownerIn_10 : decode cX7_ownerIn 10 = .ok (.invokevirtual 48, 3) := by decide +kernel
theorem dX7_ownerIn_13 : decode cX7_ownerIn 13 = .ok (.goto 11, 3) := by decide +kernel
theorem dX7_ownerIn_16 : decode cX7_ownerIn 16 = .ok (.iconst 1, 1) := by decide +kernel
theorem dX7_ownerIn_17 : decode cX7_ownerIn 17 = .ok (.aload_n 0, 1) := by decide +kernel
theorem dX7_ownerIn_18 : decode cX7_ownerIn 18 = .ok (.iload_n 1, 1) := by decide +kernel
theorem dX7_ownerIn_19 : decode cX7_ownerIn 19 = .ok (.iconst 0, 1) := by decide +kernel
theorem dX7_ownerIn_20 : decode cX7_ownerIn 20 = .ok (.invokevirtual 48, 3) := by decide +kernel
theorem dX7_ownerIn_23 : decode cX7_ownerIn 23 = .ok (.isub, 1) := by decide +kernel
theorem dX7_ownerIn_24 : decode cX7_ownerIn 24 = .ok (.ireturn, 1) := by decide +kernel
theorem dX7_wanted_0 : decode cX7_wanted 0 = .ok (.iload_n 2, 1) := by decide +kernel
theorem dX7_wanted_1 : decode cX7_wanted 1 = .ok (.ldc 63, 2) := by decide +kernel
theorem dX7_wanted_3 : decode cX7_wanted 3 = .ok (.if_icmp .ne 6, 3) := by decide +kernel
theorem dX7_wanted_6 : decode cX7_wanted 6 = .ok (.ldc 63, 2) := by decide +kernel
theorem dX7_wanted_8 : decode cX7_wanted 8 = .ok (.ireturn, 1) := by decide +kernel
theorem dX7_wanted_9 : decode cX7_wanted 9 = .ok (.iload_n 2, 1) := by decide +kernel
theorem dX7_wanted_10 : decode cX7_wanted 10 = .ok (.istore_n 3, 1) := by decide +kernel
theorem dX7_wanted_11 : decode cX7_wanted 11 = .ok (.iconst 3, 1) := by decide +kernel
theorem dX7_wanted_12 : decode cX7_wanted 12 = .ok (.istore 4, 2) := by decide +kernel
theorem dX7_wanted_14 : decode cX7_wanted 14 = .ok (.iload 4, 2) := by decide +kernel
theorem dX7_wanted_16 : decode cX7_wanted 16 = .ok (.ifCond .lt 39, 3) := by decide +kernel
theorem dX7_wanted_19 : decode cX7_wanted 19 = .ok (.aload_n 0, 1) := by decide +kernel
theorem dX7_wanted_20 : decode cX7_wanted 20 = .ok (.getfield 25, 3) := by decide +kernel
theorem dX7_wanted_23 : decode cX7_wanted 23 = .ok (.iload 4, 2) := by decide +kernel
theorem dX7_wanted_25 : decode cX7_wanted 25 = .ok (.iconst 2, 1) := by decide +kernel
theorem dX7_wanted_26 : decode cX7_wanted 26 = .ok (.iload 4, 2) := by decide +kernel
theorem dX7_wanted_28 : decode cX7_wanted 28 = .ok (.imul, 1) := by decide +kernel
theorem dX7_wanted_29 : decode cX7_wanted 29 = .ok (.iconst 1, 1) := by decide +kernel
theorem dX7_wanted_30 : decode cX7_wanted 30 = .ok (.iadd, 1) := by decide +kernel
theorem dX7_wanted_31 : decode cX7_wanted 31 = .ok (.iload_n 1, 1) := by decide +kernel
theorem dX7_wanted_32 : decode cX7_wanted 32 = .ok (.if_icmp .le 7, 3) := by decide +kernel
theorem dX7_wanted_35 : decode cX7_wanted 35 = .ok (.iconst 0, 1) := by decide +kernel
theorem dX7_wanted_36 : decode cX7_wanted 36 = .ok (.goto 7, 3) := by decide +kernel
theorem dX7_wanted_39 : decode cX7_wanted 39 = .ok (.iload_n 3, 1) := by decide +kernel
theorem dX7_wanted_40 : decode cX7_wanted 40 = .ok (.bipush 15, 2) := by decide +kernel
theorem dX7_wanted_42 : decode cX7_wanted 42 = .ok (.irem, 1) := by decide +kernel
theorem dX7_wanted_43 : decode cX7_wanted 43 = .ok (.iastore, 1) := by decide +kernel
theorem dX7_wanted_44 : decode cX7_wanted 44 = .ok (.iload_n 3, 1) := by decide +kernel
theorem dX7_wanted_45 : decode cX7_wanted 45 = .ok (.bipush 15, 2) := by decide +kernel
theorem dX7_wanted_47 : decode cX7_wanted 47 = .ok (.idiv, 1) := by decide +kernel
theorem dX7_wanted_48 : decode cX7_wanted 48 = .ok (.istore_n 3, 1) := by decide +kernel
theorem dX7_wanted_49 : decode cX7_wanted 49 = .ok (.iinc 4 (-1), 3) := by decide +kernel
theorem dX7_wanted_52 : decode cX7_wanted 52 = .ok (.goto (-38), 3) := by decide +kernel
theorem dX7_wanted_55 : decode cX7_wanted 55 = .ok (.iload_n 1, 1) := by decide +kernel
theorem dX7_wanted_56 : decode cX7_wanted 56 = .ok (.iconst 2, 1) := by decide +kernel
theorem dX7_wanted_57 : decode cX7_wanted 57 = .ok (.irem, 1) := by decide +kernel
theorem dX7_wanted_58 : decode cX7_wanted 58 = .ok (.iconst 1, 1) := by decide +kernel
theorem dX7_wanted_59 : decode cX7_wanted 59 = .ok (.if_icmp .ne 81, 3) := by decide +kernel
theorem dX7_wanted_62 : decode cX7_wanted 62 = .ok (.iload_n 1, 1) := by decide +kernel
theorem dX7_wanted_63 : decode cX7_wanted 63 = .ok (.iconst 1, 1) := by decide +kernel
theorem dX7_wanted_64 : decode cX7_wanted 64 = .ok (.isub, 1) := by decide +kernel
theorem dX7_wanted_65 : decode cX7_wanted 65 = .ok (.iconst 2, 1) := by decide +kernel
theorem dX7_wanted_66 : decode cX7_wanted 66 = .ok (.idiv, 1) := by decide +kernel
theorem dX7_wanted_67 : decode cX7_wanted 67 = .ok (.istore 4, 2) := by decide +kernel
theorem dX7_wanted_69 : decode cX7_wanted 69 = .ok (.aload_n 0, 1) := by decide +kernel
theorem dX7_wanted_70 : decode cX7_wanted 70 = .ok (.getfield 25, 3) := by decide +kernel
theorem dX7_wanted_73 : decode cX7_wanted 73 = .ok (.iload 4, 2) := by decide +kernel
theorem dX7_wanted_75 : decode cX7_wanted 75 = .ok (.dup2, 1) := by decide +kernel
theorem dX7_wanted_76 : decode cX7_wanted 76 = .ok (.iaload, 1) := by decide +kernel
theorem dX7_wanted_77 : decode cX7_wanted 77 = .ok (.iconst 1, 1) := by decide +kernel
theorem dX7_wanted_78 : decode cX7_wanted 78 = .ok (.iadd, 1) := by decide +kernel
theorem dX7_wanted_79 : decode cX7_wanted 79 = .ok (.iastore, 1) := by decide +kernel
theorem dX7_wanted_80 : decode cX7_wanted 80 = .ok (.iload 4, 2) := by decide +kernel
theorem dX7_wanted_82 : decode cX7_wanted 82 = .ok (.ifCond .lt 50, 3) := by decide +kernel
theorem dX7_wanted_85 : decode cX7_wanted 85 = .ok (.aload_n 0, 1) := by decide +kernel
theorem dX7_wanted_86 : decode cX7_wanted 86 = .ok (.getfield 25, 3) := by decide +kernel
theorem dX7_wanted_89 : decode cX7_wanted 89 = .ok (.iload 4, 2) := by decide +kernel
theorem dX7_wanted_91 : decode cX7_wanted 91 = .ok (.iaload, 1) := by decide +kernel
theorem dX7_wanted_92 : decode cX7_wanted 92 = .ok (.aload_n 0, 1) := by decide +kernel
theorem dX7_wanted_93 : decode cX7_wanted 93 = .ok (.getfield 22, 3) := by decide +kernel
theorem dX7_wanted_96 : decode cX7_wanted 96 = .ok (.iload 4, 2) := by decide +kernel
theorem dX7_wanted_98 : decode cX7_wanted 98 = .ok (.iaload, 1) := by decide +kernel
theorem dX7_wanted_99 : decode cX7_wanted 99 = .ok (.if_icmp .le 33, 3) := by decide +kernel
theorem dX7_wanted_102 : decode cX7_wanted 102 = .ok (.aload_n 0, 1) := by decide +kernel
theorem dX7_wanted_103 : decode cX7_wanted 103 = .ok (.getfield 25, 3) := by decide +kernel
theorem dX7_wanted_106 : decode cX7_wanted 106 = .ok (.iload 4, 2) := by decide +kernel
theorem dX7_wanted_108 : decode cX7_wanted 108 = .ok (.iconst 0, 1) := by decide +kernel
theorem dX7_wanted_109 : decode cX7_wanted 109 = .ok (.iastore, 1) := by decide +kernel
theorem dX7_wanted_110 : decode cX7_wanted 110 = .ok (.iinc 4 (-1), 3) := by decide +kernel
theorem dX7_wanted_113 : decode cX7_wanted 113 = .ok (.iload 4, 2) := by decide +kernel
theorem dX7_wanted_115 : decode cX7_wanted 115 = .ok (.ifCond .lt (-35), 3) := by decide +kernel
theorem dX7_wanted_118 : decode cX7_wanted 118 = .ok (.aload_n 0, 1) := by decide +kernel
theorem dX7_wanted_119 : decode cX7_wanted 119 = .ok (.getfield 25, 3) := by decide +kernel
theorem dX7_wanted_122 : decode cX7_wanted 122 = .ok (.iload 4, 2) := by decide +kernel
theorem dX7_wanted_124 : decode cX7_wanted 124 = .ok (.dup2, 1) := by decide +kernel
theorem dX7_wanted_125 : decode cX7_wanted 125 = .ok (.iaload, 1) := by decide +kernel
theorem dX7_wanted_126 : decode cX7_wanted 126 = .ok (.iconst 1, 1) := by decide +kernel
theorem dX7_wanted_127 : decode cX7_wanted 127 = .ok (.iadd, 1) := by decide +kernel
theorem dX7_wanted_128 : decode cX7_wanted 128 = .ok (.iastore, 1) := by decide +kernel
theorem dX7_wanted_129 : decode cX7_wanted 129 = .ok (.goto (-49), 3) := by decide +kernel
theorem dX7_wanted_132 : decode cX7_wanted 132 = .ok (.iload 4, 2) := by decide +kernel
theorem dX7_wanted_134 : decode cX7_wanted 134 = .ok (.ifCond .ge 6, 3) := by decide +kernel
theorem dX7_wanted_137 : decode cX7_wanted 137 = .ok (.ldc 63, 2) := by decide +kernel
theorem dX7_wanted_139 : decode cX7_wanted 139 = .ok (.ireturn, 1) := by decide +kernel
theorem dX7_wanted_140 : decode cX7_wanted 140 = .ok (.bipush 15, 2) := by decide +kernel
theorem dX7_wanted_142 : decode cX7_wanted 142 = .ok (.bipush 15, 2) := by decide +kernel
theorem dX7_wanted_144 : decode cX7_wanted 144 = .ok (.bipush 15, 2) := by decide +kernel
theorem dX7_wanted_146 : decode cX7_wanted 146 = .ok (.aload_n 0, 1) := by decide +kernel
theorem dX7_wanted_147 : decode cX7_wanted 147 = .ok (.getfield 25, 3) := by decide +kernel
theorem dX7_wanted_150 : decode cX7_wanted 150 = .ok (.iconst 0, 1) := by decide +kernel
theorem dX7_wanted_151 : decode cX7_wanted 151 = .ok (.iaload, 1) := by decide +kernel
theorem dX7_wanted_152 : decode cX7_wanted 152 = .ok (.imul, 1) := by decide +kernel
theorem dX7_wanted_153 : decode cX7_wanted 153 = .ok (.aload_n 0, 1) := by decide +kernel
theorem dX7_wanted_154 : decode cX7_wanted 154 = .ok (.getfield 25, 3) := by decide +kernel
theorem dX7_wanted_157 : decode cX7_wanted 157 = .ok (.iconst 1, 1) := by decide +kernel
theorem dX7_wanted_158 : decode cX7_wanted 158 = .ok (.iaload, 1) := by decide +kernel
theorem dX7_wanted_159 : decode cX7_wanted 159 = .ok (.iadd, 1) := by decide +kernel
theorem dX7_wanted_160 : decode cX7_wanted 160 = .ok (.imul, 1) := by decide +kernel
theorem dX7_wanted_161 : decode cX7_wanted 161 = .ok (.aload_n 0, 1) := by decide +kernel
theorem dX7_wanted_162 : decode cX7_wanted 162 = .ok (.getfield 25, 3) := by decide +kernel
theorem dX7_wanted_165 : decode cX7_wanted 165 = .ok (.iconst 2, 1) := by decide +kernel
theorem dX7_wanted_166 : decode cX7_wanted 166 = .ok (.iaload, 1) := by decide +kernel
theorem dX7_wanted_167 : decode cX7_wanted 167 = .ok (.iadd, 1) := by decide +kernel
theorem dX7_wanted_168 : decode cX7_wanted 168 = .ok (.imul, 1) := by decide +kernel
theorem dX7_wanted_169 : decode cX7_wanted 169 = .ok (.aload_n 0, 1) := by decide +kernel
theorem dX7_wanted_170 : decode cX7_wanted 170 = .ok (.getfield 25, 3) := by decide +kernel
theorem dX7_wanted_173 : decode cX7_wanted 173 = .ok (.iconst 3, 1) := by decide +kernel
theorem dX7_wanted_174 : decode cX7_wanted 174 = .ok (.iaload, 1) := by decide +kernel
theorem dX7_wanted_175 : decode cX7_wanted 175 = .ok (.iadd, 1) := by decide +kernel
theorem dX7_wanted_176 : decode cX7_wanted 176 = .ok (.ireturn, 1) := by decide +kernel
set_option maxRecDepth 20000 in
theorem ggX7_asks_X7_ownerIn : GoodIn wsX7_asks wsX7_ownerIn := goodIn_r _ [8, 9, 10, 11, 12, 7, 13, 2, 28, 29, 30, 31, 32, 33, 34, 35, 36, 37, 38, 39, 40, 41, 42, 43, 44, 45, 46] (by decide +kernel) (by decide +kernel)
set_option maxRecDepth 20000 in
theorem gX7_asks_X7_ownerIn : GoodIn wsX7_asks (wsV RX7 64 RX7 yX7_ownerIn wsX7_ownerIn) := goodIn_app (goodIn_of _ (by decide +kernel)) ggX7_asks_X7_ownerIn
set_option maxRecDepth 20000 in
theorem ggX7_asks_X7_hasArrow : GoodIn wsX7_asks wsX7_hasArrow := goodIn_r _ [17, 10, 11, 12, 7, 13, 2, 28, 29, 30, 31, 32, 33, 34, 35, 36, 37, 38, 39, 40, 41, 42, 43, 44, 45, 46] (by decide +kernel) (by decide +kernel)
set_option maxRecDepth 20000 in
theorem gX7_asks_X7_hasArrow : GoodIn wsX7_asks (wsV RX7 67 RX7 yX7_hasArrow wsX7_hasArrow) := goodIn_app (goodIn_of _ (by decide +kernel)) ggX7_asks_X7_hasArrow
set_option maxRecDepth 20000 in
theorem ggX7_asks_X7_colourIn : GoodIn wsX7_asks wsX7_colourIn := goodIn_r _ [21, 9, 10, 11, 12, 7, 13, 2, 28, 29, 30, 31, 32, 33, 34, 35, 36, 37, 38, 39, 40, 41, 42, 43, 44, 45, 46] (by decide +kernel) (by decide +kernel)
set_option maxRecDepth 20000 in
theorem gX7_asks_X7_colourIn : GoodIn wsX7_asks (wsV RX7 71 RX7 yX7_colourIn wsX7_colourIn) := goodIn_app (goodIn_of _ (by decide +kernel)) ggX7_asks_X7_colourIn
set_option maxRecDepth 20000 in
theorem ggX7_asks_X7_wanted : GoodIn wsX7_asks wsX7_wanted := goodIn_r _ [25, 1, 26, 27, 28, 29, 30, 31, 32, 33, 34, 35, 36, 37, 38, 39, 40, 41, 42, 43, 44, 45, 46] (by decide +kernel) (by decide +kernel)
set_option maxRecDepth 20000 in
theorem gX7_asks_X7_wanted : GoodIn wsX7_asks (wsV RX7 74 RX7 yX7_wanted wsX7_wanted) := goodIn_app (goodIn_of _ (by decide +kernel)) ggX7_asks_X7_wanted
theorem dX7_asks_0 : decode cX7_asks 0 = .ok (.aload_n 0, 1) := by decide +kernel
theorem dX7_asks_1 : decode cX7_asks 1 = .ok (.iload_n 1, 1) := by decide +kernel
theorem dX7_asks_2 : decode cX7_asks 2 = .ok (.invokevirtual 64, 3) := by decide +kernel
theorem dX7_asks_5 : decode cX7_asks 5 = .ok (.ifCond .ne 7, 3) := by decide +kernel
theorem dX7_asks_8 : decode cX7_asks 8 = .ok (.iconst 1, 1) := by decide +kernel
theorem dX7_asks_9 : decode cX7_asks 9 = .ok (.goto 4, 3) := by decide +kernel
theorem dX7_asks_12 : decode cX7_asks 12 = .ok (.iconst 0, 1) := by decide +kernel
theorem dX7_asks_13 : decode cX7_asks 13 = .ok (.istore_n 2, 1) := by decide +kernel
theorem dX7_asks_14 : decode cX7_asks 14 = .ok (.iload_n 2, 1) := by decide +kernel
theorem dX7_asks_15 : decode cX7_asks 15 = .ok (.ifCond .eq 8, 3) := by decide +kernel
theorem dX7_asks_18 : decode cX7_asks 18 = .ok (.ldc 63, 2) := by decide +kernel
theorem dX7_asks_20 : decode cX7_asks 20 = .ok (.goto 4, 3) := by decide +kernel
theorem dX7_asks_23 : decode cX7_asks 23 = .ok (.iconst 0, 1) := by decide +kernel
theorem dX7_asks_24 : decode cX7_asks 24 = .ok (.istore_n 3, 1) := by decide +kernel
theorem dX7_asks_25 : decode cX7_asks 25 = .ok (.iconst 0, 1) := by decide +kernel
theorem dX7_asks_26 : decode cX7_asks 26 = .ok (.istore 4, 2) := by decide +kernel
theorem dX7_asks_28 : decode cX7_asks 28 = .ok (.iload 4, 2) := by decide +kernel
theorem dX7_asks_30 : decode cX7_asks 30 = .ok (.aload_n 0, 1) := by decide +kernel
theorem dX7_asks_31 : decode cX7_asks 31 = .ok (.getfield 7, 3) := by decide +kernel
theorem dX7_asks_34 : decode cX7_asks 34 = .ok (.bipush 56, 2) := by decide +kernel
theorem dX7_asks_36 : decode cX7_asks 36 = .ok (.iaload, 1) := by decide +kernel
theorem dX7_asks_37 : decode cX7_asks 37 = .ok (.if_icmp .ge 69, 3) := by decide +kernel
theorem dX7_asks_40 : decode cX7_asks 40 = .ok (.aload_n 0, 1) := by decide +kernel
theorem dX7_asks_41 : decode cX7_asks 41 = .ok (.iload_n 1, 1) := by decide +kernel
theorem dX7_asks_42 : decode cX7_asks 42 = .ok (.iload 4, 2) := by decide +kernel
theorem dX7_asks_44 : decode cX7_asks 44 = .ok (.invokevirtual 67, 3) := by decide +kernel
theorem dX7_asks_47 : decode cX7_asks 47 = .ok (.ifCond .eq 53, 3) := by decide +kernel
theorem dX7_asks_50 : decode cX7_asks 50 = .ok (.aload_n 0, 1) := by decide +kernel
theorem dX7_asks_51 : decode cX7_asks 51 = .ok (.aload_n 0, 1) := by decide +kernel
theorem dX7_asks_52 : decode cX7_asks 52 = .ok (.iload_n 1, 1) := by decide +kernel
theorem dX7_asks_53 : decode cX7_asks 53 = .ok (.invokevirtual 71, 3) := by decide +kernel
theorem dX7_asks_56 : decode cX7_asks 56 = .ok (.aload_n 0, 1) := by decide +kernel
theorem dX7_asks_57 : decode cX7_asks 57 = .ok (.getfield 19, 3) := by decide +kernel
theorem dX7_asks_60 : decode cX7_asks 60 = .ok (.iload 4, 2) := by decide +kernel
theorem dX7_asks_62 : decode cX7_asks 62 = .ok (.iaload, 1) := by decide +kernel
theorem dX7_asks_63 : decode cX7_asks 63 = .ok (.invokevirtual 74, 3) := by decide +kernel
theorem dX7_asks_66 : decode cX7_asks 66 = .ok (.istore 5, 2) := by decide +kernel
theorem dX7_asks_68 : decode cX7_asks 68 = .ok (.iload_n 2, 1) := by decide +kernel
theorem dX7_asks_69 : decode cX7_asks 69 = .ok (.ifCond .eq 18, 3) := by decide +kernel
theorem dX7_asks_72 : decode cX7_asks 72 = .ok (.iload 5, 2) := by decide +kernel
theorem dX7_asks_74 : decode cX7_asks 74 = .ok (.iload_n 3, 1) := by decide +kernel
theorem dX7_asks_75 : decode cX7_asks 75 = .ok (.if_icmp .ge 8, 3) := by decide +kernel
theorem dX7_asks_78 : decode cX7_asks 78 = .ok (.iload 5, 2) := by decide +kernel
theorem dX7_asks_80 : decode cX7_asks 80 = .ok (.goto 19, 3) := by decide +kernel
theorem dX7_asks_83 : decode cX7_asks 83 = .ok (.iload_n 3, 1) := by decide +kernel
theorem dX7_asks_84 : decode cX7_asks 84 = .ok (.goto 15, 3) := by decide +kernel
theorem dX7_asks_87 : decode cX7_asks 87 = .ok (.iload 5, 2) := by decide +kernel
theorem dX7_asks_89 : decode cX7_asks 89 = .ok (.iload_n 3, 1) := by decide +kernel
theorem dX7_asks_90 : decode cX7_asks 90 = .ok (.if_icmp .le 8, 3) := by decide +kernel
theorem dX7_asks_93 : decode cX7_asks 93 = .ok (.iload 5, 2) := by decide +kernel
theorem dX7_asks_95 : decode cX7_asks 95 = .ok (.goto 4, 3) := by decide +kernel
theorem dX7_asks_98 : decode cX7_asks 98 = .ok (.iload_n 3, 1) := by decide +kernel
theorem dX7_asks_99 : decode cX7_asks 99 = .ok (.istore_n 3, 1) := by decide +kernel
theorem dX7_asks_100 : decode cX7_asks 100 = .ok (.iinc 4 1, 3) := by decide +kernel
theorem dX7_asks_103 : decode cX7_asks 103 = .ok (.goto (-75), 3) := by decide +kernel
theorem dX7_asks_106 : decode cX7_asks 106 = .ok (.iload_n 3, 1) := by decide +kernel
theorem dX7_asks_107 : decode cX7_asks 107 = .ok (.ireturn, 1) := by decide +kernel
set_option maxRecDepth 20000 in
theorem ggX7_finds_X7_colourIn : GoodIn wsX7_finds wsX7_colourIn := goodIn_r _ [10, 1, 11, 12, 13, 9, 14, 2, 33, 34, 35, 36, 37, 38, 39, 40, 41, 42, 43, 44, 45, 46, 47, 48, 49, 50, 51] (by decide +kernel) (by decide +kernel)
set_option maxRecDepth 20000 in
theorem gX7_finds_X7_colourIn : GoodIn wsX7_finds (wsV RX7 71 RX7 yX7_colourIn wsX7_colourIn) := goodIn_app (goodIn_of _ (by decide +kernel)) ggX7_finds_X7_colourIn
set_option maxRecDepth 20000 in
theorem ggX7_finds_X7_asks : GoodIn wsX7_finds wsX7_asks := goodIn_r _ [18, 19, 2, 4, 20, 21, 22, 9, 23, 1, 11, 12, 13, 14, 24, 25, 26, 27, 6, 7, 8, 10, 28, 29, 30, 31, 32, 3, 33, 34, 35, 36, 37, 38, 39, 40, 41, 42, 43, 44, 45, 46, 47, 48, 49, 50, 51] (by decide +kernel) (by decide +kernel)
set_option maxRecDepth 20000 in
theorem gX7_finds_X7_asks : GoodIn wsX7_finds (wsV RX7 80 RX7 yX7_asks wsX7_asks) := goodIn_app (goodIn_of _ (by decide +kernel)) ggX7_finds_X7_asks
theorem dX7_finds_0 : decode cX7_finds 0 = .ok (.aload_n 0, 1) := by decide +kernel
theorem dX7_finds_1 : decode cX7_finds 1 = .ok (.iload_n 1, 1) := by decide +kernel
theorem dX7_finds_2 : decode cX7_finds 2 = .ok (.putfield 60, 3) := by decide +kernel
theorem dX7_finds_5 : decode cX7_finds 5 = .ok (.aload_n 0, 1) := by decide +kernel
theorem dX7_finds_6 : decode cX7_finds 6 = .ok (.getfield 7, 3) := by decide +kernel
theorem dX7_finds_9 : decode cX7_finds 9 = .ok (.bipush 56, 2) := by decide +kernel
theorem dX7_finds_11 : decode cX7_finds 11 = .ok (.iaload, 1) := by decide +kernel
theorem dX7_finds_12 : decode cX7_finds 12 = .ok (.istore_n 2, 1) := by decide +kernel
theorem dX7_finds_13 : decode cX7_finds 13 = .ok (.iconst 0, 1) := by decide +kernel
theorem dX7_finds_14 : decode cX7_finds 14 = .ok (.istore_n 3, 1) := by decide +kernel
theorem dX7_finds_15 : decode cX7_finds 15 = .ok (.iload_n 3, 1) := by decide +kernel
theorem dX7_finds_16 : decode cX7_finds 16 = .ok (.iconst 4, 1) := by decide +kernel
theorem dX7_finds_17 : decode cX7_finds 17 = .ok (.if_icmp .ge 16, 3) := by decide +kernel
theorem dX7_finds_20 : decode cX7_finds 20 = .ok (.aload_n 0, 1) := by decide +kernel
theorem dX7_finds_21 : decode cX7_finds 21 = .ok (.getfield 22, 3) := by decide +kernel
theorem dX7_finds_24 : decode cX7_finds 24 = .ok (.iload_n 3, 1) := by decide +kernel
theorem dX7_finds_25 : decode cX7_finds 25 = .ok (.iconst 0, 1) := by decide +kernel
theorem dX7_finds_26 : decode cX7_finds 26 = .ok (.iastore, 1) := by decide +kernel
theorem dX7_finds_27 : decode cX7_finds 27 = .ok (.iinc 3 1, 3) := by decide +kernel
theorem dX7_finds_30 : decode cX7_finds 30 = .ok (.goto (-15), 3) := by decide +kernel
theorem dX7_finds_33 : decode cX7_finds 33 = .ok (.iconst 0, 1) := by decide +kernel
theorem dX7_finds_34 : decode cX7_finds 34 = .ok (.istore_n 3, 1) := by decide +kernel
theorem dX7_finds_35 : decode cX7_finds 35 = .ok (.iload_n 3, 1) := by decide +kernel
theorem dX7_finds_36 : decode cX7_finds 36 = .ok (.iload_n 2, 1) := by decide +kernel
theorem dX7_finds_37 : decode cX7_finds 37 = .ok (.if_icmp .ge 46, 3) := by decide +kernel
theorem dX7_finds_40 : decode cX7_finds 40 = .ok (.aload_n 0, 1) := by decide +kernel
theorem dX7_finds_41 : decode cX7_finds 41 = .ok (.getfield 19, 3) := by decide +kernel
theorem dX7_finds_44 : decode cX7_finds 44 = .ok (.iload_n 3, 1) := by decide +kernel
theorem dX7_finds_45 : decode cX7_finds 45 = .ok (.iconst 0, 1) := by decide +kernel
theorem dX7_finds_46 : decode cX7_finds 46 = .ok (.iastore, 1) := by decide +kernel
theorem dX7_finds_47 : decode cX7_finds 47 = .ok (.aload_n 0, 1) := by decide +kernel
theorem dX7_finds_48 : decode cX7_finds 48 = .ok (.iload_n 3, 1) := by decide +kernel
theorem dX7_finds_49 : decode cX7_finds 49 = .ok (.invokevirtual 71, 3) := by decide +kernel
theorem dX7_finds_52 : decode cX7_finds 52 = .ok (.istore 4, 2) := by decide +kernel
theorem dX7_finds_54 : decode cX7_finds 54 = .ok (.iload 4, 2) := by decide +kernel
theorem dX7_finds_56 : decode cX7_finds 56 = .ok (.iconst 2, 1) := by decide +kernel
theorem dX7_finds_57 : decode cX7_finds 57 = .ok (.irem, 1) := by decide +kernel
theorem dX7_finds_58 : decode cX7_finds 58 = .ok (.iconst 1, 1) := by decide +kernel
theorem dX7_finds_59 : decode cX7_finds 59 = .ok (.if_icmp .ne 18, 3) := by decide +kernel
theorem dX7_finds_62 : decode cX7_finds 62 = .ok (.aload_n 0, 1) := by decide +kernel
theorem dX7_finds_63 : decode cX7_finds 63 = .ok (.getfield 22, 3) := by decide +kernel
theorem dX7_finds_66 : decode cX7_finds 66 = .ok (.iload 4, 2) := by decide +kernel
theorem dX7_finds_68 : decode cX7_finds 68 = .ok (.iconst 1, 1) := by decide +kernel
theorem dX7_finds_69 : decode cX7_finds 69 = .ok (.isub, 1) := by decide +kernel
theorem dX7_finds_70 : decode cX7_finds 70 = .ok (.iconst 2, 1) := by decide +kernel
theorem dX7_finds_71 : decode cX7_finds 71 = .ok (.idiv, 1) := by decide +kernel
theorem dX7_finds_72 : decode cX7_finds 72 = .ok (.dup2, 1) := by decide +kernel
theorem dX7_finds_73 : decode cX7_finds 73 = .ok (.iaload, 1) := by decide +kernel
theorem dX7_finds_74 : decode cX7_finds 74 = .ok (.iconst 1, 1) := by decide +kernel
theorem dX7_finds_75 : decode cX7_finds 75 = .ok (.iadd, 1) := by decide +kernel
theorem dX7_finds_76 : decode cX7_finds 76 = .ok (.iastore, 1) := by decide +kernel
theorem dX7_finds_77 : decode cX7_finds 77 = .ok (.iinc 3 1, 3) := by decide +kernel
theorem dX7_finds_80 : decode cX7_finds 80 = .ok (.goto (-45), 3) := by decide +kernel
theorem dX7_finds_83 : decode cX7_finds 83 = .ok (.aload_n 0, 1) := by decide +kernel
theorem dX7_finds_84 : decode cX7_finds 84 = .ok (.iconst 0, 1) := by decide +kernel
theorem dX7_finds_85 : decode cX7_finds 85 = .ok (.putfield 77, 3) := by decide +kernel
theorem dX7_finds_88 : decode cX7_finds 88 = .ok (.iconst 1, 1) := by decide +kernel
theorem dX7_finds_89 : decode cX7_finds 89 = .ok (.istore_n 3, 1) := by decide +kernel
theorem dX7_finds_90 : decode cX7_finds 90 = .ok (.iload_n 3, 1) := by decide +kernel
theorem dX7_finds_91 : decode cX7_finds 91 = .ok (.ifCond .eq 64, 3) := by decide +kernel
theorem dX7_finds_94 : decode cX7_finds 94 = .ok (.aload_n 0, 1) := by decide +kernel
theorem dX7_finds_95 : decode cX7_finds 95 = .ok (.dup, 1) := by decide +kernel
theorem dX7_finds_96 : decode cX7_finds 96 = .ok (.getfield 77, 3) := by decide +kernel
theorem dX7_finds_99 : decode cX7_finds 99 = .ok (.iconst 1, 1) := by decide +kernel
theorem dX7_finds_100 : decode cX7_finds 100 = .ok (.iadd, 1) := by decide +kernel
theorem dX7_finds_101 : decode cX7_finds 101 = .ok (.putfield 77, 3) := by decide +kernel
theorem dX7_finds_104 : decode cX7_finds 104 = .ok (.iconst 0, 1) := by decide +kernel
theorem dX7_finds_105 : decode cX7_finds 105 = .ok (.istore_n 3, 1) := by decide +kernel
theorem dX7_finds_106 : decode cX7_finds 106 = .ok (.iconst 0, 1) := by decide +kernel
theorem dX7_finds_107 : decode cX7_finds 107 = .ok (.istore 4, 2) := by decide +kernel
theorem dX7_finds_109 : decode cX7_finds 109 = .ok (.iload 4, 2) := by decide +kernel
theorem dX7_finds_111 : decode cX7_finds 111 = .ok (.iload_n 2, 1) := by decide +kernel
theorem dX7_finds_112 : decode cX7_finds 112 = .ok (.if_icmp .ge 40, 3) := by decide +kernel
theorem dX7_finds_115 : decode cX7_finds 115 = .ok (.aload_n 0, 1) := by decide +kernel
theorem dX7_finds_116 : decode cX7_finds 116 = .ok (.iload 4, 2) := by decide +kernel
theorem dX7_finds_118 : decode cX7_finds 118 = .ok (.invokevirtual 80, 3) := by decide +kernel
theorem dX7_finds_121 : decode cX7_finds 121 = .ok (.istore 5, 2) := by decide +kernel
theorem dX7_finds_123 : decode cX7_finds 123 = .ok (.aload_n 0, 1) := by decide +kernel
theorem dX7_finds_124 : decode cX7_finds 124 = .ok (.getfield 19, 3) := by decide +kernel
theorem dX7_finds_127 : decode cX7_finds 127 = .ok (.iload 4, 2) := by decide +kernel
theorem dX7_finds_129 : decode cX7_finds 129 = .ok (.iaload, 1) := by decide +kernel
theorem dX7_finds_130 : decode cX7_finds 130 = .ok (.iload 5, 2) := by decide +kernel
theorem dX7_finds_132 : decode cX7_finds 132 = .ok (.if_icmp .ge 14, 3) := by decide +kernel
theorem dX7_finds_135 : decode cX7_finds 135 = .ok (.aload_n 0, 1) := by decide +kernel
theorem dX7_finds_136 : decode cX7_finds 136 = .ok (.getfield 19, 3) := by decide +kernel
theorem dX7_finds_139 : decode cX7_finds 139 = .ok (.iload 4, 2) := by decide +kernel
theorem dX7_finds_141 : decode cX7_finds 141 = .ok (.iload 5, 2) := by decide +kernel
theorem dX7_finds_143 : decode cX7_finds 143 = .ok (.iastore, 1) := by decide +kernel
theorem dX7_finds_144 : decode cX7_finds 144 = .ok (.iconst 1, 1) := by decide +kernel
theorem dX7_finds_145 : decode cX7_finds 145 = .ok (.istore_n 3, 1) := by decide +kernel
theorem dX7_finds_146 : decode cX7_finds 146 = .ok (.iinc 4 1, 3) := by decide +kernel
theorem dX7_finds_149 : decode cX7_finds 149 = .ok (.goto (-40), 3) := by decide +kernel
theorem dX7_finds_152 : decode cX7_finds 152 = .ok (.goto (-62), 3) := by decide +kernel
theorem dX7_finds_155 : decode cX7_finds 155 = .ok (.return_, 1) := by decide +kernel
theorem dX7_won_0 : decode cX7_won 0 = .ok (.iconst 0, 1) := by decide +kernel
theorem dX7_won_1 : decode cX7_won 1 = .ok (.istore_n 1, 1) := by decide +kernel
theorem dX7_won_2 : decode cX7_won 2 = .ok (.iconst 0, 1) := by decide +kernel
theorem dX7_won_3 : decode cX7_won 3 = .ok (.istore_n 2, 1) := by decide +kernel
theorem dX7_won_4 : decode cX7_won 4 = .ok (.iload_n 2, 1) := by decide +kernel
theorem dX7_won_5 : decode cX7_won 5 = .ok (.aload_n 0, 1) := by decide +kernel
theorem dX7_won_6 : decode cX7_won 6 = .ok (.getfield 7, 3) := by decide +kernel
theorem dX7_won_9 : decode cX7_won 9 = .ok (.bipush 56, 2) := by decide +kernel
theorem dX7_won_11 : decode cX7_won 11 = .ok (.iaload, 1) := by decide +kernel
theorem dX7_won_12 : decode cX7_won 12 = .ok (.if_icmp .ge 30, 3) := by decide +kernel
theorem dX7_won_15 : decode cX7_won 15 = .ok (.iload_n 1, 1) := by decide +kernel
theorem dX7_won_16 : decode cX7_won 16 = .ok (.aload_n 0, 1) := by decide +kernel
theorem dX7_won_17 : decode cX7_won 17 = .ok (.getfield 19, 3) := by decide +kernel
theorem dX7_won_20 : decode cX7_won 20 = .ok (.iload_n 2, 1) := by decide +kernel
theorem dX7_won_21 : decode cX7_won 21 = .ok (.iaload, 1) := by decide +kernel
theorem dX7_won_22 : decode cX7_won 22 = .ok (.ldc 63, 2) := by decide +kernel
theorem dX7_won_24 : decode cX7_won 24 = .ok (.if_icmp .ne 7, 3) := by decide +kernel
theorem dX7_won_27 : decode cX7_won 27 = .ok (.iconst 0, 1) := by decide +kernel
theorem dX7_won_28 : decode cX7_won 28 = .ok (.goto 6, 3) := by decide +kernel
theorem dX7_won_31 : decode cX7_won 31 = .ok (.iconst 1, 1) := by decide +kernel
theorem dX7_won_32 : decode cX7_won 32 = .ok (.iload_n 2, 1) := by decide +kernel
theorem dX7_won_33 : decode cX7_won 33 = .ok (.ishl, 1) := by decide +kernel
theorem dX7_won_34 : decode cX7_won 34 = .ok (.ior, 1) := by decide +kernel
theorem dX7_won_35 : decode cX7_won 35 = .ok (.istore_n 1, 1) := by decide +kernel
theorem dX7_won_36 : decode cX7_won 36 = .ok (.iinc 2 1, 3) := by decide +kernel
theorem dX7_won_39 : decode cX7_won 39 = .ok (.goto (-35), 3) := by decide +kernel
theorem dX7_won_42 : decode cX7_won 42 = .ok (.iload_n 1, 1) := by decide +kernel
theorem dX7_won_43 : decode cX7_won 43 = .ok (.ireturn, 1) := by decide +kernel
set_option maxRecDepth 20000 in
theorem ggX7_winsOf_X7_finds : GoodIn wsX7_winsOf wsX7_finds := goodIn_r _ [5, 6, 7, 8, 9, 10, 11, 12, 13, 4, 14, 15, 16, 17, 18, 19, 20, 21, 22, 23, 24, 25, 26, 27, 28, 29, 30, 31, 32, 33, 34, 35, 36, 41, 42, 43, 44, 45, 46, 47, 48, 49, 50, 51, 52, 53, 54, 55, 56, 57, 58, 59] (by decide +kernel) (by decide +kernel)
set_option maxRecDepth 20000 in
theorem gX7_winsOf_X7_finds : GoodIn wsX7_winsOf (wsV RX7 83 RX7 yX7_finds wsX7_finds) := goodIn_app (goodIn_of _ (by decide +kernel)) ggX7_winsOf_X7_finds
set_option maxRecDepth 20000 in
theorem ggX7_winsOf_X7_won : GoodIn wsX7_winsOf wsX7_won := goodIn_r _ [40, 7, 9, 23, 41, 42, 43, 44, 45, 46, 47, 48, 49, 50, 51, 52, 53, 54, 55, 56, 57, 58, 59] (by decide +kernel) (by decide +kernel)
set_option maxRecDepth 20000 in
theorem gX7_winsOf_X7_won : GoodIn wsX7_winsOf (wsV RX7 87 RX7 yX7_won wsX7_won) := goodIn_app (goodIn_of _ (by decide +kernel)) ggX7_winsOf_X7_won
theorem dX7_winsOf_0 : decode cX7_winsOf 0 = .ok (.aload_n 0, 1) := by decide +kernel
theorem dX7_winsOf_1 : decode cX7_winsOf 1 = .ok (.iload_n 1, 1) := by decide +kernel
theorem dX7_winsOf_2 : decode cX7_winsOf 2 = .ok (.invokevirtual 83, 3) := by decide +kernel
theorem dX7_winsOf_5 : decode cX7_winsOf 5 = .ok (.aload_n 0, 1) := by decide +kernel
theorem dX7_winsOf_6 : decode cX7_winsOf 6 = .ok (.invokevirtual 87, 3) := by decide +kernel
theorem dX7_winsOf_9 : decode cX7_winsOf 9 = .ok (.ireturn, 1) := by decide +kernel
set_option maxRecDepth 20000 in
theorem ggX7_choiceAt_X7_hasArrow : GoodIn wsX7_choiceAt wsX7_hasArrow := goodIn_r _ [8, 9, 10, 11, 7, 12, 2, 24, 25, 26, 27, 28, 29, 30, 31, 32, 33, 34, 35, 36, 37, 38, 39, 40, 41, 42] (by decide +kernel) (by decide +kernel)
set_option maxRecDepth 20000 in
theorem gX7_choiceAt_X7_hasArrow : GoodIn wsX7_choiceAt (wsV RX7 67 RX7 yX7_hasArrow wsX7_hasArrow) := goodIn_app (goodIn_of _ (by decide +kernel)) ggX7_choiceAt_X7_hasArrow
set_option maxRecDepth 20000 in
theorem ggX7_choiceAt_X7_colourIn : GoodIn wsX7_choiceAt wsX7_colourIn := goodIn_r _ [16, 17, 9, 10, 11, 7, 12, 2, 24, 25, 26, 27, 28, 29, 30, 31, 32, 33, 34, 35, 36, 37, 38, 39, 40, 41, 42] (by decide +kernel) (by decide +kernel)
set_option maxRecDepth 20000 in
theorem gX7_choiceAt_X7_colourIn : GoodIn wsX7_choiceAt (wsV RX7 71 RX7 yX7_colourIn wsX7_colourIn) := goodIn_app (goodIn_of _ (by decide +kernel)) ggX7_choiceAt_X7_colourIn
set_option maxRecDepth 20000 in
theorem ggX7_choiceAt_X7_wanted : GoodIn wsX7_choiceAt wsX7_wanted := goodIn_r _ [21, 1, 22, 23, 24, 25, 26, 27, 28, 29, 30, 31, 32, 33, 34, 35, 36, 37, 38, 39, 40, 41, 42] (by decide +kernel) (by decide +kernel)
set_option maxRecDepth 20000 in
theorem gX7_choiceAt_X7_wanted : GoodIn wsX7_choiceAt (wsV RX7 74 RX7 yX7_wanted wsX7_wanted) := goodIn_app (goodIn_of _ (by decide +kernel)) ggX7_choiceAt_X7_wanted
theorem dX7_choiceAt_0 : decode cX7_choiceAt 0 = .ok (.bipush (-5), 2) := by decide +kernel
theorem dX7_choiceAt_2 : decode cX7_choiceAt 2 = .ok (.istore_n 2, 1) := by decide +kernel
theorem dX7_choiceAt_3 : decode cX7_choiceAt 3 = .ok (.ldc 63, 2) := by decide +kernel
theorem dX7_choiceAt_5 : decode cX7_choiceAt 5 = .ok (.istore_n 3, 1) := by decide +kernel
theorem dX7_choiceAt_6 : decode cX7_choiceAt 6 = .ok (.iconst 0, 1) := by decide +kernel
theorem dX7_choiceAt_7 : decode cX7_choiceAt 7 = .ok (.istore 4, 2) := by decide +kernel
theorem dX7_choiceAt_9 : decode cX7_choiceAt 9 = .ok (.iload 4, 2) := by decide +kernel
theorem dX7_choiceAt_11 : decode cX7_choiceAt 11 = .ok (.aload_n 0, 1) := by decide +kernel
theorem dX7_choiceAt_12 : decode cX7_choiceAt 12 = .ok (.getfield 7, 3) := by decide +kernel
theorem dX7_choiceAt_15 : decode cX7_choiceAt 15 = .ok (.bipush 56, 2) := by decide +kernel
theorem dX7_choiceAt_17 : decode cX7_choiceAt 17 = .ok (.iaload, 1) := by decide +kernel
theorem dX7_choiceAt_18 : decode cX7_choiceAt 18 = .ok (.if_icmp .ge 54, 3) := by decide +kernel
theorem dX7_choiceAt_21 : decode cX7_choiceAt 21 = .ok (.aload_n 0, 1) := by decide +kernel
theorem dX7_choiceAt_22 : decode cX7_choiceAt 22 = .ok (.iload_n 1, 1) := by decide +kernel
theorem dX7_choiceAt_23 : decode cX7_choiceAt 23 = .ok (.iload 4, 2) := by decide +kernel
theorem dX7_choiceAt_25 : decode cX7_choiceAt 25 = .ok (.invokevirtual 67, 3) := by decide +kernel
theorem dX7_choiceAt_28 : decode cX7_choiceAt 28 = .ok (.ifCond .eq 22, 3) := by decide +kernel
theorem dX7_choiceAt_31 : decode cX7_choiceAt 31 = .ok (.aload_n 0, 1) := by decide +kernel
theorem dX7_choiceAt_32 : decode cX7_choiceAt 32 = .ok (.aload_n 0, 1) := by decide +kernel
theorem dX7_choiceAt_33 : decode cX7_choiceAt 33 = .ok (.iload_n 1, 1) := by decide +kernel
theorem dX7_choiceAt_34 : decode cX7_choiceAt 34 = .ok (.invokevirtual 71, 3) := by decide +kernel
theorem dX7_choiceAt_37 : decode cX7_choiceAt 37 = .ok (.aload_n 0, 1) := by decide +kernel
theorem dX7_choiceAt_38 : decode cX7_choiceAt 38 = .ok (.getfield 19, 3) := by decide +kernel
theorem dX7_choiceAt_41 : decode cX7_choiceAt 41 = .ok (.iload 4, 2) := by decide +kernel
theorem dX7_choiceAt_43 : decode cX7_choiceAt 43 = .ok (.iaload, 1) := by decide +kernel
theorem dX7_choiceAt_44 : decode cX7_choiceAt 44 = .ok (.invokevirtual 74, 3) := by decide +kernel
theorem dX7_choiceAt_47 : decode cX7_choiceAt 47 = .ok (.goto 5, 3) := by decide +kernel
theorem dX7_choiceAt_50 : decode cX7_choiceAt 50 = .ok (.ldc 63, 2) := by decide +kernel
theorem dX7_choiceAt_52 : decode cX7_choiceAt 52 = .ok (.istore 5, 2) := by decide +kernel
theorem dX7_choiceAt_54 : decode cX7_choiceAt 54 = .ok (.iload 5, 2) := by decide +kernel
theorem dX7_choiceAt_56 : decode cX7_choiceAt 56 = .ok (.iload_n 3, 1) := by decide +kernel
theorem dX7_choiceAt_57 : decode cX7_choiceAt 57 = .ok (.if_icmp .ge 9, 3) := by decide +kernel
theorem dX7_choiceAt_60 : decode cX7_choiceAt 60 = .ok (.iload 5, 2) := by decide +kernel
theorem dX7_choiceAt_62 : decode cX7_choiceAt 62 = .ok (.istore_n 3, 1) := by decide +kernel
theorem dX7_choiceAt_63 : decode cX7_choiceAt 63 = .ok (.iload 4, 2) := by decide +kernel
theorem dX7_choiceAt_65 : decode cX7_choiceAt 65 = .ok (.istore_n 2, 1) := by decide +kernel
theorem dX7_choiceAt_66 : decode cX7_choiceAt 66 = .ok (.iinc 4 1, 3) := by decide +kernel
theorem dX7_choiceAt_69 : decode cX7_choiceAt 69 = .ok (.goto (-60), 3) := by decide +kernel
theorem dX7_choiceAt_72 : decode cX7_choiceAt 72 = .ok (.aload_n 0, 1) := by decide +kernel
theorem dX7_choiceAt_73 : decode cX7_choiceAt 73 = .ok (.getfield 19, 3) := by decide +kernel
theorem dX7_choiceAt_76 : decode cX7_choiceAt 76 = .ok (.iload_n 1, 1) := by decide +kernel
theorem dX7_choiceAt_77 : decode cX7_choiceAt 77 = .ok (.iaload, 1) := by decide +kernel
theorem dX7_choiceAt_78 : decode cX7_choiceAt 78 = .ok (.ldc 63, 2) := by decide +kernel
theorem dX7_choiceAt_80 : decode cX7_choiceAt 80 = .ok (.if_icmp .ne 8, 3) := by decide +kernel
theorem dX7_choiceAt_83 : decode cX7_choiceAt 83 = .ok (.bipush (-5), 2) := by decide +kernel
theorem dX7_choiceAt_85 : decode cX7_choiceAt 85 = .ok (.goto 4, 3) := by decide +kernel
theorem dX7_choiceAt_88 : decode cX7_choiceAt 88 = .ok (.iload_n 2, 1) := by decide +kernel
theorem dX7_choiceAt_89 : decode cX7_choiceAt 89 = .ok (.ireturn, 1) := by decide +kernel
set_option maxRecDepth 20000 in
theorem ggX7_bestChoice_X7_of : GoodIn wsX7_bestChoice wsX7_of := goodIn_r _ [5, 6, 41, 42, 43, 44, 45, 46, 47, 48, 49, 50, 51, 52, 53, 54, 55, 56, 57, 58, 59] (by decide +kernel) (by decide +kernel)
set_option maxRecDepth 20000 in
theorem gX7_bestChoice_X7_of : GoodIn wsX7_bestChoice (wsV RX7 48 RX7 yX7_of wsX7_of) := goodIn_app (goodIn_of _ (by decide +kernel)) ggX7_bestChoice_X7_of
set_option maxRecDepth 20000 in
theorem ggX7_bestChoice_X7_finds : GoodIn wsX7_bestChoice wsX7_finds := goodIn_r _ [10, 11, 6, 12, 13, 14, 15, 16, 17, 4, 18, 1, 2, 3, 5, 19, 20, 21, 22, 23, 24, 25, 26, 27, 28, 29, 30, 31, 32, 33, 34, 35, 36, 41, 42, 43, 44, 45, 46, 47, 48, 49, 50, 51, 52, 53, 54, 55, 56, 57, 58, 59] (by decide +kernel) (by decide +kernel)
set_option maxRecDepth 20000 in
theorem gX7_bestChoice_X7_finds : GoodIn wsX7_bestChoice (wsV RX7 83 RX7 yX7_finds wsX7_finds) := goodIn_app (goodIn_of _ (by decide +kernel)) ggX7_bestChoice_X7_finds
set_option maxRecDepth 20000 in
theorem ggX7_bestChoice_X7_choiceAt : GoodIn wsX7_bestChoice wsX7_choiceAt := goodIn_r _ [40, 23, 6, 13, 28, 29, 30, 4, 31, 1, 2, 3, 5, 15, 16, 17, 18, 11, 32, 33, 34, 35, 36, 12, 41, 42, 43, 44, 45, 46, 47, 48, 49, 50, 51, 52, 53, 54, 55, 56, 57, 58, 59] (by decide +kernel) (by decide +kernel)
set_option maxRecDepth 20000 in
theorem gX7_bestChoice_X7_choiceAt : GoodIn wsX7_bestChoice (wsV RX7 91 RX7 yX7_choiceAt wsX7_choiceAt) := goodIn_app (goodIn_of _ (by decide +kernel)) ggX7_bestChoice_X7_choiceAt
theorem dX7_bestChoice_0 : decode cX7_bestChoice 0 = .ok (.aload_n 0, 1) := by decide +kernel
theorem dX7_bestChoice_1 : decode cX7_bestChoice 1 = .ok (.aload_n 0, 1) := by decide +kernel
theorem dX7_bestChoice_2 : decode cX7_bestChoice 2 = .ok (.iload_n 1, 1) := by decide +kernel
theorem dX7_bestChoice_3 : decode cX7_bestChoice 3 = .ok (.iconst 0, 1) := by decide +kernel
theorem dX7_bestChoice_4 : decode cX7_bestChoice 4 = .ok (.invokevirtual 48, 3) := by decide +kernel
theorem dX7_bestChoice_7 : decode cX7_bestChoice 7 = .ok (.invokevirtual 83, 3) := by decide +kernel
theorem dX7_bestChoice_10 : decode cX7_bestChoice 10 = .ok (.aload_n 0, 1) := by decide +kernel
theorem dX7_bestChoice_11 : decode cX7_bestChoice 11 = .ok (.iload_n 1, 1) := by decide +kernel
theorem dX7_bestChoice_12 : decode cX7_bestChoice 12 = .ok (.invokevirtual 91, 3) := by decide +kernel
theorem dX7_bestChoice_15 : decode cX7_bestChoice 15 = .ok (.ireturn, 1) := by decide +kernel
set_option maxRecDepth 20000 in
theorem ggX7_winner_X7_winsOf : GoodIn wsX7_winner wsX7_winsOf := goodIn_r _ [5, 6, 7, 8, 4, 9, 10, 11, 12, 13, 14, 15, 16, 17, 18, 19, 20, 21, 22, 23, 24, 25, 26, 27, 28, 29, 30, 31, 32, 33, 34, 35, 36, 37, 38, 39, 40, 41, 42, 43, 44, 45, 46, 47, 48, 49, 50, 51, 52, 53, 54, 55, 56, 57, 58, 59, 60, 61, 62, 63] (by decide +kernel) (by decide +kernel)
set_option maxRecDepth 20000 in
theorem gX7_winner_X7_winsOf : GoodIn wsX7_winner (wsV RX7 94 RX7 yX7_winsOf wsX7_winsOf) := goodIn_app (goodIn_of _ (by decide +kernel)) ggX7_winner_X7_winsOf
theorem dX7_winner_0 : decode cX7_winner 0 = .ok (.aload_n 0, 1) := by decide +kernel
theorem dX7_winner_1 : decode cX7_winner 1 = .ok (.iconst 0, 1) := by decide +kernel
theorem dX7_winner_2 : decode cX7_winner 2 = .ok (.invokevirtual 94, 3) := by decide +kernel
theorem dX7_winner_5 : decode cX7_winner 5 = .ok (.iload_n 1, 1) := by decide +kernel
theorem dX7_winner_6 : decode cX7_winner 6 = .ok (.ishr, 1) := by decide +kernel
theorem dX7_winner_7 : decode cX7_winner 7 = .ok (.iconst 1, 1) := by decide +kernel
theorem dX7_winner_8 : decode cX7_winner 8 = .ok (.iand, 1) := by decide +kernel
theorem dX7_winner_9 : decode cX7_winner 9 = .ok (.iconst 1, 1) := by decide +kernel
theorem dX7_winner_10 : decode cX7_winner 10 = .ok (.if_icmp .ne 7, 3) := by decide +kernel
theorem dX7_winner_13 : decode cX7_winner 13 = .ok (.iconst 0, 1) := by decide +kernel
theorem dX7_winner_14 : decode cX7_winner 14 = .ok (.goto 4, 3) := by decide +kernel
theorem dX7_winner_17 : decode cX7_winner 17 = .ok (.iconst 1, 1) := by decide +kernel
theorem dX7_winner_18 : decode cX7_winner 18 = .ok (.ireturn, 1) := by decide +kernel
set_option maxRecDepth 20000 in
theorem ggX7_addPlace_X7_in : GoodIn wsX7_addPlace wsX7_in := goodIn_r _ [5] (by decide +kernel) (by decide +kernel)
set_option maxRecDepth 20000 in
theorem gX7_addPlace_X7_in : GoodIn wsX7_addPlace (va_wsS RX7 44 yX7_in wsX7_in) := goodIn_app (goodIn_of _ (by decide +kernel)) ggX7_addPlace_X7_in
set_option maxRecDepth 20000 in
theorem ggX7_addPlace_X7_record : GoodIn wsX7_addPlace wsX7_record := goodIn_r _ [9, 10, 11, 1, 16, 17, 18, 19, 20, 21, 22, 23, 24, 25, 26, 27, 28, 29, 30, 31, 32, 33, 34] (by decide +kernel) (by decide +kernel)
set_option maxRecDepth 20000 in
theorem gX7_addPlace_X7_record : GoodIn wsX7_addPlace (wsV RX7 97 RX7 yX7_record wsX7_record) := goodIn_app (goodIn_of _ (by decide +kernel)) ggX7_addPlace_X7_record
set_option maxRecDepth 20000 in
theorem ggX7_addPlace_X7_puts : GoodIn wsX7_addPlace wsX7_puts := goodIn_r _ [15, 1, 16, 17, 18, 19, 20, 21, 22, 23, 24, 25, 26, 27, 28, 29, 30, 31, 32, 33, 34] (by decide +kernel) (by decide +kernel)
set_option maxRecDepth 20000 in
theorem gX7_addPlace_X7_puts : GoodIn wsX7_addPlace (wsV RX7 100 RX7 yX7_puts wsX7_puts) := goodIn_app (goodIn_of _ (by decide +kernel)) ggX7_addPlace_X7_puts
theorem dX7_addPlace_0 : decode cX7_addPlace 0 = .ok (.iload_n 1, 1) := by decide +kernel
theorem dX7_addPlace_1 : decode cX7_addPlace 1 = .ok (.iconst 0, 1) := by decide +kernel
theorem dX7_addPlace_2 : decode cX7_addPlace 2 = .ok (.iconst 1, 1) := by decide +kernel
theorem dX7_addPlace_3 : decode cX7_addPlace 3 = .ok (.invokestatic 44, 3) := by decide +kernel
theorem dX7_addPlace_6 : decode cX7_addPlace 6 = .ok (.ifCond .eq 13, 3) := by decide +kernel
theorem dX7_addPlace_9 : decode cX7_addPlace 9 = .ok (.iload_n 2, 1) := by decide +kernel
theorem dX7_addPlace_10 : decode cX7_addPlace 10 = .ok (.iconst 0, 1) := by decide +kernel
theorem dX7_addPlace_11 : decode cX7_addPlace 11 = .ok (.bipush 7, 2) := by decide +kernel
theorem dX7_addPlace_13 : decode cX7_addPlace 13 = .ok (.invokestatic 44, 3) := by decide +kernel
theorem dX7_addPlace_16 : decode cX7_addPlace 16 = .ok (.ifCond .ne 6, 3) := by decide +kernel
theorem dX7_addPlace_19 : decode cX7_addPlace 19 = .ok (.bipush (-2), 2) := by decide +kernel
theorem dX7_addPlace_21 : decode cX7_addPlace 21 = .ok (.ireturn, 1) := by decide +kernel
theorem dX7_addPlace_22 : decode cX7_addPlace 22 = .ok (.aload_n 0, 1) := by decide +kernel
theorem dX7_addPlace_23 : decode cX7_addPlace 23 = .ok (.getfield 7, 3) := by decide +kernel
theorem dX7_addPlace_26 : decode cX7_addPlace 26 = .ok (.bipush 56, 2) := by decide +kernel
theorem dX7_addPlace_28 : decode cX7_addPlace 28 = .ok (.iaload, 1) := by decide +kernel
theorem dX7_addPlace_29 : decode cX7_addPlace 29 = .ok (.istore_n 3, 1) := by decide +kernel
theorem dX7_addPlace_30 : decode cX7_addPlace 30 = .ok (.iload_n 3, 1) := by decide +kernel
theorem dX7_addPlace_31 : decode cX7_addPlace 31 = .ok (.bipush 14, 2) := by decide +kernel
theorem dX7_addPlace_33 : decode cX7_addPlace 33 = .ok (.if_icmp .ne 6, 3) := by decide +kernel
theorem dX7_addPlace_36 : decode cX7_addPlace 36 = .ok (.bipush (-3), 2) := by decide +kernel
theorem dX7_addPlace_38 : decode cX7_addPlace 38 = .ok (.ireturn, 1) := by decide +kernel
theorem dX7_addPlace_39 : decode cX7_addPlace 39 = .ok (.aload_n 0, 1) := by decide +kernel
theorem dX7_addPlace_40 : decode cX7_addPlace 40 = .ok (.invokevirtual 97, 3) := by decide +kernel
theorem dX7_addPlace_43 : decode cX7_addPlace 43 = .ok (.aload_n 0, 1) := by decide +kernel
theorem dX7_addPlace_44 : decode cX7_addPlace 44 = .ok (.iload_n 3, 1) := by decide +kernel
theorem dX7_addPlace_45 : decode cX7_addPlace 45 = .ok (.iconst 0, 1) := by decide +kernel
theorem dX7_addPlace_46 : decode cX7_addPlace 46 = .ok (.iload_n 1, 1) := by decide +kernel
theorem dX7_addPlace_47 : decode cX7_addPlace 47 = .ok (.invokevirtual 100, 3) := by decide +kernel
theorem dX7_addPlace_50 : decode cX7_addPlace 50 = .ok (.aload_n 0, 1) := by decide +kernel
theorem dX7_addPlace_51 : decode cX7_addPlace 51 = .ok (.iload_n 3, 1) := by decide +kernel
theorem dX7_addPlace_52 : decode cX7_addPlace 52 = .ok (.iconst 1, 1) := by decide +kernel
theorem dX7_addPlace_53 : decode cX7_addPlace 53 = .ok (.iload_n 2, 1) := by decide +kernel
theorem dX7_addPlace_54 : decode cX7_addPlace 54 = .ok (.invokevirtual 100, 3) := by decide +kernel
theorem dX7_addPlace_57 : decode cX7_addPlace 57 = .ok (.aload_n 0, 1) := by decide +kernel
theorem dX7_addPlace_58 : decode cX7_addPlace 58 = .ok (.iload_n 3, 1) := by decide +kernel
theorem dX7_addPlace_59 : decode cX7_addPlace 59 = .ok (.iconst 2, 1) := by decide +kernel
theorem dX7_addPlace_60 : decode cX7_addPlace 60 = .ok (.iconst 0, 1) := by decide +kernel
theorem dX7_addPlace_61 : decode cX7_addPlace 61 = .ok (.invokevirtual 100, 3) := by decide +kernel
theorem dX7_addPlace_64 : decode cX7_addPlace 64 = .ok (.aload_n 0, 1) := by decide +kernel
theorem dX7_addPlace_65 : decode cX7_addPlace 65 = .ok (.iload_n 3, 1) := by decide +kernel
theorem dX7_addPlace_66 : decode cX7_addPlace 66 = .ok (.iconst 3, 1) := by decide +kernel
theorem dX7_addPlace_67 : decode cX7_addPlace 67 = .ok (.bipush 14, 2) := by decide +kernel
theorem dX7_addPlace_69 : decode cX7_addPlace 69 = .ok (.invokevirtual 100, 3) := by decide +kernel
theorem dX7_addPlace_72 : decode cX7_addPlace 72 = .ok (.aload_n 0, 1) := by decide +kernel
theorem dX7_addPlace_73 : decode cX7_addPlace 73 = .ok (.getfield 7, 3) := by decide +kernel
theorem dX7_addPlace_76 : decode cX7_addPlace 76 = .ok (.bipush 56, 2) := by decide +kernel
theorem dX7_addPlace_78 : decode cX7_addPlace 78 = .ok (.dup2, 1) := by decide +kernel
theorem dX7_addPlace_79 : decode cX7_addPlace 79 = .ok (.iaload, 1) := by decide +kernel
theorem dX7_addPlace_80 : decode cX7_addPlace 80 = .ok (.iconst 1, 1) := by decide +kernel
theorem dX7_addPlace_81 : decode cX7_addPlace 81 = .ok (.iadd, 1) := by decide +kernel
theorem dX7_addPlace_82 : decode cX7_addPlace 82 = .ok (.iastore, 1) := by decide +kernel
theorem dX7_addPlace_83 : decode cX7_addPlace 83 = .ok (.iload_n 3, 1) := by decide +kernel
theorem dX7_addPlace_84 : decode cX7_addPlace 84 = .ok (.ireturn, 1) := by decide +kernel
set_option maxRecDepth 20000 in
theorem ggX7_setOwner_X7_no : GoodIn wsX7_setOwner wsX7_no := goodIn_r _ [5, 6, 7, 8, 4, 9, 62, 63, 64, 65, 66, 67, 68, 69, 70, 71, 72, 73, 74, 75, 76, 77, 78, 79, 80] (by decide +kernel) (by decide +kernel)
set_option maxRecDepth 20000 in
theorem gX7_setOwner_X7_no : GoodIn wsX7_setOwner (wsV RX7 104 RX7 yX7_no wsX7_no) := goodIn_app (goodIn_of _ (by decide +kernel)) ggX7_setOwner_X7_no
set_option maxRecDepth 20000 in
theorem ggX7_setOwner_X7_in : GoodIn wsX7_setOwner wsX7_in := goodIn_r _ [9] (by decide +kernel) (by decide +kernel)
set_option maxRecDepth 20000 in
theorem gX7_setOwner_X7_in : GoodIn wsX7_setOwner (va_wsS RX7 44 yX7_in wsX7_in) := goodIn_app (goodIn_of _ (by decide +kernel)) ggX7_setOwner_X7_in
set_option maxRecDepth 20000 in
theorem ggX7_setOwner_X7_of : GoodIn wsX7_setOwner wsX7_of := goodIn_r _ [13, 6, 62, 63, 64, 65, 66, 67, 68, 69, 70, 71, 72, 73, 74, 75, 76, 77, 78, 79, 80] (by decide +kernel) (by decide +kernel)
set_option maxRecDepth 20000 in
theorem gX7_setOwner_X7_of : GoodIn wsX7_setOwner (wsV RX7 48 RX7 yX7_of wsX7_of) := goodIn_app (goodIn_of _ (by decide +kernel)) ggX7_setOwner_X7_of
set_option maxRecDepth 20000 in
theorem ggX7_setOwner_X7_record : GoodIn wsX7_setOwner wsX7_record := goodIn_r _ [17, 18, 19, 6, 62, 63, 64, 65, 66, 67, 68, 69, 70, 71, 72, 73, 74, 75, 76, 77, 78, 79, 80] (by decide +kernel) (by decide +kernel)
set_option maxRecDepth 20000 in
theorem gX7_setOwner_X7_record : GoodIn wsX7_setOwner (wsV RX7 97 RX7 yX7_record wsX7_record) := goodIn_app (goodIn_of _ (by decide +kernel)) ggX7_setOwner_X7_record
set_option maxRecDepth 20000 in
theorem ggX7_setOwner_X7_puts : GoodIn wsX7_setOwner wsX7_puts := goodIn_r _ [23, 6, 62, 63, 64, 65, 66, 67, 68, 69, 70, 71, 72, 73, 74, 75, 76, 77, 78, 79, 80] (by decide +kernel) (by decide +kernel)
set_option maxRecDepth 20000 in
theorem gX7_setOwner_X7_puts : GoodIn wsX7_setOwner (wsV RX7 100 RX7 yX7_puts wsX7_puts) := goodIn_app (goodIn_of _ (by decide +kernel)) ggX7_setOwner_X7_puts
set_option maxRecDepth 20000 in
theorem ggX7_setOwner_X7_winsOf : GoodIn wsX7_setOwner wsX7_winsOf := goodIn_r _ [27, 28, 29, 30, 4, 31, 32, 6, 33, 34, 35, 36, 37, 38, 39, 10, 11, 12, 13, 40, 41, 42, 43, 44, 45, 46, 47, 48, 49, 50, 51, 52, 53, 54, 55, 56, 57, 58, 59, 60, 61, 62, 63, 64, 65, 66, 67, 68, 69, 70, 71, 72, 73, 74, 75, 76, 77, 78, 79, 80] (by decide +kernel) (by decide +kernel)
set_option maxRecDepth 20000 in
theorem gX7_setOwner_X7_winsOf : GoodIn wsX7_setOwner (wsV RX7 94 RX7 yX7_winsOf wsX7_winsOf) := goodIn_app (goodIn_of _ (by decide +kernel)) ggX7_setOwner_X7_winsOf
theorem dX7_setOwner_0 : decode cX7_setOwner 0 = .ok (.aload_n 0, 1) := by decide +kernel
theorem dX7_setOwner_1 : decode cX7_setOwner 1 = .ok (.iload_n 1, 1) := by decide +kernel
theorem dX7_setOwner_2 : decode cX7_setOwner 2 = .ok (.invokevirtual 104, 3) := by decide +kernel
theorem dX7_setOwner_5 : decode cX7_setOwner 5 = .ok (.ifCond .eq 5, 3) := by decide +kernel
theorem dX7_setOwner_8 : decode cX7_setOwner 8 = .ok (.iconst (-1), 1) := by decide +kernel
theorem dX7_setOwner_9 : decode cX7_setOwner 9 = .ok (.ireturn, 1) := by decide +kernel
theorem dX7_setOwner_10 : decode cX7_setOwner 10 = .ok (.iload_n 2, 1) := by decide +kernel
theorem dX7_setOwner_11 : decode cX7_setOwner 11 = .ok (.iconst 0, 1) := by decide +kernel
theorem dX7_setOwner_12 : decode cX7_setOwner 12 = .ok (.iconst 1, 1) := by decide +kernel
theorem dX7_setOwner_13 : decode cX7_setOwner 13 = .ok (.invokestatic 44, 3) := by decide +kernel
theorem dX7_setOwner_16 : decode cX7_setOwner 16 = .ok (.ifCond .ne 6, 3) := by decide +kernel
theorem dX7_setOwner_19 : decode cX7_setOwner 19 = .ok (.bipush (-2), 2) := by decide +kernel
theorem dX7_setOwner_21 : decode cX7_setOwner 21 = .ok (.ireturn, 1) := by decide +kernel
theorem dX7_setOwner_22 : decode cX7_setOwner 22 = .ok (.aload_n 0, 1) := by decide +kernel
theorem dX7_setOwner_23 : decode cX7_setOwner 23 = .ok (.iload_n 1, 1) := by decide +kernel
theorem dX7_setOwner_24 : decode cX7_setOwner 24 = .ok (.iconst 0, 1) := by decide +kernel
theorem dX7_setOwner_25 : decode cX7_setOwner 25 = .ok (.invokevirtual 48, 3) := by decide +kernel
theorem dX7_setOwner_28 : decode cX7_setOwner 28 = .ok (.iload_n 2, 1) := by decide +kernel
theorem dX7_setOwner_29 : decode cX7_setOwner 29 = .ok (.if_icmp .ne 6, 3) := by decide +kernel
theorem dX7_setOwner_32 : decode cX7_setOwner 32 = .ok (.bipush (-5), 2) := by decide +kernel
theorem dX7_setOwner_34 : decode cX7_setOwner 34 = .ok (.ireturn, 1) := by decide +kernel
theorem dX7_setOwner_35 : decode cX7_setOwner 35 = .ok (.aload_n 0, 1) := by decide +kernel
theorem dX7_setOwner_36 : decode cX7_setOwner 36 = .ok (.invokevirtual 97, 3) := by decide +kernel
theorem dX7_setOwner_39 : decode cX7_setOwner 39 = .ok (.aload_n 0, 1) := by decide +kernel
theorem dX7_setOwner_40 : decode cX7_setOwner 40 = .ok (.iload_n 1, 1) := by decide +kernel
theorem dX7_setOwner_41 : decode cX7_setOwner 41 = .ok (.iconst 0, 1) := by decide +kernel
theorem dX7_setOwner_42 : decode cX7_setOwner 42 = .ok (.iload_n 2, 1) := by decide +kernel
theorem dX7_setOwner_43 : decode cX7_setOwner 43 = .ok (.invokevirtual 100, 3) := by decide +kernel
theorem dX7_setOwner_46 : decode cX7_setOwner 46 = .ok (.aload_n 0, 1) := by decide +kernel
theorem dX7_setOwner_47 : decode cX7_setOwner 47 = .ok (.iconst 0, 1) := by decide +kernel
theorem dX7_setOwner_48 : decode cX7_setOwner 48 = .ok (.invokevirtual 94, 3) := by decide +kernel
theorem dX7_setOwner_51 : decode cX7_setOwner 51 = .ok (.ireturn, 1) := by decide +kernel
set_option maxRecDepth 20000 in
theorem ggX7_setColour_X7_no : GoodIn wsX7_setColour wsX7_no := goodIn_r _ [5, 6, 7, 8, 4, 9, 24, 25, 26, 27, 28, 29, 30, 31, 32, 33, 34, 35, 36, 37, 38, 39, 40, 41, 42] (by decide +kernel) (by decide +kernel)
set_option maxRecDepth 20000 in
theorem gX7_setColour_X7_no : GoodIn wsX7_setColour (wsV RX7 104 RX7 yX7_no wsX7_no) := goodIn_app (goodIn_of _ (by decide +kernel)) ggX7_setColour_X7_no
set_option maxRecDepth 20000 in
theorem ggX7_setColour_X7_in : GoodIn wsX7_setColour wsX7_in := goodIn_r _ [9] (by decide +kernel) (by decide +kernel)
set_option maxRecDepth 20000 in
theorem gX7_setColour_X7_in : GoodIn wsX7_setColour (va_wsS RX7 44 yX7_in wsX7_in) := goodIn_app (goodIn_of _ (by decide +kernel)) ggX7_setColour_X7_in
set_option maxRecDepth 20000 in
theorem ggX7_setColour_X7_of : GoodIn wsX7_setColour wsX7_of := goodIn_r _ [13, 6, 24, 25, 26, 27, 28, 29, 30, 31, 32, 33, 34, 35, 36, 37, 38, 39, 40, 41, 42] (by decide +kernel) (by decide +kernel)
set_option maxRecDepth 20000 in
theorem gX7_setColour_X7_of : GoodIn wsX7_setColour (wsV RX7 48 RX7 yX7_of wsX7_of) := goodIn_app (goodIn_of _ (by decide +kernel)) ggX7_setColour_X7_of
set_option maxRecDepth 20000 in
theorem ggX7_setColour_X7_record : GoodIn wsX7_setColour wsX7_record := goodIn_r _ [17, 18, 19, 6, 24, 25, 26, 27, 28, 29, 30, 31, 32, 33, 34, 35, 36, 37, 38, 39, 40, 41, 42] (by decide +kernel) (by decide +kernel)
set_option maxRecDepth 20000 in
theorem gX7_setColour_X7_record : GoodIn wsX7_setColour (wsV RX7 97 RX7 yX7_record wsX7_record) := goodIn_app (goodIn_of _ (by decide +kernel)) ggX7_setColour_X7_record
set_option maxRecDepth 20000 in
theorem ggX7_setColour_X7_puts : GoodIn wsX7_setColour wsX7_puts := goodIn_r _ [23, 6, 24, 25, 26, 27, 28, 29, 30, 31, 32, 33, 34, 35, 36, 37, 38, 39, 40, 41, 42] (by decide +kernel) (by decide +kernel)
set_option maxRecDepth 20000 in
theorem gX7_setColour_X7_puts : GoodIn wsX7_setColour (wsV RX7 100 RX7 yX7_puts wsX7_puts) := goodIn_app (goodIn_of _ (by decide +kernel)) ggX7_setColour_X7_puts
theorem dX7_setColour_0 : decode cX7_setColour 0 = .ok (.aload_n 0, 1) := by decide +kernel
theorem dX7_setColour_1 : decode cX7_setColour 1 = .ok (.iload_n 1, 1) := by decide +kernel
theorem dX7_setColour_2 : decode cX7_setColour 2 = .ok (.invokevirtual 104, 3) := by decide +kernel
theorem dX7_setColour_5 : decode cX7_setColour 5 = .ok (.ifCond .eq 5, 3) := by decide +kernel
theorem dX7_setColour_8 : decode cX7_setColour 8 = .ok (.iconst (-1), 1) := by decide +kernel
theorem dX7_setColour_9 : decode cX7_setColour 9 = .ok (.ireturn, 1) := by decide +kernel
theorem dX7_setColour_10 : decode cX7_setColour 10 = .ok (.iload_n 2, 1) := by decide +kernel
theorem dX7_setColour_11 : decode cX7_setColour 11 = .ok (.iconst 0, 1) := by decide +kernel
theorem dX7_setColour_12 : decode cX7_setColour 12 = .ok (.bipush 7, 2) := by decide +kernel
theorem dX7_setColour_14 : decode cX7_setColour 14 = .ok (.invokestatic 44, 3) := by decide +kernel
theorem dX7_setColour_17 : decode cX7_setColour 17 = .ok (.ifCond .ne 6, 3) := by decide +kernel
theorem dX7_setColour_20 : decode cX7_setColour 20 = .ok (.bipush (-2), 2) := by decide +kernel
theorem dX7_setColour_22 : decode cX7_setColour 22 = .ok (.ireturn, 1) := by decide +kernel
theorem dX7_setColour_23 : decode cX7_setColour 23 = .ok (.aload_n 0, 1) := by decide +kernel
theorem dX7_setColour_24 : decode cX7_setColour 24 = .ok (.iload_n 1, 1) := by decide +kernel
theorem dX7_setColour_25 : decode cX7_setColour 25 = .ok (.iconst 1, 1) := by decide +kernel
theorem dX7_setColour_26 : decode cX7_setColour 26 = .ok (.invokevirtual 48, 3) := by decide +kernel
theorem dX7_setColour_29 : decode cX7_setColour 29 = .ok (.istore_n 3, 1) := by decide +kernel
theorem dX7_setColour_30 : decode cX7_setColour 30 = .ok (.iload_n 3, 1) := by decide +kernel
theorem dX7_setColour_31 : decode cX7_setColour 31 = .ok (.iload_n 2, 1) := by decide +kernel
theorem dX7_setColour_32 : decode cX7_setColour 32 = .ok (.if_icmp .ne 6, 3) := by decide +kernel
theorem dX7_setColour_35 : decode cX7_setColour 35 = .ok (.bipush (-5), 2) := by decide +kernel
theorem dX7_setColour_37 : decode cX7_setColour 37 = .ok (.ireturn, 1) := by decide +kernel
theorem dX7_setColour_38 : decode cX7_setColour 38 = .ok (.aload_n 0, 1) := by decide +kernel
theorem dX7_setColour_39 : decode cX7_setColour 39 = .ok (.invokevirtual 97, 3) := by decide +kernel
theorem dX7_setColour_42 : decode cX7_setColour 42 = .ok (.aload_n 0, 1) := by decide +kernel
theorem dX7_setColour_43 : decode cX7_setColour 43 = .ok (.iload_n 1, 1) := by decide +kernel
theorem dX7_setColour_44 : decode cX7_setColour 44 = .ok (.iconst 1, 1) := by decide +kernel
theorem dX7_setColour_45 : decode cX7_setColour 45 = .ok (.iload_n 2, 1) := by decide +kernel
theorem dX7_setColour_46 : decode cX7_setColour 46 = .ok (.invokevirtual 100, 3) := by decide +kernel
theorem dX7_setColour_49 : decode cX7_setColour 49 = .ok (.iload_n 3, 1) := by decide +kernel
theorem dX7_setColour_50 : decode cX7_setColour 50 = .ok (.ireturn, 1) := by decide +kernel
set_option maxRecDepth 20000 in
theorem ggX7_addArrow_X7_no : GoodIn wsX7_addArrow wsX7_no := goodIn_r _ [5, 6, 7, 8, 4, 9, 35, 36, 37, 38, 39, 40, 41, 42, 43, 44, 45, 46, 47, 48, 49, 50, 51, 52, 53] (by decide +kernel) (by decide +kernel)
set_option maxRecDepth 20000 in
theorem gX7_addArrow_X7_no : GoodIn wsX7_addArrow (wsV RX7 104 RX7 yX7_no wsX7_no) := goodIn_app (goodIn_of _ (by decide +kernel)) ggX7_addArrow_X7_no
set_option maxRecDepth 20000 in
theorem ggX7_addArrow_X7_hasArrow : GoodIn wsX7_addArrow wsX7_hasArrow := goodIn_r _ [13, 14, 15, 16, 4, 17, 6, 35, 36, 37, 38, 39, 40, 41, 42, 43, 44, 45, 46, 47, 48, 49, 50, 51, 52, 53] (by decide +kernel) (by decide +kernel)
set_option maxRecDepth 20000 in
theorem gX7_addArrow_X7_hasArrow : GoodIn wsX7_addArrow (wsV RX7 67 RX7 yX7_hasArrow wsX7_hasArrow) := goodIn_app (goodIn_of _ (by decide +kernel)) ggX7_addArrow_X7_hasArrow
set_option maxRecDepth 20000 in
theorem ggX7_addArrow_X7_arrows : GoodIn wsX7_addArrow wsX7_arrows := goodIn_r _ [21, 6, 14, 15, 16, 4, 17, 22, 23, 24, 35, 36, 37, 38, 39, 40, 41, 42, 43, 44, 45, 46, 47, 48, 49, 50, 51, 52, 53] (by decide +kernel) (by decide +kernel)
set_option maxRecDepth 20000 in
theorem gX7_addArrow_X7_arrows : GoodIn wsX7_addArrow (wsV RX7 108 RX7 yX7_arrows wsX7_arrows) := goodIn_app (goodIn_of _ (by decide +kernel)) ggX7_addArrow_X7_arrows
set_option maxRecDepth 20000 in
theorem ggX7_addArrow_X7_record : GoodIn wsX7_addArrow wsX7_record := goodIn_r _ [28, 29, 30, 6, 35, 36, 37, 38, 39, 40, 41, 42, 43, 44, 45, 46, 47, 48, 49, 50, 51, 52, 53] (by decide +kernel) (by decide +kernel)
set_option maxRecDepth 20000 in
theorem gX7_addArrow_X7_record : GoodIn wsX7_addArrow (wsV RX7 97 RX7 yX7_record wsX7_record) := goodIn_app (goodIn_of _ (by decide +kernel)) ggX7_addArrow_X7_record
set_option maxRecDepth 20000 in
theorem ggX7_addArrow_X7_of : GoodIn wsX7_addArrow wsX7_of := goodIn_r _ [17, 6, 35, 36, 37, 38, 39, 40, 41, 42, 43, 44, 45, 46, 47, 48, 49, 50, 51, 52, 53] (by decide +kernel) (by decide +kernel)
set_option maxRecDepth 20000 in
theorem gX7_addArrow_X7_of : GoodIn wsX7_addArrow (wsV RX7 48 RX7 yX7_of wsX7_of) := goodIn_app (goodIn_of _ (by decide +kernel)) ggX7_addArrow_X7_of
set_option maxRecDepth 20000 in
theorem ggX7_addArrow_X7_puts : GoodIn wsX7_addArrow wsX7_puts := goodIn_r _ [34, 6, 35, 36, 37, 38, 39, 40, 41, 42, 43, 44, 45, 46, 47, 48, 49, 50, 51, 52, 53] (by decide +kernel) (by decide +kernel)
set_option maxRecDepth 20000 in
theorem gX7_addArrow_X7_puts : GoodIn wsX7_addArrow (wsV RX7 100 RX7 yX7_puts wsX7_puts) := goodIn_app (goodIn_of _ (by decide +kernel)) ggX7_addArrow_X7_puts
set_option maxRecDepth 20000 in
theorem ggX7_addArrow_X7_bits : GoodIn wsX7_addArrow wsX7_bits := goodIn_r _ [24] (by decide +kernel) (by decide +kernel)
set_option maxRecDepth 20000 in
theorem gX7_addArrow_X7_bits : GoodIn wsX7_addArrow (va_wsS RX7 52 yX7_bits wsX7_bits) := goodIn_app (goodIn_of _ (by decide +kernel)) ggX7_addArrow_X7_bits
theorem dX7_addArrow_0 : decode cX7_addArrow 0 = .ok (.aload_n 0, 1) := by decide +kernel
theorem dX7_addArrow_1 : decode cX7_addArrow 1 = .ok (.iload_n 1, 1) := by decide +kernel
theorem dX7_addArrow_2 : decode cX7_addArrow 2 = .ok (.invokevirtual 104, 3) := by decide +kernel
theorem dX7_addArrow_5 : decode cX7_addArrow 5 = .ok (.ifCond .ne 11, 3) := by decide +kernel
theorem dX7_addArrow_8 : decode cX7_addArrow 8 = .ok (.aload_n 0, 1) := by decide +kernel
theorem dX7_addArrow_9 : decode cX7_addArrow 9 = .ok (.iload_n 2, 1) := by decide +kernel
theorem dX7_addArrow_10 : decode cX7_addArrow 10 = .ok (.invokevirtual 104, 3) := by decide +kernel
theorem dX7_addArrow_13 : decode cX7_addArrow 13 = .ok (.ifCond .eq 5, 3) := by decide +kernel
theorem dX7_addArrow_16 : decode cX7_addArrow 16 = .ok (.iconst (-1), 1) := by decide +kernel
theorem dX7_addArrow_17 : decode cX7_addArrow 17 = .ok (.ireturn, 1) := by decide +kernel
theorem dX7_addArrow_18 : decode cX7_addArrow 18 = .ok (.aload_n 0, 1) := by decide +kernel
theorem dX7_addArrow_19 : decode cX7_addArrow 19 = .ok (.iload_n 1, 1) := by decide +kernel
theorem dX7_addArrow_20 : decode cX7_addArrow 20 = .ok (.iload_n 2, 1) := by decide +kernel
theorem dX7_addArrow_21 : decode cX7_addArrow 21 = .ok (.invokevirtual 67, 3) := by decide +kernel
theorem dX7_addArrow_24 : decode cX7_addArrow 24 = .ok (.ifCond .eq 20, 3) := by decide +kernel
theorem dX7_addArrow_27 : decode cX7_addArrow 27 = .ok (.aload_n 0, 1) := by decide +kernel
theorem dX7_addArrow_28 : decode cX7_addArrow 28 = .ok (.invokevirtual 108, 3) := by decide +kernel
theorem dX7_addArrow_31 : decode cX7_addArrow 31 = .ok (.bipush 60, 2) := by decide +kernel
theorem dX7_addArrow_33 : decode cX7_addArrow 33 = .ok (.if_icmp .ne 8, 3) := by decide +kernel
theorem dX7_addArrow_36 : decode cX7_addArrow 36 = .ok (.bipush (-3), 2) := by decide +kernel
theorem dX7_addArrow_38 : decode cX7_addArrow 38 = .ok (.goto 5, 3) := by decide +kernel
theorem dX7_addArrow_41 : decode cX7_addArrow 41 = .ok (.bipush (-5), 2) := by decide +kernel
theorem dX7_addArrow_43 : decode cX7_addArrow 43 = .ok (.ireturn, 1) := by decide +kernel
theorem dX7_addArrow_44 : decode cX7_addArrow 44 = .ok (.aload_n 0, 1) := by decide +kernel
theorem dX7_addArrow_45 : decode cX7_addArrow 45 = .ok (.invokevirtual 108, 3) := by decide +kernel
theorem dX7_addArrow_48 : decode cX7_addArrow 48 = .ok (.bipush 60, 2) := by decide +kernel
theorem dX7_addArrow_50 : decode cX7_addArrow 50 = .ok (.if_icmp .ne 6, 3) := by decide +kernel
theorem dX7_addArrow_53 : decode cX7_addArrow 53 = .ok (.bipush (-3), 2) := by decide +kernel
theorem dX7_addArrow_55 : decode cX7_addArrow 55 = .ok (.ireturn, 1) := by decide +kernel
theorem dX7_addArrow_56 : decode cX7_addArrow 56 = .ok (.aload_n 0, 1) := by decide +kernel
theorem dX7_addArrow_57 : decode cX7_addArrow 57 = .ok (.invokevirtual 97, 3) := by decide +kernel
theorem dX7_addArrow_60 : decode cX7_addArrow 60 = .ok (.aload_n 0, 1) := by decide +kernel
theorem dX7_addArrow_61 : decode cX7_addArrow 61 = .ok (.iload_n 1, 1) := by decide +kernel
theorem dX7_addArrow_62 : decode cX7_addArrow 62 = .ok (.iconst 2, 1) := by decide +kernel
theorem dX7_addArrow_63 : decode cX7_addArrow 63 = .ok (.aload_n 0, 1) := by decide +kernel
theorem dX7_addArrow_64 : decode cX7_addArrow 64 = .ok (.iload_n 1, 1) := by decide +kernel
theorem dX7_addArrow_65 : decode cX7_addArrow 65 = .ok (.iconst 2, 1) := by decide +kernel
theorem dX7_addArrow_66 : decode cX7_addArrow 66 = .ok (.invokevirtual 48, 3) := by decide +kernel
theorem dX7_addArrow_69 : decode cX7_addArrow 69 = .ok (.iconst 1, 1) := by decide +kernel
theorem dX7_addArrow_70 : decode cX7_addArrow 70 = .ok (.iload_n 2, 1) := by decide +kernel
theorem dX7_addArrow_71 : decode cX7_addArrow 71 = .ok (.ishl, 1) := by decide +kernel
theorem dX7_addArrow_72 : decode cX7_addArrow 72 = .ok (.ior, 1) := by decide +kernel
theorem dX7_addArrow_73 : decode cX7_addArrow 73 = .ok (.invokevirtual 100, 3) := by decide +kernel
theorem dX7_addArrow_76 : decode cX7_addArrow 76 = .ok (.aload_n 0, 1) := by decide +kernel
theorem dX7_addArrow_77 : decode cX7_addArrow 77 = .ok (.iload_n 1, 1) := by decide +kernel
theorem dX7_addArrow_78 : decode cX7_addArrow 78 = .ok (.iconst 2, 1) := by decide +kernel
theorem dX7_addArrow_79 : decode cX7_addArrow 79 = .ok (.invokevirtual 48, 3) := by decide +kernel
theorem dX7_addArrow_82 : decode cX7_addArrow 82 = .ok (.invokestatic 52, 3) := by decide +kernel
theorem dX7_addArrow_85 : decode cX7_addArrow 85 = .ok (.ireturn, 1) := by decide +kernel
set_option maxRecDepth 20000 in
theorem ggX7_removeArrow_X7_no : GoodIn wsX7_removeArrow wsX7_no := goodIn_r _ [5, 6, 7, 8, 4, 9, 31, 32, 33, 34, 35, 36, 37, 38, 39, 40, 41, 42, 43, 44, 45, 46, 47, 48, 49] (by decide +kernel) (by decide +kernel)
set_option maxRecDepth 20000 in
theorem gX7_removeArrow_X7_no : GoodIn wsX7_removeArrow (wsV RX7 104 RX7 yX7_no wsX7_no) := goodIn_app (goodIn_of _ (by decide +kernel)) ggX7_removeArrow_X7_no
set_option maxRecDepth 20000 in
theorem ggX7_removeArrow_X7_hasArrow : GoodIn wsX7_removeArrow wsX7_hasArrow := goodIn_r _ [13, 14, 15, 16, 4, 17, 6, 31, 32, 33, 34, 35, 36, 37, 38, 39, 40, 41, 42, 43, 44, 45, 46, 47, 48, 49] (by decide +kernel) (by decide +kernel)
set_option maxRecDepth 20000 in
theorem gX7_removeArrow_X7_hasArrow : GoodIn wsX7_removeArrow (wsV RX7 67 RX7 yX7_hasArrow wsX7_hasArrow) := goodIn_app (goodIn_of _ (by decide +kernel)) ggX7_removeArrow_X7_hasArrow
set_option maxRecDepth 20000 in
theorem ggX7_removeArrow_X7_record : GoodIn wsX7_removeArrow wsX7_record := goodIn_r _ [21, 22, 23, 6, 31, 32, 33, 34, 35, 36, 37, 38, 39, 40, 41, 42, 43, 44, 45, 46, 47, 48, 49] (by decide +kernel) (by decide +kernel)
set_option maxRecDepth 20000 in
theorem gX7_removeArrow_X7_record : GoodIn wsX7_removeArrow (wsV RX7 97 RX7 yX7_record wsX7_record) := goodIn_app (goodIn_of _ (by decide +kernel)) ggX7_removeArrow_X7_record
set_option maxRecDepth 20000 in
theorem ggX7_removeArrow_X7_of : GoodIn wsX7_removeArrow wsX7_of := goodIn_r _ [17, 6, 31, 32, 33, 34, 35, 36, 37, 38, 39, 40, 41, 42, 43, 44, 45, 46, 47, 48, 49] (by decide +kernel) (by decide +kernel)
set_option maxRecDepth 20000 in
theorem gX7_removeArrow_X7_of : GoodIn wsX7_removeArrow (wsV RX7 48 RX7 yX7_of wsX7_of) := goodIn_app (goodIn_of _ (by decide +kernel)) ggX7_removeArrow_X7_of
set_option maxRecDepth 20000 in
theorem ggX7_removeArrow_X7_puts : GoodIn wsX7_removeArrow wsX7_puts := goodIn_r _ [27, 6, 31, 32, 33, 34, 35, 36, 37, 38, 39, 40, 41, 42, 43, 44, 45, 46, 47, 48, 49] (by decide +kernel) (by decide +kernel)
set_option maxRecDepth 20000 in
theorem gX7_removeArrow_X7_puts : GoodIn wsX7_removeArrow (wsV RX7 100 RX7 yX7_puts wsX7_puts) := goodIn_app (goodIn_of _ (by decide +kernel)) ggX7_removeArrow_X7_puts
set_option maxRecDepth 20000 in
theorem ggX7_removeArrow_X7_bits : GoodIn wsX7_removeArrow wsX7_bits := goodIn_r _ [30] (by decide +kernel) (by decide +kernel)
set_option maxRecDepth 20000 in
theorem gX7_removeArrow_X7_bits : GoodIn wsX7_removeArrow (va_wsS RX7 52 yX7_bits wsX7_bits) := goodIn_app (goodIn_of _ (by decide +kernel)) ggX7_removeArrow_X7_bits
theorem dX7_removeArrow_0 : decode cX7_removeArrow 0 = .ok (.aload_n 0, 1) := by decide +kernel
theorem dX7_removeArrow_1 : decode cX7_removeArrow 1 = .ok (.iload_n 1, 1) := by decide +kernel
theorem dX7_removeArrow_2 : decode cX7_removeArrow 2 = .ok (.invokevirtual 104, 3) := by decide +kernel
theorem dX7_removeArrow_5 : decode cX7_removeArrow 5 = .ok (.ifCond .ne 11, 3) := by decide +kernel
theorem dX7_removeArrow_8 : decode cX7_removeArrow 8 = .ok (.aload_n 0, 1) := by decide +kernel
theorem dX7_removeArrow_9 : decode cX7_removeArrow 9 = .ok (.iload_n 2, 1) := by decide +kernel
theorem dX7_removeArrow_10 : decode cX7_removeArrow 10 = .ok (.invokevirtual 104, 3) := by decide +kernel
theorem dX7_removeArrow_13 : decode cX7_removeArrow 13 = .ok (.ifCond .eq 5, 3) := by decide +kernel
theorem dX7_removeArrow_16 : decode cX7_removeArrow 16 = .ok (.iconst (-1), 1) := by decide +kernel
theorem dX7_removeArrow_17 : decode cX7_removeArrow 17 = .ok (.ireturn, 1) := by decide +kernel
theorem dX7_removeArrow_18 : decode cX7_removeArrow 18 = .ok (.aload_n 0, 1) := by decide +kernel
theorem dX7_removeArrow_19 : decode cX7_removeArrow 19 = .ok (.iload_n 1, 1) := by decide +kernel
theorem dX7_removeArrow_20 : decode cX7_removeArrow 20 = .ok (.iload_n 2, 1) := by decide +kernel
theorem dX7_removeArrow_21 : decode cX7_removeArrow 21 = .ok (.invokevirtual 67, 3) := by decide +kernel
theorem dX7_removeArrow_24 : decode cX7_removeArrow 24 = .ok (.ifCond .ne 6, 3) := by decide +kernel
theorem dX7_removeArrow_27 : decode cX7_removeArrow 27 = .ok (.bipush (-5), 2) := by decide +kernel
theorem dX7_removeArrow_29 : decode cX7_removeArrow 29 = .ok (.ireturn, 1) := by decide +kernel
theorem dX7_removeArrow_30 : decode cX7_removeArrow 30 = .ok (.aload_n 0, 1) := by decide +kernel
theorem dX7_removeArrow_31 : decode cX7_removeArrow 31 = .ok (.invokevirtual 97, 3) := by decide +kernel
theorem dX7_removeArrow_34 : decode cX7_removeArrow 34 = .ok (.aload_n 0, 1) := by decide +kernel
theorem dX7_removeArrow_35 : decode cX7_removeArrow 35 = .ok (.iload_n 1, 1) := by decide +kernel
theorem dX7_removeArrow_36 : decode cX7_removeArrow 36 = .ok (.iconst 2, 1) := by decide +kernel
theorem dX7_removeArrow_37 : decode cX7_removeArrow 37 = .ok (.aload_n 0, 1) := by decide +kernel
theorem dX7_removeArrow_38 : decode cX7_removeArrow 38 = .ok (.iload_n 1, 1) := by decide +kernel
theorem dX7_removeArrow_39 : decode cX7_removeArrow 39 = .ok (.iconst 2, 1) := by decide +kernel
theorem dX7_removeArrow_40 : decode cX7_removeArrow 40 = .ok (.invokevirtual 48, 3) := by decide +kernel
theorem dX7_removeArrow_43 : decode cX7_removeArrow 43 = .ok (.iconst 1, 1) := by decide +kernel
theorem dX7_removeArrow_44 : decode cX7_removeArrow 44 = .ok (.iload_n 2, 1) := by decide +kernel
theorem dX7_removeArrow_45 : decode cX7_removeArrow 45 = .ok (.ishl, 1) := by decide +kernel
theorem dX7_removeArrow_46 : decode cX7_removeArrow 46 = .ok (.ixor, 1) := by decide +kernel
theorem dX7_removeArrow_47 : decode cX7_removeArrow 47 = .ok (.invokevirtual 100, 3) := by decide +kernel
theorem dX7_removeArrow_50 : decode cX7_removeArrow 50 = .ok (.aload_n 0, 1) := by decide +kernel
theorem dX7_removeArrow_51 : decode cX7_removeArrow 51 = .ok (.iload_n 1, 1) := by decide +kernel
theorem dX7_removeArrow_52 : decode cX7_removeArrow 52 = .ok (.iconst 3, 1) := by decide +kernel
theorem dX7_removeArrow_53 : decode cX7_removeArrow 53 = .ok (.invokevirtual 48, 3) := by decide +kernel
theorem dX7_removeArrow_56 : decode cX7_removeArrow 56 = .ok (.iload_n 2, 1) := by decide +kernel
theorem dX7_removeArrow_57 : decode cX7_removeArrow 57 = .ok (.if_icmp .ne 11, 3) := by decide +kernel
theorem dX7_removeArrow_60 : decode cX7_removeArrow 60 = .ok (.aload_n 0, 1) := by decide +kernel
theorem dX7_removeArrow_61 : decode cX7_removeArrow 61 = .ok (.iload_n 1, 1) := by decide +kernel
theorem dX7_removeArrow_62 : decode cX7_removeArrow 62 = .ok (.iconst 3, 1) := by decide +kernel
theorem dX7_removeArrow_63 : decode cX7_removeArrow 63 = .ok (.bipush 14, 2) := by decide +kernel
theorem dX7_removeArrow_65 : decode cX7_removeArrow 65 = .ok (.invokevirtual 100, 3) := by decide +kernel
theorem dX7_removeArrow_68 : decode cX7_removeArrow 68 = .ok (.aload_n 0, 1) := by decide +kernel
theorem dX7_removeArrow_69 : decode cX7_removeArrow 69 = .ok (.iload_n 1, 1) := by decide +kernel
theorem dX7_removeArrow_70 : decode cX7_removeArrow 70 = .ok (.iconst 2, 1) := by decide +kernel
theorem dX7_removeArrow_71 : decode cX7_removeArrow 71 = .ok (.invokevirtual 48, 3) := by decide +kernel
theorem dX7_removeArrow_74 : decode cX7_removeArrow 74 = .ok (.invokestatic 52, 3) := by decide +kernel
theorem dX7_removeArrow_77 : decode cX7_removeArrow 77 = .ok (.ireturn, 1) := by decide +kernel
set_option maxRecDepth 20000 in
theorem ggX7_turnOver_X7_of : GoodIn wsX7_turnOver wsX7_of := goodIn_r _ [6, 1, 55, 56, 57, 58, 59, 60, 61, 62, 63, 64, 65, 66, 67, 68, 69, 70, 71, 72, 73] (by decide +kernel) (by decide +kernel)
set_option maxRecDepth 20000 in
theorem gX7_turnOver_X7_of : GoodIn wsX7_turnOver (wsV RX7 48 RX7 yX7_of wsX7_of) := goodIn_app (goodIn_of _ (by decide +kernel)) ggX7_turnOver_X7_of
set_option maxRecDepth 20000 in
theorem ggX7_turnOver_X7_record : GoodIn wsX7_turnOver wsX7_record := goodIn_r _ [10, 11, 12, 1, 55, 56, 57, 58, 59, 60, 61, 62, 63, 64, 65, 66, 67, 68, 69, 70, 71, 72, 73] (by decide +kernel) (by decide +kernel)
set_option maxRecDepth 20000 in
theorem gX7_turnOver_X7_record : GoodIn wsX7_turnOver (wsV RX7 97 RX7 yX7_record wsX7_record) := goodIn_app (goodIn_of _ (by decide +kernel)) ggX7_turnOver_X7_record
set_option maxRecDepth 20000 in
theorem ggX7_turnOver_X7_puts : GoodIn wsX7_turnOver wsX7_puts := goodIn_r _ [16, 1, 55, 56, 57, 58, 59, 60, 61, 62, 63, 64, 65, 66, 67, 68, 69, 70, 71, 72, 73] (by decide +kernel) (by decide +kernel)
set_option maxRecDepth 20000 in
theorem gX7_turnOver_X7_puts : GoodIn wsX7_turnOver (wsV RX7 100 RX7 yX7_puts wsX7_puts) := goodIn_app (goodIn_of _ (by decide +kernel)) ggX7_turnOver_X7_puts
set_option maxRecDepth 20000 in
theorem ggX7_turnOver_X7_winsOf : GoodIn wsX7_turnOver wsX7_winsOf := goodIn_r _ [20, 21, 22, 23, 5, 24, 25, 1, 26, 27, 28, 29, 30, 31, 32, 2, 3, 4, 6, 33, 34, 35, 36, 37, 38, 39, 40, 41, 42, 43, 44, 45, 46, 47, 48, 49, 50, 51, 52, 53, 54, 55, 56, 57, 58, 59, 60, 61, 62, 63, 64, 65, 66, 67, 68, 69, 70, 71, 72, 73] (by decide +kernel) (by decide +kernel)
set_option maxRecDepth 20000 in
theorem gX7_turnOver_X7_winsOf : GoodIn wsX7_turnOver (wsV RX7 94 RX7 yX7_winsOf wsX7_winsOf) := goodIn_app (goodIn_of _ (by decide +kernel)) ggX7_turnOver_X7_winsOf
theorem dX7_turnOver_0 : decode cX7_turnOver 0 = .ok (.iconst 0, 1) := by decide +kernel
theorem dX7_turnOver_1 : decode cX7_turnOver 1 = .ok (.istore_n 1, 1) := by decide +kernel
theorem dX7_turnOver_2 : decode cX7_turnOver 2 = .ok (.iload_n 1, 1) := by decide +kernel
theorem dX7_turnOver_3 : decode cX7_turnOver 3 = .ok (.aload_n 0, 1) := by decide +kernel
theorem dX7_turnOver_4 : decode cX7_turnOver 4 = .ok (.getfield 7, 3) := by decide +kernel
theorem dX7_turnOver_7 : decode cX7_turnOver 7 = .ok (.bipush 56, 2) := by decide +kernel
theorem dX7_turnOver_9 : decode cX7_turnOver 9 = .ok (.iaload, 1) := by decide +kernel
theorem dX7_turnOver_10 : decode cX7_turnOver 10 = .ok (.if_icmp .ge 23, 3) := by decide +kernel
theorem dX7_turnOver_13 : decode cX7_turnOver 13 = .ok (.aload_n 0, 1) := by decide +kernel
theorem dX7_turnOver_14 : decode cX7_turnOver 14 = .ok (.iload_n 1, 1) := by decide +kernel
theorem dX7_turnOver_15 : decode cX7_turnOver 15 = .ok (.iconst 1, 1) := by decide +kernel
theorem dX7_turnOver_16 : decode cX7_turnOver 16 = .ok (.invokevirtual 48, 3) := by decide +kernel
theorem dX7_turnOver_19 : decode cX7_turnOver 19 = .ok (.bipush 7, 2) := by decide +kernel
theorem dX7_turnOver_21 : decode cX7_turnOver 21 = .ok (.if_icmp .ne 6, 3) := by decide +kernel
theorem dX7_turnOver_24 : decode cX7_turnOver 24 = .ok (.bipush (-4), 2) := by decide +kernel
theorem dX7_turnOver_26 : decode cX7_turnOver 26 = .ok (.ireturn, 1) := by decide +kernel
theorem dX7_turnOver_27 : decode cX7_turnOver 27 = .ok (.iinc 1 1, 3) := by decide +kernel
theorem dX7_turnOver_30 : decode cX7_turnOver 30 = .ok (.goto (-28), 3) := by decide +kernel
theorem dX7_turnOver_33 : decode cX7_turnOver 33 = .ok (.aload_n 0, 1) := by decide +kernel
theorem dX7_turnOver_34 : decode cX7_turnOver 34 = .ok (.invokevirtual 97, 3) := by decide +kernel
theorem dX7_turnOver_37 : decode cX7_turnOver 37 = .ok (.iconst 0, 1) := by decide +kernel
theorem dX7_turnOver_38 : decode cX7_turnOver 38 = .ok (.istore_n 1, 1) := by decide +kernel
theorem dX7_turnOver_39 : decode cX7_turnOver 39 = .ok (.iload_n 1, 1) := by decide +kernel
theorem dX7_turnOver_40 : decode cX7_turnOver 40 = .ok (.aload_n 0, 1) := by decide +kernel
theorem dX7_turnOver_41 : decode cX7_turnOver 41 = .ok (.getfield 7, 3) := by decide +kernel
theorem dX7_turnOver_44 : decode cX7_turnOver 44 = .ok (.bipush 56, 2) := by decide +kernel
theorem dX7_turnOver_46 : decode cX7_turnOver 46 = .ok (.iaload, 1) := by decide +kernel
theorem dX7_turnOver_47 : decode cX7_turnOver 47 = .ok (.if_icmp .ge 37, 3) := by decide +kernel
theorem dX7_turnOver_50 : decode cX7_turnOver 50 = .ok (.aload_n 0, 1) := by decide +kernel
theorem dX7_turnOver_51 : decode cX7_turnOver 51 = .ok (.iload_n 1, 1) := by decide +kernel
theorem dX7_turnOver_52 : decode cX7_turnOver 52 = .ok (.iconst 0, 1) := by decide +kernel
theorem dX7_turnOver_53 : decode cX7_turnOver 53 = .ok (.iconst 1, 1) := by decide +kernel
theorem dX7_turnOver_54 : decode cX7_turnOver 54 = .ok (.aload_n 0, 1) := by decide +kernel
theorem dX7_turnOver_55 : decode cX7_turnOver 55 = .ok (.iload_n 1, 1) := by decide +kernel
theorem dX7_turnOver_56 : decode cX7_turnOver 56 = .ok (.iconst 0, 1) := by decide +kernel
theorem dX7_turnOver_57 : decode cX7_turnOver 57 = .ok (.invokevirtual 48, 3) := by decide +kernel
theorem dX7_turnOver_60 : decode cX7_turnOver 60 = .ok (.isub, 1) := by decide +kernel
theorem dX7_turnOver_61 : decode cX7_turnOver 61 = .ok (.invokevirtual 100, 3) := by decide +kernel
theorem dX7_turnOver_64 : decode cX7_turnOver 64 = .ok (.aload_n 0, 1) := by decide +kernel
theorem dX7_turnOver_65 : decode cX7_turnOver 65 = .ok (.iload_n 1, 1) := by decide +kernel
theorem dX7_turnOver_66 : decode cX7_turnOver 66 = .ok (.iconst 1, 1) := by decide +kernel
theorem dX7_turnOver_67 : decode cX7_turnOver 67 = .ok (.aload_n 0, 1) := by decide +kernel
theorem dX7_turnOver_68 : decode cX7_turnOver 68 = .ok (.iload_n 1, 1) := by decide +kernel
theorem dX7_turnOver_69 : decode cX7_turnOver 69 = .ok (.iconst 1, 1) := by decide +kernel
theorem dX7_turnOver_70 : decode cX7_turnOver 70 = .ok (.invokevirtual 48, 3) := by decide +kernel
theorem dX7_turnOver_73 : decode cX7_turnOver 73 = .ok (.iconst 1, 1) := by decide +kernel
theorem dX7_turnOver_74 : decode cX7_turnOver 74 = .ok (.iadd, 1) := by decide +kernel
theorem dX7_turnOver_75 : decode cX7_turnOver 75 = .ok (.invokevirtual 100, 3) := by decide +kernel
theorem dX7_turnOver_78 : decode cX7_turnOver 78 = .ok (.iinc 1 1, 3) := by decide +kernel
theorem dX7_turnOver_81 : decode cX7_turnOver 81 = .ok (.goto (-42), 3) := by decide +kernel
theorem dX7_turnOver_84 : decode cX7_turnOver 84 = .ok (.aload_n 0, 1) := by decide +kernel
theorem dX7_turnOver_85 : decode cX7_turnOver 85 = .ok (.iconst 1, 1) := by decide +kernel
theorem dX7_turnOver_86 : decode cX7_turnOver 86 = .ok (.invokevirtual 94, 3) := by decide +kernel
theorem dX7_turnOver_89 : decode cX7_turnOver 89 = .ok (.ireturn, 1) := by decide +kernel
set_option maxRecDepth 20000 in
theorem ggX7_choose_X7_no : GoodIn wsX7_choose wsX7_no := goodIn_r _ [5, 6, 7, 8, 4, 9, 28, 29, 30, 31, 32, 33, 34, 35, 36, 37, 38, 39, 40, 41, 42, 43, 44, 45, 46] (by decide +kernel) (by decide +kernel)
set_option maxRecDepth 20000 in
theorem gX7_choose_X7_no : GoodIn wsX7_choose (wsV RX7 104 RX7 yX7_no wsX7_no) := goodIn_app (goodIn_of _ (by decide +kernel)) ggX7_choose_X7_no
set_option maxRecDepth 20000 in
theorem ggX7_choose_X7_in : GoodIn wsX7_choose wsX7_in := goodIn_r _ [9] (by decide +kernel) (by decide +kernel)
set_option maxRecDepth 20000 in
theorem gX7_choose_X7_in : GoodIn wsX7_choose (va_wsS RX7 44 yX7_in wsX7_in) := goodIn_app (goodIn_of _ (by decide +kernel)) ggX7_choose_X7_in
set_option maxRecDepth 20000 in
theorem ggX7_choose_X7_hasArrow : GoodIn wsX7_choose wsX7_hasArrow := goodIn_r _ [13, 14, 15, 16, 4, 17, 6, 28, 29, 30, 31, 32, 33, 34, 35, 36, 37, 38, 39, 40, 41, 42, 43, 44, 45, 46] (by decide +kernel) (by decide +kernel)
set_option maxRecDepth 20000 in
theorem gX7_choose_X7_hasArrow : GoodIn wsX7_choose (wsV RX7 67 RX7 yX7_hasArrow wsX7_hasArrow) := goodIn_app (goodIn_of _ (by decide +kernel)) ggX7_choose_X7_hasArrow
set_option maxRecDepth 20000 in
theorem ggX7_choose_X7_of : GoodIn wsX7_choose wsX7_of := goodIn_r _ [17, 6, 28, 29, 30, 31, 32, 33, 34, 35, 36, 37, 38, 39, 40, 41, 42, 43, 44, 45, 46] (by decide +kernel) (by decide +kernel)
set_option maxRecDepth 20000 in
theorem gX7_choose_X7_of : GoodIn wsX7_choose (wsV RX7 48 RX7 yX7_of wsX7_of) := goodIn_app (goodIn_of _ (by decide +kernel)) ggX7_choose_X7_of
set_option maxRecDepth 20000 in
theorem ggX7_choose_X7_record : GoodIn wsX7_choose wsX7_record := goodIn_r _ [21, 22, 23, 6, 28, 29, 30, 31, 32, 33, 34, 35, 36, 37, 38, 39, 40, 41, 42, 43, 44, 45, 46] (by decide +kernel) (by decide +kernel)
set_option maxRecDepth 20000 in
theorem gX7_choose_X7_record : GoodIn wsX7_choose (wsV RX7 97 RX7 yX7_record wsX7_record) := goodIn_app (goodIn_of _ (by decide +kernel)) ggX7_choose_X7_record
set_option maxRecDepth 20000 in
theorem ggX7_choose_X7_puts : GoodIn wsX7_choose wsX7_puts := goodIn_r _ [27, 6, 28, 29, 30, 31, 32, 33, 34, 35, 36, 37, 38, 39, 40, 41, 42, 43, 44, 45, 46] (by decide +kernel) (by decide +kernel)
set_option maxRecDepth 20000 in
theorem gX7_choose_X7_puts : GoodIn wsX7_choose (wsV RX7 100 RX7 yX7_puts wsX7_puts) := goodIn_app (goodIn_of _ (by decide +kernel)) ggX7_choose_X7_puts
theorem dX7_choose_0 : decode cX7_choose 0 = .ok (.aload_n 0, 1) := by decide +kernel
theorem dX7_choose_1 : decode cX7_choose 1 = .ok (.iload_n 1, 1) := by decide +kernel
theorem dX7_choose_2 : decode cX7_choose 2 = .ok (.invokevirtual 104, 3) := by decide +kernel
theorem dX7_choose_5 : decode cX7_choose 5 = .ok (.ifCond .eq 5, 3) := by decide +kernel
theorem dX7_choose_8 : decode cX7_choose 8 = .ok (.iconst (-1), 1) := by decide +kernel
theorem dX7_choose_9 : decode cX7_choose 9 = .ok (.ireturn, 1) := by decide +kernel
theorem dX7_choose_10 : decode cX7_choose 10 = .ok (.iload_n 2, 1) := by decide +kernel
theorem dX7_choose_11 : decode cX7_choose 11 = .ok (.iconst 0, 1) := by decide +kernel
theorem dX7_choose_12 : decode cX7_choose 12 = .ok (.bipush 14, 2) := by decide +kernel
theorem dX7_choose_14 : decode cX7_choose 14 = .ok (.invokestatic 44, 3) := by decide +kernel
theorem dX7_choose_17 : decode cX7_choose 17 = .ok (.ifCond .ne 6, 3) := by decide +kernel
theorem dX7_choose_20 : decode cX7_choose 20 = .ok (.bipush (-2), 2) := by decide +kernel
theorem dX7_choose_22 : decode cX7_choose 22 = .ok (.ireturn, 1) := by decide +kernel
theorem dX7_choose_23 : decode cX7_choose 23 = .ok (.iload_n 2, 1) := by decide +kernel
theorem dX7_choose_24 : decode cX7_choose 24 = .ok (.bipush 14, 2) := by decide +kernel
theorem dX7_choose_26 : decode cX7_choose 26 = .ok (.if_icmp .ge 15, 3) := by decide +kernel
theorem dX7_choose_29 : decode cX7_choose 29 = .ok (.aload_n 0, 1) := by decide +kernel
theorem dX7_choose_30 : decode cX7_choose 30 = .ok (.iload_n 1, 1) := by decide +kernel
theorem dX7_choose_31 : decode cX7_choose 31 = .ok (.iload_n 2, 1) := by decide +kernel
theorem dX7_choose_32 : decode cX7_choose 32 = .ok (.invokevirtual 67, 3) := by decide +kernel
theorem dX7_choose_35 : decode cX7_choose 35 = .ok (.ifCond .ne 6, 3) := by decide +kernel
theorem dX7_choose_38 : decode cX7_choose 38 = .ok (.bipush (-4), 2) := by decide +kernel
theorem dX7_choose_40 : decode cX7_choose 40 = .ok (.ireturn, 1) := by decide +kernel
theorem dX7_choose_41 : decode cX7_choose 41 = .ok (.aload_n 0, 1) := by decide +kernel
theorem dX7_choose_42 : decode cX7_choose 42 = .ok (.iload_n 1, 1) := by decide +kernel
theorem dX7_choose_43 : decode cX7_choose 43 = .ok (.iconst 3, 1) := by decide +kernel
theorem dX7_choose_44 : decode cX7_choose 44 = .ok (.invokevirtual 48, 3) := by decide +kernel
theorem dX7_choose_47 : decode cX7_choose 47 = .ok (.istore_n 3, 1) := by decide +kernel
theorem dX7_choose_48 : decode cX7_choose 48 = .ok (.iload_n 3, 1) := by decide +kernel
theorem dX7_choose_49 : decode cX7_choose 49 = .ok (.iload_n 2, 1) := by decide +kernel
theorem dX7_choose_50 : decode cX7_choose 50 = .ok (.if_icmp .ne 6, 3) := by decide +kernel
theorem dX7_choose_53 : decode cX7_choose 53 = .ok (.bipush (-5), 2) := by decide +kernel
theorem dX7_choose_55 : decode cX7_choose 55 = .ok (.ireturn, 1) := by decide +kernel
theorem dX7_choose_56 : decode cX7_choose 56 = .ok (.aload_n 0, 1) := by decide +kernel
theorem dX7_choose_57 : decode cX7_choose 57 = .ok (.invokevirtual 97, 3) := by decide +kernel
theorem dX7_choose_60 : decode cX7_choose 60 = .ok (.aload_n 0, 1) := by decide +kernel
theorem dX7_choose_61 : decode cX7_choose 61 = .ok (.iload_n 1, 1) := by decide +kernel
theorem dX7_choose_62 : decode cX7_choose 62 = .ok (.iconst 3, 1) := by decide +kernel
theorem dX7_choose_63 : decode cX7_choose 63 = .ok (.iload_n 2, 1) := by decide +kernel
theorem dX7_choose_64 : decode cX7_choose 64 = .ok (.invokevirtual 100, 3) := by decide +kernel
theorem dX7_choose_67 : decode cX7_choose 67 = .ok (.iload_n 3, 1) := by decide +kernel
theorem dX7_choose_68 : decode cX7_choose 68 = .ok (.ireturn, 1) := by decide +kernel
set_option maxRecDepth 20000 in
theorem ggX7_chooseWell_X7_noPlayer : GoodIn wsX7_chooseWell wsX7_noPlayer := goodIn_r _ [5, 6, 7, 4, 8] (by decide +kernel) (by decide +kernel)
set_option maxRecDepth 20000 in
theorem gX7_chooseWell_X7_noPlayer : GoodIn wsX7_chooseWell (va_wsS RX7 111 yX7_noPlayer wsX7_noPlayer) := goodIn_app (goodIn_of _ (by decide +kernel)) ggX7_chooseWell_X7_noPlayer
set_option maxRecDepth 20000 in
theorem ggX7_chooseWell_X7_record : GoodIn wsX7_chooseWell wsX7_record := goodIn_r _ [12, 13, 14, 1, 57, 58, 59, 60, 61, 62, 63, 64, 65, 66, 67, 68, 69, 70, 71, 72, 73, 74, 75] (by decide +kernel) (by decide +kernel)
set_option maxRecDepth 20000 in
theorem gX7_chooseWell_X7_record : GoodIn wsX7_chooseWell (wsV RX7 97 RX7 yX7_record wsX7_record) := goodIn_app (goodIn_of _ (by decide +kernel)) ggX7_chooseWell_X7_record
set_option maxRecDepth 20000 in
theorem ggX7_chooseWell_X7_finds : GoodIn wsX7_chooseWell wsX7_finds := goodIn_r _ [18, 19, 1, 20, 21, 22, 23, 24, 25, 4, 26, 27, 28, 29, 30, 31, 32, 33, 34, 35, 36, 37, 38, 39, 40, 41, 42, 43, 44, 45, 46, 47, 48, 57, 58, 59, 60, 61, 62, 63, 64, 65, 66, 67, 68, 69, 70, 71, 72, 73, 74, 75] (by decide +kernel) (by decide +kernel)
set_option maxRecDepth 20000 in
theorem gX7_chooseWell_X7_finds : GoodIn wsX7_chooseWell (wsV RX7 83 RX7 yX7_finds wsX7_finds) := goodIn_app (goodIn_of _ (by decide +kernel)) ggX7_chooseWell_X7_finds
set_option maxRecDepth 20000 in
theorem ggX7_chooseWell_X7_of : GoodIn wsX7_chooseWell wsX7_of := goodIn_r _ [30, 1, 57, 58, 59, 60, 61, 62, 63, 64, 65, 66, 67, 68, 69, 70, 71, 72, 73, 74, 75] (by decide +kernel) (by decide +kernel)
set_option maxRecDepth 20000 in
theorem gX7_chooseWell_X7_of : GoodIn wsX7_chooseWell (wsV RX7 48 RX7 yX7_of wsX7_of) := goodIn_app (goodIn_of _ (by decide +kernel)) ggX7_chooseWell_X7_of
set_option maxRecDepth 20000 in
theorem ggX7_chooseWell_X7_choiceAt : GoodIn wsX7_chooseWell wsX7_choiceAt := goodIn_r _ [52, 35, 1, 21, 40, 41, 42, 4, 43, 27, 28, 29, 30, 23, 24, 25, 26, 19, 44, 45, 46, 47, 48, 20, 57, 58, 59, 60, 61, 62, 63, 64, 65, 66, 67, 68, 69, 70, 71, 72, 73, 74, 75] (by decide +kernel) (by decide +kernel)
set_option maxRecDepth 20000 in
theorem gX7_chooseWell_X7_choiceAt : GoodIn wsX7_chooseWell (wsV RX7 91 RX7 yX7_choiceAt wsX7_choiceAt) := goodIn_app (goodIn_of _ (by decide +kernel)) ggX7_chooseWell_X7_choiceAt
set_option maxRecDepth 20000 in
theorem ggX7_chooseWell_X7_puts : GoodIn wsX7_chooseWell wsX7_puts := goodIn_r _ [56, 1, 57, 58, 59, 60, 61, 62, 63, 64, 65, 66, 67, 68, 69, 70, 71, 72, 73, 74, 75] (by decide +kernel) (by decide +kernel)
set_option maxRecDepth 20000 in
theorem gX7_chooseWell_X7_puts : GoodIn wsX7_chooseWell (wsV RX7 100 RX7 yX7_puts wsX7_puts) := goodIn_app (goodIn_of _ (by decide +kernel)) ggX7_chooseWell_X7_puts
theorem dX7_chooseWell_0 : decode cX7_chooseWell 0 = .ok (.iload_n 1, 1) := by decide +kernel
theorem dX7_chooseWell_1 : decode cX7_chooseWell 1 = .ok (.invokestatic 111, 3) := by decide +kernel
theorem dX7_chooseWell_4 : decode cX7_chooseWell 4 = .ok (.ifCond .eq 5, 3) := by decide +kernel
theorem dX7_chooseWell_7 : decode cX7_chooseWell 7 = .ok (.iconst (-1), 1) := by decide +kernel
theorem dX7_chooseWell_8 : decode cX7_chooseWell 8 = .ok (.ireturn, 1) := by decide +kernel
theorem dX7_chooseWell_9 : decode cX7_chooseWell 9 = .ok (.aload_n 0, 1) := by decide +kernel
theorem dX7_chooseWell_10 : decode cX7_chooseWell 10 = .ok (.invokevirtual 97, 3) := by decide +kernel
theorem dX7_chooseWell_13 : decode cX7_chooseWell 13 = .ok (.aload_n 0, 1) := by decide +kernel
theorem dX7_chooseWell_14 : decode cX7_chooseWell 14 = .ok (.iload_n 1, 1) := by decide +kernel
theorem dX7_chooseWell_15 : decode cX7_chooseWell 15 = .ok (.invokevirtual 83, 3) := by decide +kernel
theorem dX7_chooseWell_18 : decode cX7_chooseWell 18 = .ok (.iconst 0, 1) := by decide +kernel
theorem dX7_chooseWell_19 : decode cX7_chooseWell 19 = .ok (.istore_n 2, 1) := by decide +kernel
theorem dX7_chooseWell_20 : decode cX7_chooseWell 20 = .ok (.iconst 0, 1) := by decide +kernel
theorem dX7_chooseWell_21 : decode cX7_chooseWell 21 = .ok (.istore_n 3, 1) := by decide +kernel
theorem dX7_chooseWell_22 : decode cX7_chooseWell 22 = .ok (.iload_n 3, 1) := by decide +kernel
theorem dX7_chooseWell_23 : decode cX7_chooseWell 23 = .ok (.aload_n 0, 1) := by decide +kernel
theorem dX7_chooseWell_24 : decode cX7_chooseWell 24 = .ok (.getfield 7, 3) := by decide +kernel
theorem dX7_chooseWell_27 : decode cX7_chooseWell 27 = .ok (.bipush 56, 2) := by decide +kernel
theorem dX7_chooseWell_29 : decode cX7_chooseWell 29 = .ok (.iaload, 1) := by decide +kernel
theorem dX7_chooseWell_30 : decode cX7_chooseWell 30 = .ok (.if_icmp .ge 61, 3) := by decide +kernel
theorem dX7_chooseWell_33 : decode cX7_chooseWell 33 = .ok (.aload_n 0, 1) := by decide +kernel
theorem dX7_chooseWell_34 : decode cX7_chooseWell 34 = .ok (.iload_n 3, 1) := by decide +kernel
theorem dX7_chooseWell_35 : decode cX7_chooseWell 35 = .ok (.iconst 0, 1) := by decide +kernel
theorem dX7_chooseWell_36 : decode cX7_chooseWell 36 = .ok (.invokevirtual 48, 3) := by decide +kernel
theorem dX7_chooseWell_39 : decode cX7_chooseWell 39 = .ok (.iload_n 1, 1) := by decide +kernel
theorem dX7_chooseWell_40 : decode cX7_chooseWell 40 = .ok (.if_icmp .ne 45, 3) := by decide +kernel
theorem dX7_chooseWell_43 : decode cX7_chooseWell 43 = .ok (.aload_n 0, 1) := by decide +kernel
theorem dX7_chooseWell_44 : decode cX7_chooseWell 44 = .ok (.iload_n 3, 1) := by decide +kernel
theorem dX7_chooseWell_45 : decode cX7_chooseWell 45 = .ok (.invokevirtual 91, 3) := by decide +kernel
theorem dX7_chooseWell_48 : decode cX7_chooseWell 48 = .ok (.istore 4, 2) := by decide +kernel
theorem dX7_chooseWell_50 : decode cX7_chooseWell 50 = .ok (.aload_n 0, 1) := by decide +kernel
theorem dX7_chooseWell_51 : decode cX7_chooseWell 51 = .ok (.iload_n 3, 1) := by decide +kernel
theorem dX7_chooseWell_52 : decode cX7_chooseWell 52 = .ok (.iconst 3, 1) := by decide +kernel
theorem dX7_chooseWell_53 : decode cX7_chooseWell 53 = .ok (.iload 4, 2) := by decide +kernel
theorem dX7_chooseWell_55 : decode cX7_chooseWell 55 = .ok (.bipush (-5), 2) := by decide +kernel
theorem dX7_chooseWell_57 : decode cX7_chooseWell 57 = .ok (.if_icmp .ne 8, 3) := by decide +kernel
theorem dX7_chooseWell_60 : decode cX7_chooseWell 60 = .ok (.bipush 14, 2) := by decide +kernel
theorem dX7_chooseWell_62 : decode cX7_chooseWell 62 = .ok (.goto 5, 3) := by decide +kernel
theorem dX7_chooseWell_65 : decode cX7_chooseWell 65 = .ok (.iload 4, 2) := by decide +kernel
theorem dX7_chooseWell_67 : decode cX7_chooseWell 67 = .ok (.invokevirtual 100, 3) := by decide +kernel
theorem dX7_chooseWell_70 : decode cX7_chooseWell 70 = .ok (.iload_n 2, 1) := by decide +kernel
theorem dX7_chooseWell_71 : decode cX7_chooseWell 71 = .ok (.iload 4, 2) := by decide +kernel
theorem dX7_chooseWell_73 : decode cX7_chooseWell 73 = .ok (.bipush (-5), 2) := by decide +kernel
theorem dX7_chooseWell_75 : decode cX7_chooseWell 75 = .ok (.if_icmp .ne 7, 3) := by decide +kernel
theorem dX7_chooseWell_78 : decode cX7_chooseWell 78 = .ok (.iconst 0, 1) := by decide +kernel
theorem dX7_chooseWell_79 : decode cX7_chooseWell 79 = .ok (.goto 4, 3) := by decide +kernel
theorem dX7_chooseWell_82 : decode cX7_chooseWell 82 = .ok (.iconst 1, 1) := by decide +kernel
theorem dX7_chooseWell_83 : decode cX7_chooseWell 83 = .ok (.iadd, 1) := by decide +kernel
theorem dX7_chooseWell_84 : decode cX7_chooseWell 84 = .ok (.istore_n 2, 1) := by decide +kernel
theorem dX7_chooseWell_85 : decode cX7_chooseWell 85 = .ok (.iinc 3 1, 3) := by decide +kernel
theorem dX7_chooseWell_88 : decode cX7_chooseWell 88 = .ok (.goto (-66), 3) := by decide +kernel
theorem dX7_chooseWell_91 : decode cX7_chooseWell 91 = .ok (.iload_n 2, 1) := by decide +kernel
theorem dX7_chooseWell_92 : decode cX7_chooseWell 92 = .ok (.ireturn, 1) := by decide +kernel
set_option maxRecDepth 20000 in
theorem ggX7_start_X7_no : GoodIn wsX7_start wsX7_no := goodIn_r _ [6, 1, 7, 8, 5, 9, 62, 63, 64, 65, 66, 67, 68, 69, 70, 71, 72, 73, 74, 75, 76, 77, 78, 79, 80] (by decide +kernel) (by decide +kernel)
set_option maxRecDepth 20000 in
theorem gX7_start_X7_no : GoodIn wsX7_start (wsV RX7 104 RX7 yX7_no wsX7_no) := goodIn_app (goodIn_of _ (by decide +kernel)) ggX7_start_X7_no
set_option maxRecDepth 20000 in
theorem ggX7_start_X7_record : GoodIn wsX7_start wsX7_record := goodIn_r _ [13, 14, 15, 1, 62, 63, 64, 65, 66, 67, 68, 69, 70, 71, 72, 73, 74, 75, 76, 77, 78, 79, 80] (by decide +kernel) (by decide +kernel)
set_option maxRecDepth 20000 in
theorem gX7_start_X7_record : GoodIn wsX7_start (wsV RX7 97 RX7 yX7_record wsX7_record) := goodIn_app (goodIn_of _ (by decide +kernel)) ggX7_start_X7_record
set_option maxRecDepth 20000 in
theorem ggX7_start_X7_winner : GoodIn wsX7_start wsX7_winner := goodIn_r _ [19, 20, 21, 22, 5, 23, 24, 25, 26, 27, 28, 1, 29, 30, 31, 32, 33, 34, 35, 36, 37, 38, 39, 40, 41, 42, 43, 44, 45, 46, 47, 48, 49, 50, 51, 52, 53, 54, 55, 56, 57, 58, 59, 60, 61, 62, 63, 64, 65, 66, 67, 68, 69, 70, 71, 72, 73, 74, 75, 76, 77, 78, 79, 80] (by decide +kernel) (by decide +kernel)
set_option maxRecDepth 20000 in
theorem gX7_start_X7_winner : GoodIn wsX7_start (wsV RX7 114 RX7 yX7_winner wsX7_winner) := goodIn_app (goodIn_of _ (by decide +kernel)) ggX7_start_X7_winner
theorem dX7_start_0 : decode cX7_start 0 = .ok (.aload_n 0, 1) := by decide +kernel
theorem dX7_start_1 : decode cX7_start 1 = .ok (.iload_n 1, 1) := by decide +kernel
theorem dX7_start_2 : decode cX7_start 2 = .ok (.invokevirtual 104, 3) := by decide +kernel
theorem dX7_start_5 : decode cX7_start 5 = .ok (.ifCond .eq 5, 3) := by decide +kernel
theorem dX7_start_8 : decode cX7_start 8 = .ok (.iconst (-1), 1) := by decide +kernel
theorem dX7_start_9 : decode cX7_start 9 = .ok (.ireturn, 1) := by decide +kernel
theorem dX7_start_10 : decode cX7_start 10 = .ok (.aload_n 0, 1) := by decide +kernel
theorem dX7_start_11 : decode cX7_start 11 = .ok (.invokevirtual 97, 3) := by decide +kernel
theorem dX7_start_14 : decode cX7_start 14 = .ok (.aload_n 0, 1) := by decide +kernel
theorem dX7_start_15 : decode cX7_start 15 = .ok (.getfield 7, 3) := by decide +kernel
theorem dX7_start_18 : decode cX7_start 18 = .ok (.bipush 57, 2) := by decide +kernel
theorem dX7_start_20 : decode cX7_start 20 = .ok (.iload_n 1, 1) := by decide +kernel
theorem dX7_start_21 : decode cX7_start 21 = .ok (.iastore, 1) := by decide +kernel
theorem dX7_start_22 : decode cX7_start 22 = .ok (.aload_n 0, 1) := by decide +kernel
theorem dX7_start_23 : decode cX7_start 23 = .ok (.getfield 7, 3) := by decide +kernel
theorem dX7_start_26 : decode cX7_start 26 = .ok (.bipush 58, 2) := by decide +kernel
theorem dX7_start_28 : decode cX7_start 28 = .ok (.iconst 0, 1) := by decide +kernel
theorem dX7_start_29 : decode cX7_start 29 = .ok (.iastore, 1) := by decide +kernel
theorem dX7_start_30 : decode cX7_start 30 = .ok (.aload_n 0, 1) := by decide +kernel
theorem dX7_start_31 : decode cX7_start 31 = .ok (.iload_n 1, 1) := by decide +kernel
theorem dX7_start_32 : decode cX7_start 32 = .ok (.invokevirtual 114, 3) := by decide +kernel
theorem dX7_start_35 : decode cX7_start 35 = .ok (.ireturn, 1) := by decide +kernel
set_option maxRecDepth 20000 in
theorem ggX7_goesTo_X7_of : GoodIn wsX7_goesTo wsX7_of := goodIn_r _ [5, 6, 48, 49, 50, 51, 52, 53, 54, 55, 56, 57, 58, 59, 60, 61, 62, 63, 64, 65, 66] (by decide +kernel) (by decide +kernel)
set_option maxRecDepth 20000 in
theorem gX7_goesTo_X7_of : GoodIn wsX7_goesTo (wsV RX7 48 RX7 yX7_of wsX7_of) := goodIn_app (goodIn_of _ (by decide +kernel)) ggX7_goesTo_X7_of
set_option maxRecDepth 20000 in
theorem ggX7_goesTo_X7_bestChoice : GoodIn wsX7_goesTo wsX7_bestChoice := goodIn_r _ [10, 1, 2, 3, 4, 5, 6, 11, 12, 13, 14, 15, 16, 17, 18, 19, 20, 21, 22, 23, 24, 25, 26, 27, 28, 29, 30, 31, 32, 33, 34, 35, 36, 37, 38, 39, 40, 41, 42, 43, 44, 48, 49, 50, 51, 52, 53, 54, 55, 56, 57, 58, 59, 60, 61, 62, 63, 64, 65, 66] (by decide +kernel) (by decide +kernel)
set_option maxRecDepth 20000 in
theorem gX7_goesTo_X7_bestChoice : GoodIn wsX7_goesTo (wsV RX7 117 RX7 yX7_bestChoice wsX7_bestChoice) := goodIn_app (goodIn_of _ (by decide +kernel)) ggX7_goesTo_X7_bestChoice
set_option maxRecDepth 20000 in
theorem ggX7_goesTo_X7_lowest : GoodIn wsX7_goesTo wsX7_lowest := goodIn_r _ [47] (by decide +kernel) (by decide +kernel)
set_option maxRecDepth 20000 in
theorem gX7_goesTo_X7_lowest : GoodIn wsX7_goesTo (va_wsS RX7 120 yX7_lowest wsX7_lowest) := goodIn_app (goodIn_of _ (by decide +kernel)) ggX7_goesTo_X7_lowest
theorem dX7_goesTo_0 : decode cX7_goesTo 0 = .ok (.aload_n 0, 1) := by decide +kernel
theorem dX7_goesTo_1 : decode cX7_goesTo 1 = .ok (.iload_n 1, 1) := by decide +kernel
theorem dX7_goesTo_2 : decode cX7_goesTo 2 = .ok (.iconst 3, 1) := by decide +kernel
theorem dX7_goesTo_3 : decode cX7_goesTo 3 = .ok (.invokevirtual 48, 3) := by decide +kernel
theorem dX7_goesTo_6 : decode cX7_goesTo 6 = .ok (.bipush 14, 2) := by decide +kernel
theorem dX7_goesTo_8 : decode cX7_goesTo 8 = .ok (.if_icmp .ge 10, 3) := by decide +kernel
theorem dX7_goesTo_11 : decode cX7_goesTo 11 = .ok (.aload_n 0, 1) := by decide +kernel
theorem dX7_goesTo_12 : decode cX7_goesTo 12 = .ok (.iload_n 1, 1) := by decide +kernel
theorem dX7_goesTo_13 : decode cX7_goesTo 13 = .ok (.iconst 3, 1) := by decide +kernel
theorem dX7_goesTo_14 : decode cX7_goesTo 14 = .ok (.invokevirtual 48, 3) := by decide +kernel
theorem dX7_goesTo_17 : decode cX7_goesTo 17 = .ok (.ireturn, 1) := by decide +kernel
theorem dX7_goesTo_18 : decode cX7_goesTo 18 = .ok (.aload_n 0, 1) := by decide +kernel
theorem dX7_goesTo_19 : decode cX7_goesTo 19 = .ok (.iload_n 1, 1) := by decide +kernel
theorem dX7_goesTo_20 : decode cX7_goesTo 20 = .ok (.invokevirtual 117, 3) := by decide +kernel
theorem dX7_goesTo_23 : decode cX7_goesTo 23 = .ok (.istore_n 2, 1) := by decide +kernel
theorem dX7_goesTo_24 : decode cX7_goesTo 24 = .ok (.iload_n 2, 1) := by decide +kernel
theorem dX7_goesTo_25 : decode cX7_goesTo 25 = .ok (.bipush (-5), 2) := by decide +kernel
theorem dX7_goesTo_27 : decode cX7_goesTo 27 = .ok (.if_icmp .eq 7, 3) := by decide +kernel
theorem dX7_goesTo_30 : decode cX7_goesTo 30 = .ok (.iload_n 2, 1) := by decide +kernel
theorem dX7_goesTo_31 : decode cX7_goesTo 31 = .ok (.goto 26, 3) := by decide +kernel
theorem dX7_goesTo_34 : decode cX7_goesTo 34 = .ok (.aload_n 0, 1) := by decide +kernel
theorem dX7_goesTo_35 : decode cX7_goesTo 35 = .ok (.iload_n 1, 1) := by decide +kernel
theorem dX7_goesTo_36 : decode cX7_goesTo 36 = .ok (.iconst 2, 1) := by decide +kernel
theorem dX7_goesTo_37 : decode cX7_goesTo 37 = .ok (.invokevirtual 48, 3) := by decide +kernel
theorem dX7_goesTo_40 : decode cX7_goesTo 40 = .ok (.ifCond .ne 8, 3) := by decide +kernel
theorem dX7_goesTo_43 : decode cX7_goesTo 43 = .ok (.bipush (-5), 2) := by decide +kernel
theorem dX7_goesTo_45 : decode cX7_goesTo 45 = .ok (.goto 12, 3) := by decide +kernel
theorem dX7_goesTo_48 : decode cX7_goesTo 48 = .ok (.aload_n 0, 1) := by decide +kernel
theorem dX7_goesTo_49 : decode cX7_goesTo 49 = .ok (.iload_n 1, 1) := by decide +kernel
theorem dX7_goesTo_50 : decode cX7_goesTo 50 = .ok (.iconst 2, 1) := by decide +kernel
theorem dX7_goesTo_51 : decode cX7_goesTo 51 = .ok (.invokevirtual 48, 3) := by decide +kernel
theorem dX7_goesTo_54 : decode cX7_goesTo 54 = .ok (.invokestatic 120, 3) := by decide +kernel
theorem dX7_goesTo_57 : decode cX7_goesTo 57 = .ok (.ireturn, 1) := by decide +kernel
set_option maxRecDepth 20000 in
theorem ggX7_step_X7_in : GoodIn wsX7_step wsX7_in := goodIn_r _ [5] (by decide +kernel) (by decide +kernel)
set_option maxRecDepth 20000 in
theorem gX7_step_X7_in : GoodIn wsX7_step (va_wsS RX7 44 yX7_in wsX7_in) := goodIn_app (goodIn_of _ (by decide +kernel)) ggX7_step_X7_in
set_option maxRecDepth 20000 in
theorem ggX7_step_X7_of : GoodIn wsX7_step wsX7_of := goodIn_r _ [9, 1, 61, 62, 63, 64, 65, 66, 67, 68, 69, 70, 71, 72, 73, 74, 75, 76, 77, 78, 79] (by decide +kernel) (by decide +kernel)
set_option maxRecDepth 20000 in
theorem gX7_step_X7_of : GoodIn wsX7_step (wsV RX7 48 RX7 yX7_of wsX7_of) := goodIn_app (goodIn_of _ (by decide +kernel)) ggX7_step_X7_of
set_option maxRecDepth 20000 in
theorem ggX7_step_X7_record : GoodIn wsX7_step wsX7_record := goodIn_r _ [13, 14, 15, 1, 61, 62, 63, 64, 65, 66, 67, 68, 69, 70, 71, 72, 73, 74, 75, 76, 77, 78, 79] (by decide +kernel) (by decide +kernel)
set_option maxRecDepth 20000 in
theorem gX7_step_X7_record : GoodIn wsX7_step (wsV RX7 97 RX7 yX7_record wsX7_record) := goodIn_app (goodIn_of _ (by decide +kernel)) ggX7_step_X7_record
set_option maxRecDepth 20000 in
theorem ggX7_step_X7_goesTo : GoodIn wsX7_step wsX7_goesTo := goodIn_r _ [19, 6, 7, 8, 4, 9, 1, 20, 21, 22, 23, 24, 25, 26, 27, 28, 29, 30, 31, 32, 33, 34, 35, 36, 37, 38, 39, 40, 41, 42, 43, 44, 45, 46, 47, 48, 49, 50, 51, 52, 53, 54, 55, 56, 57, 58, 59, 60, 61, 62, 63, 64, 65, 66, 67, 68, 69, 70, 71, 72, 73, 74, 75, 76, 77, 78, 79] (by decide +kernel) (by decide +kernel)
set_option maxRecDepth 20000 in
theorem gX7_step_X7_goesTo : GoodIn wsX7_step (wsV RX7 123 RX7 yX7_goesTo wsX7_goesTo) := goodIn_app (goodIn_of _ (by decide +kernel)) ggX7_step_X7_goesTo
theorem dX7_step_0 : decode cX7_step 0 = .ok (.iload_n 1, 1) := by decide +kernel
theorem dX7_step_1 : decode cX7_step 1 = .ok (.iconst 1, 1) := by decide +kernel
theorem dX7_step_2 : decode cX7_step 2 = .ok (.bipush 50, 2) := by decide +kernel
theorem dX7_step_4 : decode cX7_step 4 = .ok (.invokestatic 44, 3) := by decide +kernel
theorem dX7_step_7 : decode cX7_step 7 = .ok (.ifCond .ne 6, 3) := by decide +kernel
theorem dX7_step_10 : decode cX7_step 10 = .ok (.bipush (-2), 2) := by decide +kernel
theorem dX7_step_12 : decode cX7_step 12 = .ok (.ireturn, 1) := by decide +kernel
theorem dX7_step_13 : decode cX7_step 13 = .ok (.aload_n 0, 1) := by decide +kernel
theorem dX7_step_14 : decode cX7_step 14 = .ok (.getfield 7, 3) := by decide +kernel
theorem dX7_step_17 : decode cX7_step 17 = .ok (.bipush 57, 2) := by decide +kernel
theorem dX7_step_19 : decode cX7_step 19 = .ok (.iaload, 1) := by decide +kernel
theorem dX7_step_20 : decode cX7_step 20 = .ok (.ifCond .lt 18, 3) := by decide +kernel
theorem dX7_step_23 : decode cX7_step 23 = .ok (.aload_n 0, 1) := by decide +kernel
theorem dX7_step_24 : decode cX7_step 24 = .ok (.aload_n 0, 1) := by decide +kernel
theorem dX7_step_25 : decode cX7_step 25 = .ok (.getfield 7, 3) := by decide +kernel
theorem dX7_step_28 : decode cX7_step 28 = .ok (.bipush 57, 2) := by decide +kernel
theorem dX7_step_30 : decode cX7_step 30 = .ok (.iaload, 1) := by decide +kernel
theorem dX7_step_31 : decode cX7_step 31 = .ok (.iconst 2, 1) := by decide +kernel
theorem dX7_step_32 : decode cX7_step 32 = .ok (.invokevirtual 48, 3) := by decide +kernel
theorem dX7_step_35 : decode cX7_step 35 = .ok (.ifCond .ne 6, 3) := by decide +kernel
theorem dX7_step_38 : decode cX7_step 38 = .ok (.bipush (-4), 2) := by decide +kernel
theorem dX7_step_40 : decode cX7_step 40 = .ok (.ireturn, 1) := by decide +kernel
theorem dX7_step_41 : decode cX7_step 41 = .ok (.aload_n 0, 1) := by decide +kernel
theorem dX7_step_42 : decode cX7_step 42 = .ok (.invokevirtual 97, 3) := by decide +kernel
theorem dX7_step_45 : decode cX7_step 45 = .ok (.iconst 0, 1) := by decide +kernel
theorem dX7_step_46 : decode cX7_step 46 = .ok (.istore_n 2, 1) := by decide +kernel
theorem dX7_step_47 : decode cX7_step 47 = .ok (.iload_n 2, 1) := by decide +kernel
theorem dX7_step_48 : decode cX7_step 48 = .ok (.iload_n 1, 1) := by decide +kernel
theorem dX7_step_49 : decode cX7_step 49 = .ok (.if_icmp .ge 46, 3) := by decide +kernel
theorem dX7_step_52 : decode cX7_step 52 = .ok (.aload_n 0, 1) := by decide +kernel
theorem dX7_step_53 : decode cX7_step 53 = .ok (.aload_n 0, 1) := by decide +kernel
theorem dX7_step_54 : decode cX7_step 54 = .ok (.getfield 7, 3) := by decide +kernel
theorem dX7_step_57 : decode cX7_step 57 = .ok (.bipush 57, 2) := by decide +kernel
theorem dX7_step_59 : decode cX7_step 59 = .ok (.iaload, 1) := by decide +kernel
theorem dX7_step_60 : decode cX7_step 60 = .ok (.invokevirtual 123, 3) := by decide +kernel
theorem dX7_step_63 : decode cX7_step 63 = .ok (.istore_n 3, 1) := by decide +kernel
theorem dX7_step_64 : decode cX7_step 64 = .ok (.iload_n 3, 1) := by decide +kernel
theorem dX7_step_65 : decode cX7_step 65 = .ok (.bipush (-5), 2) := by decide +kernel
theorem dX7_step_67 : decode cX7_step 67 = .ok (.if_icmp .eq 22, 3) := by decide +kernel
theorem dX7_step_70 : decode cX7_step 70 = .ok (.aload_n 0, 1) := by decide +kernel
theorem dX7_step_71 : decode cX7_step 71 = .ok (.getfield 7, 3) := by decide +kernel
theorem dX7_step_74 : decode cX7_step 74 = .ok (.bipush 57, 2) := by decide +kernel
theorem dX7_step_76 : decode cX7_step 76 = .ok (.iload_n 3, 1) := by decide +kernel
theorem dX7_step_77 : decode cX7_step 77 = .ok (.iastore, 1) := by decide +kernel
theorem dX7_step_78 : decode cX7_step 78 = .ok (.aload_n 0, 1) := by decide +kernel
theorem dX7_step_79 : decode cX7_step 79 = .ok (.getfield 7, 3) := by decide +kernel
theorem dX7_step_82 : decode cX7_step 82 = .ok (.bipush 58, 2) := by decide +kernel
theorem dX7_step_84 : decode cX7_step 84 = .ok (.dup2, 1) := by decide +kernel
theorem dX7_step_85 : decode cX7_step 85 = .ok (.iaload, 1) := by decide +kernel
theorem dX7_step_86 : decode cX7_step 86 = .ok (.iconst 1, 1) := by decide +kernel
theorem dX7_step_87 : decode cX7_step 87 = .ok (.iadd, 1) := by decide +kernel
theorem dX7_step_88 : decode cX7_step 88 = .ok (.iastore, 1) := by decide +kernel
theorem dX7_step_89 : decode cX7_step 89 = .ok (.iinc 2 1, 3) := by decide +kernel
theorem dX7_step_92 : decode cX7_step 92 = .ok (.goto (-45), 3) := by decide +kernel
theorem dX7_step_95 : decode cX7_step 95 = .ok (.aload_n 0, 1) := by decide +kernel
theorem dX7_step_96 : decode cX7_step 96 = .ok (.getfield 7, 3) := by decide +kernel
theorem dX7_step_99 : decode cX7_step 99 = .ok (.bipush 57, 2) := by decide +kernel
theorem dX7_step_101 : decode cX7_step 101 = .ok (.iaload, 1) := by decide +kernel
theorem dX7_step_102 : decode cX7_step 102 = .ok (.ireturn, 1) := by decide +kernel
theorem dX7_type_0 : decode cX7_type 0 = .ok (.aload_n 0, 1) := by decide +kernel
theorem dX7_type_1 : decode cX7_type 1 = .ok (.getfield 126, 3) := by decide +kernel
theorem dX7_type_4 : decode cX7_type 4 = .ok (.bipush 60, 2) := by decide +kernel
theorem dX7_type_6 : decode cX7_type 6 = .ok (.if_icmp .ne 6, 3) := by decide +kernel
theorem dX7_type_9 : decode cX7_type 9 = .ok (.bipush (-3), 2) := by decide +kernel
theorem dX7_type_11 : decode cX7_type 11 = .ok (.ireturn, 1) := by decide +kernel
theorem dX7_type_12 : decode cX7_type 12 = .ok (.aload_n 0, 1) := by decide +kernel
theorem dX7_type_13 : decode cX7_type 13 = .ok (.getfield 28, 3) := by decide +kernel
theorem dX7_type_16 : decode cX7_type 16 = .ok (.aload_n 0, 1) := by decide +kernel
theorem dX7_type_17 : decode cX7_type 17 = .ok (.getfield 126, 3) := by decide +kernel
theorem dX7_type_20 : decode cX7_type 20 = .ok (.iload_n 1, 1) := by decide +kernel
theorem dX7_type_21 : decode cX7_type 21 = .ok (.castore, 1) := by decide +kernel
theorem dX7_type_22 : decode cX7_type 22 = .ok (.aload_n 0, 1) := by decide +kernel
theorem dX7_type_23 : decode cX7_type 23 = .ok (.dup, 1) := by decide +kernel
theorem dX7_type_24 : decode cX7_type 24 = .ok (.getfield 126, 3) := by decide +kernel
theorem dX7_type_27 : decode cX7_type 27 = .ok (.iconst 1, 1) := by decide +kernel
theorem dX7_type_28 : decode cX7_type 28 = .ok (.iadd, 1) := by decide +kernel
theorem dX7_type_29 : decode cX7_type 29 = .ok (.putfield 126, 3) := by decide +kernel
theorem dX7_type_32 : decode cX7_type 32 = .ok (.aload_n 0, 1) := by decide +kernel
theorem dX7_type_33 : decode cX7_type 33 = .ok (.getfield 126, 3) := by decide +kernel
theorem dX7_type_36 : decode cX7_type 36 = .ok (.ireturn, 1) := by decide +kernel
theorem dX7_clearText_0 : decode cX7_clearText 0 = .ok (.aload_n 0, 1) := by decide +kernel
theorem dX7_clearText_1 : decode cX7_clearText 1 = .ok (.getfield 126, 3) := by decide +kernel
theorem dX7_clearText_4 : decode cX7_clearText 4 = .ok (.istore_n 1, 1) := by decide +kernel
theorem dX7_clearText_5 : decode cX7_clearText 5 = .ok (.aload_n 0, 1) := by decide +kernel
theorem dX7_clearText_6 : decode cX7_clearText 6 = .ok (.iconst 0, 1) := by decide +kernel
theorem dX7_clearText_7 : decode cX7_clearText 7 = .ok (.putfield 126, 3) := by decide +kernel
theorem dX7_clearText_10 : decode cX7_clearText 10 = .ok (.iload_n 1, 1) := by decide +kernel
theorem dX7_clearText_11 : decode cX7_clearText 11 = .ok (.ireturn, 1) := by decide +kernel
set_option maxRecDepth 20000 in
theorem ggX7_isDigit_X7_in : GoodIn wsX7_isDigit wsX7_in := goodIn_r _ [7] (by decide +kernel) (by decide +kernel)
set_option maxRecDepth 20000 in
theorem gX7_isDigit_X7_in : GoodIn wsX7_isDigit (va_wsS RX7 44 yX7_in wsX7_in) := goodIn_app (goodIn_of _ (by decide +kernel)) ggX7_isDigit_X7_in
theorem dX7_isDigit_0 : decode cX7_isDigit 0 = .ok (.aload_n 0, 1) := by decide +kernel
theorem dX7_isDigit_1 : decode cX7_isDigit 1 = .ok (.getfield 129, 3) := by decide +kernel
theorem dX7_isDigit_4 : decode cX7_isDigit 4 = .ok (.aload_n 0, 1) := by decide +kernel
theorem dX7_isDigit_5 : decode cX7_isDigit 5 = .ok (.getfield 126, 3) := by decide +kernel
theorem dX7_isDigit_8 : decode cX7_isDigit 8 = .ok (.if_icmp .ge 26, 3) := by decide +kernel
theorem dX7_isDigit_11 : decode cX7_isDigit 11 = .ok (.aload_n 0, 1) := by decide +kernel
theorem dX7_isDigit_12 : decode cX7_isDigit 12 = .ok (.getfield 28, 3) := by decide +kernel
theorem dX7_isDigit_15 : decode cX7_isDigit 15 = .ok (.aload_n 0, 1) := by decide +kernel
theorem dX7_isDigit_16 : decode cX7_isDigit 16 = .ok (.getfield 129, 3) := by decide +kernel
theorem dX7_isDigit_19 : decode cX7_isDigit 19 = .ok (.caload, 1) := by decide +kernel
theorem dX7_isDigit_20 : decode cX7_isDigit 20 = .ok (.bipush 48, 2) := by decide +kernel
theorem dX7_isDigit_22 : decode cX7_isDigit 22 = .ok (.bipush 57, 2) := by decide +kernel
theorem dX7_isDigit_24 : decode cX7_isDigit 24 = .ok (.invokestatic 44, 3) := by decide +kernel
theorem dX7_isDigit_27 : decode cX7_isDigit 27 = .ok (.ifCond .eq 7, 3) := by decide +kernel
theorem dX7_isDigit_30 : decode cX7_isDigit 30 = .ok (.iconst 1, 1) := by decide +kernel
theorem dX7_isDigit_31 : decode cX7_isDigit 31 = .ok (.goto 4, 3) := by decide +kernel
theorem dX7_isDigit_34 : decode cX7_isDigit 34 = .ok (.iconst 0, 1) := by decide +kernel
theorem dX7_isDigit_35 : decode cX7_isDigit 35 = .ok (.ireturn, 1) := by decide +kernel
theorem dX7_takes_0 : decode cX7_takes 0 = .ok (.aload_n 0, 1) := by decide +kernel
theorem dX7_takes_1 : decode cX7_takes 1 = .ok (.getfield 129, 3) := by decide +kernel
theorem dX7_takes_4 : decode cX7_takes 4 = .ok (.aload_n 0, 1) := by decide +kernel
theorem dX7_takes_5 : decode cX7_takes 5 = .ok (.getfield 126, 3) := by decide +kernel
theorem dX7_takes_8 : decode cX7_takes 8 = .ok (.if_icmp .ge 20, 3) := by decide +kernel
theorem dX7_takes_11 : decode cX7_takes 11 = .ok (.aload_n 0, 1) := by decide +kernel
theorem dX7_takes_12 : decode cX7_takes 12 = .ok (.getfield 28, 3) := by decide +kernel
theorem dX7_takes_15 : decode cX7_takes 15 = .ok (.aload_n 0, 1) := by decide +kernel
theorem dX7_takes_16 : decode cX7_takes 16 = .ok (.getfield 129, 3) := by decide +kernel
theorem dX7_takes_19 : decode cX7_takes 19 = .ok (.caload, 1) := by decide +kernel
theorem dX7_takes_20 : decode cX7_takes 20 = .ok (.iload_n 1, 1) := by decide +kernel
theorem dX7_takes_21 : decode cX7_takes 21 = .ok (.if_icmp .ne 7, 3) := by decide +kernel
theorem dX7_takes_24 : decode cX7_takes 24 = .ok (.iconst 1, 1) := by decide +kernel
theorem dX7_takes_25 : decode cX7_takes 25 = .ok (.goto 4, 3) := by decide +kernel
theorem dX7_takes_28 : decode cX7_takes 28 = .ok (.iconst 0, 1) := by decide +kernel
theorem dX7_takes_29 : decode cX7_takes 29 = .ok (.istore_n 2, 1) := by decide +kernel
theorem dX7_takes_30 : decode cX7_takes 30 = .ok (.aload_n 0, 1) := by decide +kernel
theorem dX7_takes_31 : decode cX7_takes 31 = .ok (.dup, 1) := by decide +kernel
theorem dX7_takes_32 : decode cX7_takes 32 = .ok (.getfield 129, 3) := by decide +kernel
theorem dX7_takes_35 : decode cX7_takes 35 = .ok (.iload_n 2, 1) := by decide +kernel
theorem dX7_takes_36 : decode cX7_takes 36 = .ok (.ifCond .eq 7, 3) := by decide +kernel
theorem dX7_takes_39 : decode cX7_takes 39 = .ok (.iconst 1, 1) := by decide +kernel
theorem dX7_takes_40 : decode cX7_takes 40 = .ok (.goto 4, 3) := by decide +kernel
theorem dX7_takes_43 : decode cX7_takes 43 = .ok (.iconst 0, 1) := by decide +kernel
theorem dX7_takes_44 : decode cX7_takes 44 = .ok (.iadd, 1) := by decide +kernel
theorem dX7_takes_45 : decode cX7_takes 45 = .ok (.putfield 129, 3) := by decide +kernel
theorem dX7_takes_48 : decode cX7_takes 48 = .ok (.iload_n 2, 1) := by decide +kernel
theorem dX7_takes_49 : decode cX7_takes 49 = .ok (.ireturn, 1) := by decide +kernel
set_option maxRecDepth 20000 in
theorem ggX7_takesNumber_X7_isDigit : GoodIn wsX7_takesNumber wsX7_isDigit := goodIn_r _ [8, 2, 9, 1, 10, 11, 7, 12, 13, 14, 15, 16, 17, 18, 19, 20, 21, 22, 23, 24, 25, 26, 27, 28, 29, 30, 31] (by decide +kernel) (by decide +kernel)
set_option maxRecDepth 20000 in
theorem gX7_takesNumber_X7_isDigit : GoodIn wsX7_takesNumber (wsV RX7 132 RX7 yX7_isDigit wsX7_isDigit) := goodIn_app (goodIn_of _ (by decide +kernel)) ggX7_takesNumber_X7_isDigit
theorem dX7_takesNumber_0 : decode cX7_takesNumber 0 = .ok (.aload_n 0, 1) := by decide +kernel
theorem dX7_takesNumber_1 : decode cX7_takesNumber 1 = .ok (.invokevirtual 132, 3) := by decide +kernel
theorem dX7_takesNumber_4 : decode cX7_takesNumber 4 = .ok (.ifCond .ne 5, 3) := by decide +kernel
theorem dX7_takesNumber_7 : decode cX7_takesNumber 7 = .ok (.iconst 0, 1) := by decide +kernel
theorem dX7_takesNumber_8 : decode cX7_takesNumber 8 = .ok (.ireturn, 1) := by decide +kernel
theorem dX7_takesNumber_9 : decode cX7_takesNumber 9 = .ok (.aload_n 0, 1) := by decide +kernel
theorem dX7_takesNumber_10 : decode cX7_takesNumber 10 = .ok (.aload_n 0, 1) := by decide +kernel
theorem dX7_takesNumber_11 : decode cX7_takesNumber 11 = .ok (.getfield 28, 3) := by decide +kernel
theorem dX7_takesNumber_14 : decode cX7_takesNumber 14 = .ok (.aload_n 0, 1) := by decide +kernel
theorem dX7_takesNumber_15 : decode cX7_takesNumber 15 = .ok (.getfield 129, 3) := by decide +kernel
theorem dX7_takesNumber_18 : decode cX7_takesNumber 18 = .ok (.caload, 1) := by decide +kernel
theorem dX7_takesNumber_19 : decode cX7_takesNumber 19 = .ok (.bipush 48, 2) := by decide +kernel
theorem dX7_takesNumber_21 : decode cX7_takesNumber 21 = .ok (.isub, 1) := by decide +kernel
theorem dX7_takesNumber_22 : decode cX7_takesNumber 22 = .ok (.putfield 136, 3) := by decide +kernel
theorem dX7_takesNumber_25 : decode cX7_takesNumber 25 = .ok (.aload_n 0, 1) := by decide +kernel
theorem dX7_takesNumber_26 : decode cX7_takesNumber 26 = .ok (.dup, 1) := by decide +kernel
theorem dX7_takesNumber_27 : decode cX7_takesNumber 27 = .ok (.getfield 129, 3) := by decide +kernel
theorem dX7_takesNumber_30 : decode cX7_takesNumber 30 = .ok (.iconst 1, 1) := by decide +kernel
theorem dX7_takesNumber_31 : decode cX7_takesNumber 31 = .ok (.iadd, 1) := by decide +kernel
theorem dX7_takesNumber_32 : decode cX7_takesNumber 32 = .ok (.putfield 129, 3) := by decide +kernel
theorem dX7_takesNumber_35 : decode cX7_takesNumber 35 = .ok (.aload_n 0, 1) := by decide +kernel
theorem dX7_takesNumber_36 : decode cX7_takesNumber 36 = .ok (.getfield 136, 3) := by decide +kernel
theorem dX7_takesNumber_39 : decode cX7_takesNumber 39 = .ok (.ifCond .le 44, 3) := by decide +kernel
theorem dX7_takesNumber_42 : decode cX7_takesNumber 42 = .ok (.aload_n 0, 1) := by decide +kernel
theorem dX7_takesNumber_43 : decode cX7_takesNumber 43 = .ok (.invokevirtual 132, 3) := by decide +kernel
theorem dX7_takesNumber_46 : decode cX7_takesNumber 46 = .ok (.ifCond .eq 37, 3) := by decide +kernel
theorem dX7_takesNumber_49 : decode cX7_takesNumber 49 = .ok (.aload_n 0, 1) := by decide +kernel
theorem dX7_takesNumber_50 : decode cX7_takesNumber 50 = .ok (.bipush 10, 2) := by decide +kernel
theorem dX7_takesNumber_52 : decode cX7_takesNumber 52 = .ok (.aload_n 0, 1) := by decide +kernel
theorem dX7_takesNumber_53 : decode cX7_takesNumber 53 = .ok (.getfield 136, 3) := by decide +kernel
theorem dX7_takesNumber_56 : decode cX7_takesNumber 56 = .ok (.imul, 1) := by decide +kernel
theorem dX7_takesNumber_57 : decode cX7_takesNumber 57 = .ok (.aload_n 0, 1) := by decide +kernel
theorem dX7_takesNumber_58 : decode cX7_takesNumber 58 = .ok (.getfield 28, 3) := by decide +kernel
theorem dX7_takesNumber_61 : decode cX7_takesNumber 61 = .ok (.aload_n 0, 1) := by decide +kernel
theorem dX7_takesNumber_62 : decode cX7_takesNumber 62 = .ok (.getfield 129, 3) := by decide +kernel
theorem dX7_takesNumber_65 : decode cX7_takesNumber 65 = .ok (.caload, 1) := by decide +kernel
theorem dX7_takesNumber_66 : decode cX7_takesNumber 66 = .ok (.iadd, 1) := by decide +kernel
theorem dX7_takesNumber_67 : decode cX7_takesNumber 67 = .ok (.bipush 48, 2) := by decide +kernel
theorem dX7_takesNumber_69 : decode cX7_takesNumber 69 = .ok (.isub, 1) := by decide +kernel
theorem dX7_takesNumber_70 : decode cX7_takesNumber 70 = .ok (.putfield 136, 3) := by decide +kernel
theorem dX7_takesNumber_73 : decode cX7_takesNumber 73 = .ok (.aload_n 0, 1) := by decide +kernel
theorem dX7_takesNumber_74 : decode cX7_takesNumber 74 = .ok (.dup, 1) := by decide +kernel
theorem dX7_takesNumber_75 : decode cX7_takesNumber 75 = .ok (.getfield 129, 3) := by decide +kernel
theorem dX7_takesNumber_78 : decode cX7_takesNumber 78 = .ok (.iconst 1, 1) := by decide +kernel
theorem dX7_takesNumber_79 : decode cX7_takesNumber 79 = .ok (.iadd, 1) := by decide +kernel
theorem dX7_takesNumber_80 : decode cX7_takesNumber 80 = .ok (.putfield 129, 3) := by decide +kernel
theorem dX7_takesNumber_83 : decode cX7_takesNumber 83 = .ok (.iconst 1, 1) := by decide +kernel
theorem dX7_takesNumber_84 : decode cX7_takesNumber 84 = .ok (.ireturn, 1) := by decide +kernel
set_option maxRecDepth 20000 in
theorem ggX7_isRead_X7_takesNumber : GoodIn wsX7_isRead wsX7_takesNumber := goodIn_r _ [10, 11, 1, 4, 12, 13, 14, 9, 15, 5, 16, 17, 18, 28, 29, 30, 31, 32, 33, 34, 35, 36, 37, 38, 39, 40, 41, 42, 43, 44, 45, 46] (by decide +kernel) (by decide +kernel)
set_option maxRecDepth 20000 in
theorem gX7_isRead_X7_takesNumber : GoodIn wsX7_isRead (wsV RX7 142 RX7 yX7_takesNumber wsX7_takesNumber) := goodIn_app (goodIn_of _ (by decide +kernel)) ggX7_isRead_X7_takesNumber
set_option maxRecDepth 20000 in
theorem ggX7_isRead_X7_no : GoodIn wsX7_isRead wsX7_no := goodIn_r _ [22, 23, 16, 17, 9, 18, 28, 29, 30, 31, 32, 33, 34, 35, 36, 37, 38, 39, 40, 41, 42, 43, 44, 45, 46] (by decide +kernel) (by decide +kernel)
set_option maxRecDepth 20000 in
theorem gX7_isRead_X7_no : GoodIn wsX7_isRead (wsV RX7 104 RX7 yX7_no wsX7_no) := goodIn_app (goodIn_of _ (by decide +kernel)) ggX7_isRead_X7_no
set_option maxRecDepth 20000 in
theorem ggX7_isRead_X7_takes : GoodIn wsX7_isRead wsX7_takes := goodIn_r _ [27, 1, 5, 11, 28, 29, 30, 31, 32, 33, 34, 35, 36, 37, 38, 39, 40, 41, 42, 43, 44, 45, 46] (by decide +kernel) (by decide +kernel)
set_option maxRecDepth 20000 in
theorem gX7_isRead_X7_takes : GoodIn wsX7_isRead (wsV RX7 145 RX7 yX7_takes wsX7_takes) := goodIn_app (goodIn_of _ (by decide +kernel)) ggX7_isRead_X7_takes
theorem dX7_isRead_0 : decode cX7_isRead 0 = .ok (.aload_n 0, 1) := by decide +kernel
theorem dX7_isRead_1 : decode cX7_isRead 1 = .ok (.iconst 0, 1) := by decide +kernel
theorem dX7_isRead_2 : decode cX7_isRead 2 = .ok (.putfield 129, 3) := by decide +kernel
theorem dX7_isRead_5 : decode cX7_isRead 5 = .ok (.aload_n 0, 1) := by decide +kernel
theorem dX7_isRead_6 : decode cX7_isRead 6 = .ok (.iconst 0, 1) := by decide +kernel
theorem dX7_isRead_7 : decode cX7_isRead 7 = .ok (.putfield 139, 3) := by decide +kernel
theorem dX7_isRead_10 : decode cX7_isRead 10 = .ok (.iconst 0, 1) := by decide +kernel
theorem dX7_isRead_11 : decode cX7_isRead 11 = .ok (.istore_n 1, 1) := by decide +kernel
theorem dX7_isRead_12 : decode cX7_isRead 12 = .ok (.iload_n 1, 1) := by decide +kernel
theorem dX7_isRead_13 : decode cX7_isRead 13 = .ok (.bipush 14, 2) := by decide +kernel
theorem dX7_isRead_15 : decode cX7_isRead 15 = .ok (.if_icmp .ge 16, 3) := by decide +kernel
theorem dX7_isRead_18 : decode cX7_isRead 18 = .ok (.aload_n 0, 1) := by decide +kernel
theorem dX7_isRead_19 : decode cX7_isRead 19 = .ok (.getfield 32, 3) := by decide +kernel
theorem dX7_isRead_22 : decode cX7_isRead 22 = .ok (.iload_n 1, 1) := by decide +kernel
theorem dX7_isRead_23 : decode cX7_isRead 23 = .ok (.iconst 0, 1) := by decide +kernel
theorem dX7_isRead_24 : decode cX7_isRead 24 = .ok (.iastore, 1) := by decide +kernel
theorem dX7_isRead_25 : decode cX7_isRead 25 = .ok (.iinc 1 1, 3) := by decide +kernel
theorem dX7_isRead_28 : decode cX7_isRead 28 = .ok (.goto (-16), 3) := by decide +kernel
theorem dX7_isRead_31 : decode cX7_isRead 31 = .ok (.iconst 1, 1) := by decide +kernel
theorem dX7_isRead_32 : decode cX7_isRead 32 = .ok (.istore_n 1, 1) := by decide +kernel
theorem dX7_isRead_33 : decode cX7_isRead 33 = .ok (.iload_n 1, 1) := by decide +kernel
theorem dX7_isRead_34 : decode cX7_isRead 34 = .ok (.ifCond .eq 165, 3) := by decide +kernel
theorem dX7_isRead_37 : decode cX7_isRead 37 = .ok (.aload_n 0, 1) := by decide +kernel
theorem dX7_isRead_38 : decode cX7_isRead 38 = .ok (.invokevirtual 142, 3) := by decide +kernel
theorem dX7_isRead_41 : decode cX7_isRead 41 = .ok (.ifCond .ne 5, 3) := by decide +kernel
theorem dX7_isRead_44 : decode cX7_isRead 44 = .ok (.iconst 0, 1) := by decide +kernel
theorem dX7_isRead_45 : decode cX7_isRead 45 = .ok (.ireturn, 1) := by decide +kernel
theorem dX7_isRead_46 : decode cX7_isRead 46 = .ok (.aload_n 0, 1) := by decide +kernel
theorem dX7_isRead_47 : decode cX7_isRead 47 = .ok (.getfield 136, 3) := by decide +kernel
theorem dX7_isRead_50 : decode cX7_isRead 50 = .ok (.istore_n 2, 1) := by decide +kernel
theorem dX7_isRead_51 : decode cX7_isRead 51 = .ok (.aload_n 0, 1) := by decide +kernel
theorem dX7_isRead_52 : decode cX7_isRead 52 = .ok (.dup, 1) := by decide +kernel
theorem dX7_isRead_53 : decode cX7_isRead 53 = .ok (.getfield 139, 3) := by decide +kernel
theorem dX7_isRead_56 : decode cX7_isRead 56 = .ok (.aload_n 0, 1) := by decide +kernel
theorem dX7_isRead_57 : decode cX7_isRead 57 = .ok (.iload_n 2, 1) := by decide +kernel
theorem dX7_isRead_58 : decode cX7_isRead 58 = .ok (.invokevirtual 104, 3) := by decide +kernel
theorem dX7_isRead_61 : decode cX7_isRead 61 = .ok (.ifCond .eq 7, 3) := by decide +kernel
theorem dX7_isRead_64 : decode cX7_isRead 64 = .ok (.iconst 1, 1) := by decide +kernel
theorem dX7_isRead_65 : decode cX7_isRead 65 = .ok (.goto 4, 3) := by decide +kernel
theorem dX7_isRead_68 : decode cX7_isRead 68 = .ok (.iconst 0, 1) := by decide +kernel
theorem dX7_isRead_69 : decode cX7_isRead 69 = .ok (.iadd, 1) := by decide +kernel
theorem dX7_isRead_70 : decode cX7_isRead 70 = .ok (.putfield 139, 3) := by decide +kernel
theorem dX7_isRead_73 : decode cX7_isRead 73 = .ok (.aload_n 0, 1) := by decide +kernel
theorem dX7_isRead_74 : decode cX7_isRead 74 = .ok (.bipush 62, 2) := by decide +kernel
theorem dX7_isRead_76 : decode cX7_isRead 76 = .ok (.invokevirtual 145, 3) := by decide +kernel
theorem dX7_isRead_79 : decode cX7_isRead 79 = .ok (.ifCond .ne 5, 3) := by decide +kernel
theorem dX7_isRead_82 : decode cX7_isRead 82 = .ok (.iconst 0, 1) := by decide +kernel
theorem dX7_isRead_83 : decode cX7_isRead 83 = .ok (.ireturn, 1) := by decide +kernel
theorem dX7_isRead_84 : decode cX7_isRead 84 = .ok (.iconst 1, 1) := by decide +kernel
theorem dX7_isRead_85 : decode cX7_isRead 85 = .ok (.istore_n 3, 1) := by decide +kernel
theorem dX7_isRead_86 : decode cX7_isRead 86 = .ok (.iload_n 3, 1) := by decide +kernel
theorem dX7_isRead_87 : decode cX7_isRead 87 = .ok (.ifCond .eq 77, 3) := by decide +kernel
theorem dX7_isRead_90 : decode cX7_isRead 90 = .ok (.aload_n 0, 1) := by decide +kernel
theorem dX7_isRead_91 : decode cX7_isRead 91 = .ok (.invokevirtual 142, 3) := by decide +kernel
theorem dX7_isRead_94 : decode cX7_isRead 94 = .ok (.ifCond .ne 5, 3) := by decide +kernel
theorem dX7_isRead_97 : decode cX7_isRead 97 = .ok (.iconst 0, 1) := by decide +kernel
theorem dX7_isRead_98 : decode cX7_isRead 98 = .ok (.ireturn, 1) := by decide +kernel
theorem dX7_isRead_99 : decode cX7_isRead 99 = .ok (.aload_n 0, 1) := by decide +kernel
theorem dX7_isRead_100 : decode cX7_isRead 100 = .ok (.dup, 1) := by decide +kernel
theorem dX7_isRead_101 : decode cX7_isRead 101 = .ok (.getfield 139, 3) := by decide +kernel
theorem dX7_isRead_104 : decode cX7_isRead 104 = .ok (.aload_n 0, 1) := by decide +kernel
theorem dX7_isRead_105 : decode cX7_isRead 105 = .ok (.aload_n 0, 1) := by decide +kernel
theorem dX7_isRead_106 : decode cX7_isRead 106 = .ok (.getfield 136, 3) := by decide +kernel
theorem dX7_isRead_109 : decode cX7_isRead 109 = .ok (.invokevirtual 104, 3) := by decide +kernel
theorem dX7_isRead_112 : decode cX7_isRead 112 = .ok (.ifCond .eq 7, 3) := by decide +kernel
theorem dX7_isRead_115 : decode cX7_isRead 115 = .ok (.iconst 1, 1) := by decide +kernel
theorem dX7_isRead_116 : decode cX7_isRead 116 = .ok (.goto 4, 3) := by decide +kernel
theorem dX7_isRead_119 : decode cX7_isRead 119 = .ok (.iconst 0, 1) := by decide +kernel
theorem dX7_isRead_120 : decode cX7_isRead 120 = .ok (.iadd, 1) := by decide +kernel
theorem dX7_isRead_121 : decode cX7_isRead 121 = .ok (.putfield 139, 3) := by decide +kernel
theorem dX7_isRead_124 : decode cX7_isRead 124 = .ok (.aload_n 0, 1) := by decide +kernel
theorem dX7_isRead_125 : decode cX7_isRead 125 = .ok (.getfield 32, 3) := by decide +kernel
theorem dX7_isRead_128 : decode cX7_isRead 128 = .ok (.iload_n 2, 1) := by decide +kernel
theorem dX7_isRead_129 : decode cX7_isRead 129 = .ok (.dup2, 1) := by decide +kernel
theorem dX7_isRead_130 : decode cX7_isRead 130 = .ok (.iaload, 1) := by decide +kernel
theorem dX7_isRead_131 : decode cX7_isRead 131 = .ok (.aload_n 0, 1) := by decide +kernel
theorem dX7_isRead_132 : decode cX7_isRead 132 = .ok (.aload_n 0, 1) := by decide +kernel
theorem dX7_isRead_133 : decode cX7_isRead 133 = .ok (.getfield 136, 3) := by decide +kernel
theorem dX7_isRead_136 : decode cX7_isRead 136 = .ok (.invokevirtual 104, 3) := by decide +kernel
theorem dX7_isRead_139 : decode cX7_isRead 139 = .ok (.ifCond .eq 7, 3) := by decide +kernel
theorem dX7_isRead_142 : decode cX7_isRead 142 = .ok (.iconst 0, 1) := by decide +kernel
theorem dX7_isRead_143 : decode cX7_isRead 143 = .ok (.goto 9, 3) := by decide +kernel
theorem dX7_isRead_146 : decode cX7_isRead 146 = .ok (.iconst 1, 1) := by decide +kernel
theorem dX7_isRead_147 : decode cX7_isRead 147 = .ok (.aload_n 0, 1) := by decide +kernel
theorem dX7_isRead_148 : decode cX7_isRead 148 = .ok (.getfield 136, 3) := by decide +kernel
theorem dX7_isRead_151 : decode cX7_isRead 151 = .ok (.ishl, 1) := by decide +kernel
theorem dX7_isRead_152 : decode cX7_isRead 152 = .ok (.ior, 1) := by decide +kernel
theorem dX7_isRead_153 : decode cX7_isRead 153 = .ok (.iastore, 1) := by decide +kernel
theorem dX7_isRead_154 : decode cX7_isRead 154 = .ok (.aload_n 0, 1) := by decide +kernel
theorem dX7_isRead_155 : decode cX7_isRead 155 = .ok (.bipush 44, 2) := by decide +kernel
theorem dX7_isRead_157 : decode cX7_isRead 157 = .ok (.invokevirtual 145, 3) := by decide +kernel
theorem dX7_isRead_160 : decode cX7_isRead 160 = .ok (.istore_n 3, 1) := by decide +kernel
theorem dX7_isRead_161 : decode cX7_isRead 161 = .ok (.goto (-75), 3) := by decide +kernel
theorem dX7_isRead_164 : decode cX7_isRead 164 = .ok (.aload_n 0, 1) := by decide +kernel
theorem dX7_isRead_165 : decode cX7_isRead 165 = .ok (.getfield 129, 3) := by decide +kernel
theorem dX7_isRead_168 : decode cX7_isRead 168 = .ok (.aload_n 0, 1) := by decide +kernel
theorem dX7_isRead_169 : decode cX7_isRead 169 = .ok (.getfield 126, 3) := by decide +kernel
theorem dX7_isRead_172 : decode cX7_isRead 172 = .ok (.if_icmp .ge 7, 3) := by decide +kernel
theorem dX7_isRead_175 : decode cX7_isRead 175 = .ok (.iconst 1, 1) := by decide +kernel
theorem dX7_isRead_176 : decode cX7_isRead 176 = .ok (.goto 4, 3) := by decide +kernel
theorem dX7_isRead_179 : decode cX7_isRead 179 = .ok (.iconst 0, 1) := by decide +kernel
theorem dX7_isRead_180 : decode cX7_isRead 180 = .ok (.istore_n 1, 1) := by decide +kernel
theorem dX7_isRead_181 : decode cX7_isRead 181 = .ok (.iload_n 1, 1) := by decide +kernel
theorem dX7_isRead_182 : decode cX7_isRead 182 = .ok (.ifCond .eq 14, 3) := by decide +kernel
theorem dX7_isRead_185 : decode cX7_isRead 185 = .ok (.aload_n 0, 1) := by decide +kernel
theorem dX7_isRead_186 : decode cX7_isRead 186 = .ok (.bipush 59, 2) := by decide +kernel
theorem dX7_isRead_188 : decode cX7_isRead 188 = .ok (.invokevirtual 145, 3) := by decide +kernel
theorem dX7_isRead_191 : decode cX7_isRead 191 = .ok (.ifCond .ne 5, 3) := by decide +kernel
theorem dX7_isRead_194 : decode cX7_isRead 194 = .ok (.iconst 0, 1) := by decide +kernel
theorem dX7_isRead_195 : decode cX7_isRead 195 = .ok (.ireturn, 1) := by decide +kernel
theorem dX7_isRead_196 : decode cX7_isRead 196 = .ok (.goto (-163), 3) := by decide +kernel
theorem dX7_isRead_199 : decode cX7_isRead 199 = .ok (.iconst 1, 1) := by decide +kernel
theorem dX7_isRead_200 : decode cX7_isRead 200 = .ok (.ireturn, 1) := by decide +kernel
set_option maxRecDepth 20000 in
theorem ggX7_readArrows_X7_isRead : GoodIn wsX7_readArrows wsX7_isRead := goodIn_r _ [9, 1, 2, 4, 10, 11, 12, 13, 14, 8, 15, 16, 17, 18, 19, 20, 21, 22, 23, 24, 25, 26, 27, 3, 28, 29, 30, 31, 53, 54, 55, 56, 57, 58, 59, 60, 61, 62, 63, 64, 65, 66, 67, 68, 69, 70, 71] (by decide +kernel) (by decide +kernel)
set_option maxRecDepth 20000 in
theorem gX7_readArrows_X7_isRead : GoodIn wsX7_readArrows (wsV RX7 148 RX7 yX7_isRead wsX7_isRead) := goodIn_app (goodIn_of _ (by decide +kernel)) ggX7_readArrows_X7_isRead
set_option maxRecDepth 20000 in
theorem ggX7_readArrows_X7_of : GoodIn wsX7_readArrows wsX7_of := goodIn_r _ [35, 3, 53, 54, 55, 56, 57, 58, 59, 60, 61, 62, 63, 64, 65, 66, 67, 68, 69, 70, 71] (by decide +kernel) (by decide +kernel)
set_option maxRecDepth 20000 in
theorem gX7_readArrows_X7_of : GoodIn wsX7_readArrows (wsV RX7 48 RX7 yX7_of wsX7_of) := goodIn_app (goodIn_of _ (by decide +kernel)) ggX7_readArrows_X7_of
set_option maxRecDepth 20000 in
theorem ggX7_readArrows_X7_bits : GoodIn wsX7_readArrows wsX7_bits := goodIn_r _ [38] (by decide +kernel) (by decide +kernel)
set_option maxRecDepth 20000 in
theorem gX7_readArrows_X7_bits : GoodIn wsX7_readArrows (va_wsS RX7 52 yX7_bits wsX7_bits) := goodIn_app (goodIn_of _ (by decide +kernel)) ggX7_readArrows_X7_bits
set_option maxRecDepth 20000 in
theorem ggX7_readArrows_X7_arrows : GoodIn wsX7_readArrows wsX7_arrows := goodIn_r _ [42, 3, 32, 33, 34, 8, 35, 36, 37, 38, 53, 54, 55, 56, 57, 58, 59, 60, 61, 62, 63, 64, 65, 66, 67, 68, 69, 70, 71] (by decide +kernel) (by decide +kernel)
set_option maxRecDepth 20000 in
theorem gX7_readArrows_X7_arrows : GoodIn wsX7_readArrows (wsV RX7 108 RX7 yX7_arrows wsX7_arrows) := goodIn_app (goodIn_of _ (by decide +kernel)) ggX7_readArrows_X7_arrows
set_option maxRecDepth 20000 in
theorem ggX7_readArrows_X7_record : GoodIn wsX7_readArrows wsX7_record := goodIn_r _ [46, 47, 48, 3, 53, 54, 55, 56, 57, 58, 59, 60, 61, 62, 63, 64, 65, 66, 67, 68, 69, 70, 71] (by decide +kernel) (by decide +kernel)
set_option maxRecDepth 20000 in
theorem gX7_readArrows_X7_record : GoodIn wsX7_readArrows (wsV RX7 97 RX7 yX7_record wsX7_record) := goodIn_app (goodIn_of _ (by decide +kernel)) ggX7_readArrows_X7_record
set_option maxRecDepth 20000 in
theorem ggX7_readArrows_X7_puts : GoodIn wsX7_readArrows wsX7_puts := goodIn_r _ [52, 3, 53, 54, 55, 56, 57, 58, 59, 60, 61, 62, 63, 64, 65, 66, 67, 68, 69, 70, 71] (by decide +kernel) (by decide +kernel)
set_option maxRecDepth 20000 in
theorem gX7_readArrows_X7_puts : GoodIn wsX7_readArrows (wsV RX7 100 RX7 yX7_puts wsX7_puts) := goodIn_app (goodIn_of _ (by decide +kernel)) ggX7_readArrows_X7_puts
theorem dX7_readArrows_0 : decode cX7_readArrows 0 = .ok (.aload_n 0, 1) := by decide +kernel
theorem dX7_readArrows_1 : decode cX7_readArrows 1 = .ok (.invokevirtual 148, 3) := by decide +kernel
theorem dX7_readArrows_4 : decode cX7_readArrows 4 = .ok (.ifCond .ne 11, 3) := by decide +kernel
theorem dX7_readArrows_7 : decode cX7_readArrows 7 = .ok (.bipush (-100), 2) := by decide +kernel
theorem dX7_readArrows_9 : decode cX7_readArrows 9 = .ok (.aload_n 0, 1) := by decide +kernel
theorem dX7_readArrows_10 : decode cX7_readArrows 10 = .ok (.getfield 129, 3) := by decide +kernel
theorem dX7_readArrows_13 : decode cX7_readArrows 13 = .ok (.isub, 1) := by decide +kernel
theorem dX7_readArrows_14 : decode cX7_readArrows 14 = .ok (.ireturn, 1) := by decide +kernel
theorem dX7_readArrows_15 : decode cX7_readArrows 15 = .ok (.aload_n 0, 1) := by decide +kernel
theorem dX7_readArrows_16 : decode cX7_readArrows 16 = .ok (.getfield 139, 3) := by decide +kernel
theorem dX7_readArrows_19 : decode cX7_readArrows 19 = .ok (.ifCond .le 5, 3) := by decide +kernel
theorem dX7_readArrows_22 : decode cX7_readArrows 22 = .ok (.iconst (-1), 1) := by decide +kernel
theorem dX7_readArrows_23 : decode cX7_readArrows 23 = .ok (.ireturn, 1) := by decide +kernel
theorem dX7_readArrows_24 : decode cX7_readArrows 24 = .ok (.iconst 0, 1) := by decide +kernel
theorem dX7_readArrows_25 : decode cX7_readArrows 25 = .ok (.istore_n 1, 1) := by decide +kernel
theorem dX7_readArrows_26 : decode cX7_readArrows 26 = .ok (.iconst 0, 1) := by decide +kernel
theorem dX7_readArrows_27 : decode cX7_readArrows 27 = .ok (.istore_n 2, 1) := by decide +kernel
theorem dX7_readArrows_28 : decode cX7_readArrows 28 = .ok (.iload_n 2, 1) := by decide +kernel
theorem dX7_readArrows_29 : decode cX7_readArrows 29 = .ok (.aload_n 0, 1) := by decide +kernel
theorem dX7_readArrows_30 : decode cX7_readArrows 30 = .ok (.getfield 7, 3) := by decide +kernel
theorem dX7_readArrows_33 : decode cX7_readArrows 33 = .ok (.bipush 56, 2) := by decide +kernel
theorem dX7_readArrows_35 : decode cX7_readArrows 35 = .ok (.iaload, 1) := by decide +kernel
theorem dX7_readArrows_36 : decode cX7_readArrows 36 = .ok (.if_icmp .ge 30, 3) := by decide +kernel
theorem dX7_readArrows_39 : decode cX7_readArrows 39 = .ok (.iload_n 1, 1) := by decide +kernel
theorem dX7_readArrows_40 : decode cX7_readArrows 40 = .ok (.aload_n 0, 1) := by decide +kernel
theorem dX7_readArrows_41 : decode cX7_readArrows 41 = .ok (.getfield 32, 3) := by decide +kernel
theorem dX7_readArrows_44 : decode cX7_readArrows 44 = .ok (.iload_n 2, 1) := by decide +kernel
theorem dX7_readArrows_45 : decode cX7_readArrows 45 = .ok (.iaload, 1) := by decide +kernel
theorem dX7_readArrows_46 : decode cX7_readArrows 46 = .ok (.aload_n 0, 1) := by decide +kernel
theorem dX7_readArrows_47 : decode cX7_readArrows 47 = .ok (.iload_n 2, 1) := by decide +kernel
theorem dX7_readArrows_48 : decode cX7_readArrows 48 = .ok (.iconst 2, 1) := by decide +kernel
theorem dX7_readArrows_49 : decode cX7_readArrows 49 = .ok (.invokevirtual 48, 3) := by decide +kernel
theorem dX7_readArrows_52 : decode cX7_readArrows 52 = .ok (.iconst (-1), 1) := by decide +kernel
theorem dX7_readArrows_53 : decode cX7_readArrows 53 = .ok (.ixor, 1) := by decide +kernel
theorem dX7_readArrows_54 : decode cX7_readArrows 54 = .ok (.iand, 1) := by decide +kernel
theorem dX7_readArrows_55 : decode cX7_readArrows 55 = .ok (.invokestatic 52, 3) := by decide +kernel
theorem dX7_readArrows_58 : decode cX7_readArrows 58 = .ok (.iadd, 1) := by decide +kernel
theorem dX7_readArrows_59 : decode cX7_readArrows 59 = .ok (.istore_n 1, 1) := by decide +kernel
theorem dX7_readArrows_60 : decode cX7_readArrows 60 = .ok (.iinc 2 1, 3) := by decide +kernel
theorem dX7_readArrows_63 : decode cX7_readArrows 63 = .ok (.goto (-35), 3) := by decide +kernel
theorem dX7_readArrows_66 : decode cX7_readArrows 66 = .ok (.aload_n 0, 1) := by decide +kernel
theorem dX7_readArrows_67 : decode cX7_readArrows 67 = .ok (.invokevirtual 108, 3) := by decide +kernel
theorem dX7_readArrows_70 : decode cX7_readArrows 70 = .ok (.iload_n 1, 1) := by decide +kernel
theorem dX7_readArrows_71 : decode cX7_readArrows 71 = .ok (.iadd, 1) := by decide +kernel
theorem dX7_readArrows_72 : decode cX7_readArrows 72 = .ok (.bipush 60, 2) := by decide +kernel
theorem dX7_readArrows_74 : decode cX7_readArrows 74 = .ok (.if_icmp .le 6, 3) := by decide +kernel
theorem dX7_readArrows_77 : decode cX7_readArrows 77 = .ok (.bipush (-3), 2) := by decide +kernel
theorem dX7_readArrows_79 : decode cX7_readArrows 79 = .ok (.ireturn, 1) := by decide +kernel
theorem dX7_readArrows_80 : decode cX7_readArrows 80 = .ok (.aload_n 0, 1) := by decide +kernel
theorem dX7_readArrows_81 : decode cX7_readArrows 81 = .ok (.invokevirtual 97, 3) := by decide +kernel
theorem dX7_readArrows_84 : decode cX7_readArrows 84 = .ok (.iconst 0, 1) := by decide +kernel
theorem dX7_readArrows_85 : decode cX7_readArrows 85 = .ok (.istore_n 2, 1) := by decide +kernel
theorem dX7_readArrows_86 : decode cX7_readArrows 86 = .ok (.iload_n 2, 1) := by decide +kernel
theorem dX7_readArrows_87 : decode cX7_readArrows 87 = .ok (.aload_n 0, 1) := by decide +kernel
theorem dX7_readArrows_88 : decode cX7_readArrows 88 = .ok (.getfield 7, 3) := by decide +kernel
theorem dX7_readArrows_91 : decode cX7_readArrows 91 = .ok (.bipush 56, 2) := by decide +kernel
theorem dX7_readArrows_93 : decode cX7_readArrows 93 = .ok (.iaload, 1) := by decide +kernel
theorem dX7_readArrows_94 : decode cX7_readArrows 94 = .ok (.if_icmp .ge 28, 3) := by decide +kernel
theorem dX7_readArrows_97 : decode cX7_readArrows 97 = .ok (.aload_n 0, 1) := by decide +kernel
theorem dX7_readArrows_98 : decode cX7_readArrows 98 = .ok (.iload_n 2, 1) := by decide +kernel
theorem dX7_readArrows_99 : decode cX7_readArrows 99 = .ok (.iconst 2, 1) := by decide +kernel
theorem dX7_readArrows_100 : decode cX7_readArrows 100 = .ok (.aload_n 0, 1) := by decide +kernel
theorem dX7_readArrows_101 : decode cX7_readArrows 101 = .ok (.iload_n 2, 1) := by decide +kernel
theorem dX7_readArrows_102 : decode cX7_readArrows 102 = .ok (.iconst 2, 1) := by decide +kernel
theorem dX7_readArrows_103 : decode cX7_readArrows 103 = .ok (.invokevirtual 48, 3) := by decide +kernel
theorem dX7_readArrows_106 : decode cX7_readArrows 106 = .ok (.aload_n 0, 1) := by decide +kernel
theorem dX7_readArrows_107 : decode cX7_readArrows 107 = .ok (.getfield 32, 3) := by decide +kernel
theorem dX7_readArrows_110 : decode cX7_readArrows 110 = .ok (.iload_n 2, 1) := by decide +kernel
theorem dX7_readArrows_111 : decode cX7_readArrows 111 = .ok (.iaload, 1) := by decide +kernel
theorem dX7_readArrows_112 : decode cX7_readArrows 112 = .ok (.ior, 1) := by decide +kernel
theorem dX7_readArrows_113 : decode cX7_readArrows 113 = .ok (.invokevirtual 100, 3) := by decide +kernel
theorem dX7_readArrows_116 : decode cX7_readArrows 116 = .ok (.iinc 2 1, 3) := by decide +kernel
theorem dX7_readArrows_119 : decode cX7_readArrows 119 = .ok (.goto (-33), 3) := by decide +kernel
theorem dX7_readArrows_122 : decode cX7_readArrows 122 = .ok (.iload_n 1, 1) := by decide +kernel
theorem dX7_readArrows_123 : decode cX7_readArrows 123 = .ok (.ireturn, 1) := by decide +kernel
theorem dX7_undo_0 : decode cX7_undo 0 = .ok (.aload_n 0, 1) := by decide +kernel
theorem dX7_undo_1 : decode cX7_undo 1 = .ok (.getfield 56, 3) := by decide +kernel
theorem dX7_undo_4 : decode cX7_undo 4 = .ok (.ifCond .ne 6, 3) := by decide +kernel
theorem dX7_undo_7 : decode cX7_undo 7 = .ok (.bipush (-5), 2) := by decide +kernel
theorem dX7_undo_9 : decode cX7_undo 9 = .ok (.ireturn, 1) := by decide +kernel
theorem dX7_undo_10 : decode cX7_undo 10 = .ok (.aload_n 0, 1) := by decide +kernel
theorem dX7_undo_11 : decode cX7_undo 11 = .ok (.dup, 1) := by decide +kernel
theorem dX7_undo_12 : decode cX7_undo 12 = .ok (.getfield 56, 3) := by decide +kernel
theorem dX7_undo_15 : decode cX7_undo 15 = .ok (.iconst 1, 1) := by decide +kernel
theorem dX7_undo_16 : decode cX7_undo 16 = .ok (.isub, 1) := by decide +kernel
theorem dX7_undo_17 : decode cX7_undo 17 = .ok (.putfield 56, 3) := by decide +kernel
theorem dX7_undo_20 : decode cX7_undo 20 = .ok (.iconst 0, 1) := by decide +kernel
theorem dX7_undo_21 : decode cX7_undo 21 = .ok (.istore_n 1, 1) := by decide +kernel
theorem dX7_undo_22 : decode cX7_undo 22 = .ok (.iload_n 1, 1) := by decide +kernel
theorem dX7_undo_23 : decode cX7_undo 23 = .ok (.bipush 59, 2) := by decide +kernel
theorem dX7_undo_25 : decode cX7_undo 25 = .ok (.if_icmp .ge 29, 3) := by decide +kernel
theorem dX7_undo_28 : decode cX7_undo 28 = .ok (.aload_n 0, 1) := by decide +kernel
theorem dX7_undo_29 : decode cX7_undo 29 = .ok (.getfield 7, 3) := by decide +kernel
theorem dX7_undo_32 : decode cX7_undo 32 = .ok (.iload_n 1, 1) := by decide +kernel
theorem dX7_undo_33 : decode cX7_undo 33 = .ok (.aload_n 0, 1) := by decide +kernel
theorem dX7_undo_34 : decode cX7_undo 34 = .ok (.getfield 13, 3) := by decide +kernel
theorem dX7_undo_37 : decode cX7_undo 37 = .ok (.bipush 59, 2) := by decide +kernel
theorem dX7_undo_39 : decode cX7_undo 39 = .ok (.aload_n 0, 1) := by decide +kernel
theorem dX7_undo_40 : decode cX7_undo 40 = .ok (.getfield 56, 3) := by decide +kernel
theorem dX7_undo_43 : decode cX7_undo 43 = .ok (.imul, 1) := by decide +kernel
theorem dX7_undo_44 : decode cX7_undo 44 = .ok (.iload_n 1, 1) := by decide +kernel
theorem dX7_undo_45 : decode cX7_undo 45 = .ok (.iadd, 1) := by decide +kernel
theorem dX7_undo_46 : decode cX7_undo 46 = .ok (.iaload, 1) := by decide +kernel
theorem dX7_undo_47 : decode cX7_undo 47 = .ok (.iastore, 1) := by decide +kernel
theorem dX7_undo_48 : decode cX7_undo 48 = .ok (.iinc 1 1, 3) := by decide +kernel
theorem dX7_undo_51 : decode cX7_undo 51 = .ok (.goto (-29), 3) := by decide +kernel
theorem dX7_undo_54 : decode cX7_undo 54 = .ok (.aload_n 0, 1) := by decide +kernel
theorem dX7_undo_55 : decode cX7_undo 55 = .ok (.getfield 56, 3) := by decide +kernel
theorem dX7_undo_58 : decode cX7_undo 58 = .ok (.ireturn, 1) := by decide +kernel
theorem dX7_keep_0 : decode cX7_keep 0 = .ok (.iconst 0, 1) := by decide +kernel
theorem dX7_keep_1 : decode cX7_keep 1 = .ok (.istore_n 1, 1) := by decide +kernel
theorem dX7_keep_2 : decode cX7_keep 2 = .ok (.iload_n 1, 1) := by decide +kernel
theorem dX7_keep_3 : decode cX7_keep 3 = .ok (.bipush 59, 2) := by decide +kernel
theorem dX7_keep_5 : decode cX7_keep 5 = .ok (.if_icmp .ge 21, 3) := by decide +kernel
theorem dX7_keep_8 : decode cX7_keep 8 = .ok (.aload_n 0, 1) := by decide +kernel
theorem dX7_keep_9 : decode cX7_keep 9 = .ok (.getfield 16, 3) := by decide +kernel
theorem dX7_keep_12 : decode cX7_keep 12 = .ok (.iload_n 1, 1) := by decide +kernel
theorem dX7_keep_13 : decode cX7_keep 13 = .ok (.aload_n 0, 1) := by decide +kernel
theorem dX7_keep_14 : decode cX7_keep 14 = .ok (.getfield 7, 3) := by decide +kernel
theorem dX7_keep_17 : decode cX7_keep 17 = .ok (.iload_n 1, 1) := by decide +kernel
theorem dX7_keep_18 : decode cX7_keep 18 = .ok (.iaload, 1) := by decide +kernel
theorem dX7_keep_19 : decode cX7_keep 19 = .ok (.iastore, 1) := by decide +kernel
theorem dX7_keep_20 : decode cX7_keep 20 = .ok (.iinc 1 1, 3) := by decide +kernel
theorem dX7_keep_23 : decode cX7_keep 23 = .ok (.goto (-21), 3) := by decide +kernel
theorem dX7_keep_26 : decode cX7_keep 26 = .ok (.aload_n 0, 1) := by decide +kernel
theorem dX7_keep_27 : decode cX7_keep 27 = .ok (.iconst 1, 1) := by decide +kernel
theorem dX7_keep_28 : decode cX7_keep 28 = .ok (.putfield 151, 3) := by decide +kernel
theorem dX7_keep_31 : decode cX7_keep 31 = .ok (.aload_n 0, 1) := by decide +kernel
theorem dX7_keep_32 : decode cX7_keep 32 = .ok (.getfield 7, 3) := by decide +kernel
theorem dX7_keep_35 : decode cX7_keep 35 = .ok (.bipush 56, 2) := by decide +kernel
theorem dX7_keep_37 : decode cX7_keep 37 = .ok (.iaload, 1) := by decide +kernel
theorem dX7_keep_38 : decode cX7_keep 38 = .ok (.ireturn, 1) := by decide +kernel
set_option maxRecDepth 20000 in
theorem ggX7_restore_X7_record : GoodIn wsX7_restore wsX7_record := goodIn_r _ [8, 9, 10, 2, 11, 12, 13, 14, 15, 16, 17, 18, 19, 20, 21, 22, 23, 24, 25, 26, 27, 28, 29] (by decide +kernel) (by decide +kernel)
set_option maxRecDepth 20000 in
theorem gX7_restore_X7_record : GoodIn wsX7_restore (wsV RX7 97 RX7 yX7_record wsX7_record) := goodIn_app (goodIn_of _ (by decide +kernel)) ggX7_restore_X7_record
theorem dX7_restore_0 : decode cX7_restore 0 = .ok (.aload_n 0, 1) := by decide +kernel
theorem dX7_restore_1 : decode cX7_restore 1 = .ok (.getfield 151, 3) := by decide +kernel
theorem dX7_restore_4 : decode cX7_restore 4 = .ok (.ifCond .ne 6, 3) := by decide +kernel
theorem dX7_restore_7 : decode cX7_restore 7 = .ok (.bipush (-5), 2) := by decide +kernel
theorem dX7_restore_9 : decode cX7_restore 9 = .ok (.ireturn, 1) := by decide +kernel
theorem dX7_restore_10 : decode cX7_restore 10 = .ok (.aload_n 0, 1) := by decide +kernel
theorem dX7_restore_11 : decode cX7_restore 11 = .ok (.invokevirtual 97, 3) := by decide +kernel
theorem dX7_restore_14 : decode cX7_restore 14 = .ok (.iconst 0, 1) := by decide +kernel
theorem dX7_restore_15 : decode cX7_restore 15 = .ok (.istore_n 1, 1) := by decide +kernel
theorem dX7_restore_16 : decode cX7_restore 16 = .ok (.iload_n 1, 1) := by decide +kernel
theorem dX7_restore_17 : decode cX7_restore 17 = .ok (.bipush 59, 2) := by decide +kernel
theorem dX7_restore_19 : decode cX7_restore 19 = .ok (.if_icmp .ge 21, 3) := by decide +kernel
theorem dX7_restore_22 : decode cX7_restore 22 = .ok (.aload_n 0, 1) := by decide +kernel
theorem dX7_restore_23 : decode cX7_restore 23 = .ok (.getfield 7, 3) := by decide +kernel
theorem dX7_restore_26 : decode cX7_restore 26 = .ok (.iload_n 1, 1) := by decide +kernel
theorem dX7_restore_27 : decode cX7_restore 27 = .ok (.aload_n 0, 1) := by decide +kernel
theorem dX7_restore_28 : decode cX7_restore 28 = .ok (.getfield 16, 3) := by decide +kernel
theorem dX7_restore_31 : decode cX7_restore 31 = .ok (.iload_n 1, 1) := by decide +kernel
theorem dX7_restore_32 : decode cX7_restore 32 = .ok (.iaload, 1) := by decide +kernel
theorem dX7_restore_33 : decode cX7_restore 33 = .ok (.iastore, 1) := by decide +kernel
theorem dX7_restore_34 : decode cX7_restore 34 = .ok (.iinc 1 1, 3) := by decide +kernel
theorem dX7_restore_37 : decode cX7_restore 37 = .ok (.goto (-21), 3) := by decide +kernel
theorem dX7_restore_40 : decode cX7_restore 40 = .ok (.aload_n 0, 1) := by decide +kernel
theorem dX7_restore_41 : decode cX7_restore 41 = .ok (.getfield 7, 3) := by decide +kernel
theorem dX7_restore_44 : decode cX7_restore 44 = .ok (.bipush 56, 2) := by decide +kernel
theorem dX7_restore_46 : decode cX7_restore 46 = .ok (.iaload, 1) := by decide +kernel
theorem dX7_restore_47 : decode cX7_restore 47 = .ok (.ireturn, 1) := by decide +kernel
set_option maxRecDepth 20000 in
theorem ggX7_sources_X7_hasArrow : GoodIn wsX7_sources wsX7_hasArrow := goodIn_r _ [6, 7, 8, 9, 5, 10, 1, 11, 12, 13, 14, 15, 16, 17, 18, 19, 20, 21, 22, 23, 24, 25, 26, 27, 28, 29] (by decide +kernel) (by decide +kernel)
set_option maxRecDepth 20000 in
theorem gX7_sources_X7_hasArrow : GoodIn wsX7_sources (wsV RX7 67 RX7 yX7_hasArrow wsX7_hasArrow) := goodIn_app (goodIn_of _ (by decide +kernel)) ggX7_sources_X7_hasArrow
theorem dX7_sources_0 : decode cX7_sources 0 = .ok (.iconst 0, 1) := by decide +kernel
theorem dX7_sources_1 : decode cX7_sources 1 = .ok (.istore_n 2, 1) := by decide +kernel
theorem dX7_sources_2 : decode cX7_sources 2 = .ok (.iconst 0, 1) := by decide +kernel
theorem dX7_sources_3 : decode cX7_sources 3 = .ok (.istore_n 3, 1) := by decide +kernel
theorem dX7_sources_4 : decode cX7_sources 4 = .ok (.iload_n 3, 1) := by decide +kernel
theorem dX7_sources_5 : decode cX7_sources 5 = .ok (.aload_n 0, 1) := by decide +kernel
theorem dX7_sources_6 : decode cX7_sources 6 = .ok (.getfield 7, 3) := by decide +kernel
theorem dX7_sources_9 : decode cX7_sources 9 = .ok (.bipush 56, 2) := by decide +kernel
theorem dX7_sources_11 : decode cX7_sources 11 = .ok (.iaload, 1) := by decide +kernel
theorem dX7_sources_12 : decode cX7_sources 12 = .ok (.if_icmp .ge 28, 3) := by decide +kernel
theorem dX7_sources_15 : decode cX7_sources 15 = .ok (.iload_n 2, 1) := by decide +kernel
theorem dX7_sources_16 : decode cX7_sources 16 = .ok (.aload_n 0, 1) := by decide +kernel
theorem dX7_sources_17 : decode cX7_sources 17 = .ok (.iload_n 3, 1) := by decide +kernel
theorem dX7_sources_18 : decode cX7_sources 18 = .ok (.iload_n 1, 1) := by decide +kernel
theorem dX7_sources_19 : decode cX7_sources 19 = .ok (.invokevirtual 67, 3) := by decide +kernel
theorem dX7_sources_22 : decode cX7_sources 22 = .ok (.ifCond .eq 9, 3) := by decide +kernel
theorem dX7_sources_25 : decode cX7_sources 25 = .ok (.iconst 1, 1) := by decide +kernel
theorem dX7_sources_26 : decode cX7_sources 26 = .ok (.iload_n 3, 1) := by decide +kernel
theorem dX7_sources_27 : decode cX7_sources 27 = .ok (.ishl, 1) := by decide +kernel
theorem dX7_sources_28 : decode cX7_sources 28 = .ok (.goto 4, 3) := by decide +kernel
theorem dX7_sources_31 : decode cX7_sources 31 = .ok (.iconst 0, 1) := by decide +kernel
theorem dX7_sources_32 : decode cX7_sources 32 = .ok (.ior, 1) := by decide +kernel
theorem dX7_sources_33 : decode cX7_sources 33 = .ok (.istore_n 2, 1) := by decide +kernel
theorem dX7_sources_34 : decode cX7_sources 34 = .ok (.iinc 3 1, 3) := by decide +kernel
theorem dX7_sources_37 : decode cX7_sources 37 = .ok (.goto (-33), 3) := by decide +kernel
theorem dX7_sources_40 : decode cX7_sources 40 = .ok (.iload_n 2, 1) := by decide +kernel
theorem dX7_sources_41 : decode cX7_sources 41 = .ok (.ireturn, 1) := by decide +kernel
set_option maxRecDepth 20000 in
theorem ggX7_place_X7_no : GoodIn wsX7_place wsX7_no := goodIn_r _ [5, 6, 7, 8, 4, 9, 60, 61, 62, 63, 64, 65, 66, 67, 68, 69, 70, 71, 72, 73, 74, 75, 76, 77, 78] (by decide +kernel) (by decide +kernel)
set_option maxRecDepth 20000 in
theorem gX7_place_X7_no : GoodIn wsX7_place (wsV RX7 104 RX7 yX7_no wsX7_no) := goodIn_app (goodIn_of _ (by decide +kernel)) ggX7_place_X7_no
set_option maxRecDepth 20000 in
theorem ggX7_place_X7_of : GoodIn wsX7_place wsX7_of := goodIn_r _ [13, 6, 60, 61, 62, 63, 64, 65, 66, 67, 68, 69, 70, 71, 72, 73, 74, 75, 76, 77, 78] (by decide +kernel) (by decide +kernel)
set_option maxRecDepth 20000 in
theorem gX7_place_X7_of : GoodIn wsX7_place (wsV RX7 48 RX7 yX7_of wsX7_of) := goodIn_app (goodIn_of _ (by decide +kernel)) ggX7_place_X7_of
set_option maxRecDepth 20000 in
theorem ggX7_place_X7_sources : GoodIn wsX7_place wsX7_sources := goodIn_r _ [17, 6, 18, 19, 20, 4, 21, 10, 11, 12, 13, 60, 61, 62, 63, 64, 65, 66, 67, 68, 69, 70, 71, 72, 73, 74, 75, 76, 77, 78] (by decide +kernel) (by decide +kernel)
set_option maxRecDepth 20000 in
theorem gX7_place_X7_sources : GoodIn wsX7_place (wsV RX7 155 RX7 yX7_sources wsX7_sources) := goodIn_app (goodIn_of _ (by decide +kernel)) ggX7_place_X7_sources
set_option maxRecDepth 20000 in
theorem ggX7_place_X7_winner : GoodIn wsX7_place wsX7_winner := goodIn_r _ [25, 26, 27, 28, 4, 29, 30, 31, 32, 33, 34, 6, 35, 36, 37, 38, 39, 40, 41, 10, 11, 12, 13, 42, 43, 44, 45, 46, 47, 48, 49, 50, 18, 19, 20, 21, 51, 52, 53, 54, 55, 56, 57, 58, 59, 60, 61, 62, 63, 64, 65, 66, 67, 68, 69, 70, 71, 72, 73, 74, 75, 76, 77, 78] (by decide +kernel) (by decide +kernel)
set_option maxRecDepth 20000 in
theorem gX7_place_X7_winner : GoodIn wsX7_place (wsV RX7 114 RX7 yX7_winner wsX7_winner) := goodIn_app (goodIn_of _ (by decide +kernel)) ggX7_place_X7_winner
theorem dX7_place_0 : decode cX7_place 0 = .ok (.aload_n 0, 1) := by decide +kernel
theorem dX7_place_1 : decode cX7_place 1 = .ok (.iload_n 1, 1) := by decide +kernel
theorem dX7_place_2 : decode cX7_place 2 = .ok (.invokevirtual 104, 3) := by decide +kernel
theorem dX7_place_5 : decode cX7_place 5 = .ok (.ifCond .eq 5, 3) := by decide +kernel
theorem dX7_place_8 : decode cX7_place 8 = .ok (.iconst (-1), 1) := by decide +kernel
theorem dX7_place_9 : decode cX7_place 9 = .ok (.ireturn, 1) := by decide +kernel
theorem dX7_place_10 : decode cX7_place 10 = .ok (.iload_n 2, 1) := by decide +kernel
theorem dX7_place_11 : decode cX7_place 11 = .ok (.tableswitch 79 0 5 #[37, 37, 37, 44, 50, 56], 37) := by decide +kernel
theorem dX7_place_48 : decode cX7_place 48 = .ok (.aload_n 0, 1) := by decide +kernel
theorem dX7_place_49 : decode cX7_place 49 = .ok (.iload_n 1, 1) := by decide +kernel
theorem dX7_place_50 : decode cX7_place 50 = .ok (.iload_n 2, 1) := by decide +kernel
theorem dX7_place_51 : decode cX7_place 51 = .ok (.invokevirtual 48, 3) := by decide +kernel
theorem dX7_place_54 : decode cX7_place 54 = .ok (.ireturn, 1) := by decide +kernel
theorem dX7_place_55 : decode cX7_place 55 = .ok (.aload_n 0, 1) := by decide +kernel
theorem dX7_place_56 : decode cX7_place 56 = .ok (.iload_n 1, 1) := by decide +kernel
theorem dX7_place_57 : decode cX7_place 57 = .ok (.invokevirtual 155, 3) := by decide +kernel
theorem dX7_place_60 : decode cX7_place 60 = .ok (.ireturn, 1) := by decide +kernel
theorem dX7_place_61 : decode cX7_place 61 = .ok (.aload_n 0, 1) := by decide +kernel
theorem dX7_place_62 : decode cX7_place 62 = .ok (.iload_n 1, 1) := by decide +kernel
theorem dX7_place_63 : decode cX7_place 63 = .ok (.invokevirtual 114, 3) := by decide +kernel
theorem dX7_place_66 : decode cX7_place 66 = .ok (.ireturn, 1) := by decide +kernel
theorem dX7_place_67 : decode cX7_place 67 = .ok (.aload_n 0, 1) := by decide +kernel
theorem dX7_place_68 : decode cX7_place 68 = .ok (.iload_n 1, 1) := by decide +kernel
theorem dX7_place_69 : decode cX7_place 69 = .ok (.iconst 3, 1) := by decide +kernel
theorem dX7_place_70 : decode cX7_place 70 = .ok (.invokevirtual 48, 3) := by decide +kernel
theorem dX7_place_73 : decode cX7_place 73 = .ok (.bipush 14, 2) := by decide +kernel
theorem dX7_place_75 : decode cX7_place 75 = .ok (.if_icmp .ne 8, 3) := by decide +kernel
theorem dX7_place_78 : decode cX7_place 78 = .ok (.bipush (-5), 2) := by decide +kernel
theorem dX7_place_80 : decode cX7_place 80 = .ok (.goto 9, 3) := by decide +kernel
theorem dX7_place_83 : decode cX7_place 83 = .ok (.aload_n 0, 1) := by decide +kernel
theorem dX7_place_84 : decode cX7_place 84 = .ok (.iload_n 1, 1) := by decide +kernel
theorem dX7_place_85 : decode cX7_place 85 = .ok (.iconst 3, 1) := by decide +kernel
theorem dX7_place_86 : decode cX7_place 86 = .ok (.invokevirtual 48, 3) := by decide +kernel
theorem dX7_place_89 : decode cX7_place 89 = .ok (.ireturn, 1) := by decide +kernel
theorem dX7_place_90 : decode cX7_place 90 = .ok (.bipush (-2), 2) := by decide +kernel
theorem dX7_place_92 : decode cX7_place 92 = .ok (.ireturn, 1) := by decide +kernel
set_option maxRecDepth 20000 in
theorem ggX7_wins_X7_noPlayer : GoodIn wsX7_wins wsX7_noPlayer := goodIn_r _ [4, 5, 6, 3, 7] (by decide +kernel) (by decide +kernel)
set_option maxRecDepth 20000 in
theorem gX7_wins_X7_noPlayer : GoodIn wsX7_wins (va_wsS RX7 111 yX7_noPlayer wsX7_noPlayer) := goodIn_app (goodIn_of _ (by decide +kernel)) ggX7_wins_X7_noPlayer
set_option maxRecDepth 20000 in
theorem ggX7_wins_X7_winsOf : GoodIn wsX7_wins wsX7_winsOf := goodIn_r _ [11, 12, 13, 14, 3, 15, 16, 17, 18, 19, 20, 21, 22, 23, 24, 25, 26, 27, 28, 29, 30, 31, 32, 33, 34, 35, 36, 37, 38, 39, 40, 41, 42, 43, 44, 45, 46, 47, 48, 49, 50, 51, 52, 53, 54, 55, 56, 57, 58, 59, 60, 61, 62, 63, 64, 65, 66, 67, 68, 69] (by decide +kernel) (by decide +kernel)
set_option maxRecDepth 20000 in
theorem gX7_wins_X7_winsOf : GoodIn wsX7_wins (wsV RX7 94 RX7 yX7_winsOf wsX7_winsOf) := goodIn_app (goodIn_of _ (by decide +kernel)) ggX7_wins_X7_winsOf
theorem dX7_wins_0 : decode cX7_wins 0 = .ok (.iload_n 1, 1) := by decide +kernel
theorem dX7_wins_1 : decode cX7_wins 1 = .ok (.invokestatic 111, 3) := by decide +kernel
theorem dX7_wins_4 : decode cX7_wins 4 = .ok (.ifCond .eq 7, 3) := by decide +kernel
theorem dX7_wins_7 : decode cX7_wins 7 = .ok (.iconst (-1), 1) := by decide +kernel
theorem dX7_wins_8 : decode cX7_wins 8 = .ok (.goto 8, 3) := by decide +kernel
theorem dX7_wins_11 : decode cX7_wins 11 = .ok (.aload_n 0, 1) := by decide +kernel
theorem dX7_wins_12 : decode cX7_wins 12 = .ok (.iload_n 1, 1) := by decide +kernel
theorem dX7_wins_13 : decode cX7_wins 13 = .ok (.invokevirtual 94, 3) := by decide +kernel
theorem dX7_wins_16 : decode cX7_wins 16 = .ok (.ireturn, 1) := by decide +kernel
set_option maxRecDepth 20000 in
theorem ggX7_winningChoice_X7_no : GoodIn wsX7_winningChoice wsX7_no := goodIn_r _ [5, 6, 7, 8, 4, 9, 52, 53, 54, 55, 56, 57, 58, 59, 60, 61, 62, 63, 64, 65, 66, 67, 68, 69, 70] (by decide +kernel) (by decide +kernel)
set_option maxRecDepth 20000 in
theorem gX7_winningChoice_X7_no : GoodIn wsX7_winningChoice (wsV RX7 104 RX7 yX7_no wsX7_no) := goodIn_app (goodIn_of _ (by decide +kernel)) ggX7_winningChoice_X7_no
set_option maxRecDepth 20000 in
theorem ggX7_winningChoice_X7_bestChoice : GoodIn wsX7_winningChoice wsX7_bestChoice := goodIn_r _ [13, 14, 15, 16, 4, 17, 6, 18, 19, 20, 21, 22, 23, 24, 25, 26, 27, 28, 29, 30, 31, 32, 33, 34, 35, 36, 37, 38, 39, 40, 41, 42, 43, 44, 45, 46, 47, 48, 49, 50, 51, 52, 53, 54, 55, 56, 57, 58, 59, 60, 61, 62, 63, 64, 65, 66, 67, 68, 69, 70] (by decide +kernel) (by decide +kernel)
set_option maxRecDepth 20000 in
theorem gX7_winningChoice_X7_bestChoice : GoodIn wsX7_winningChoice (wsV RX7 117 RX7 yX7_bestChoice wsX7_bestChoice) := goodIn_app (goodIn_of _ (by decide +kernel)) ggX7_winningChoice_X7_bestChoice
theorem dX7_winningChoice_0 : decode cX7_winningChoice 0 = .ok (.aload_n 0, 1) := by decide +kernel
theorem dX7_winningChoice_1 : decode cX7_winningChoice 1 = .ok (.iload_n 1, 1) := by decide +kernel
theorem dX7_winningChoice_2 : decode cX7_winningChoice 2 = .ok (.invokevirtual 104, 3) := by decide +kernel
theorem dX7_winningChoice_5 : decode cX7_winningChoice 5 = .ok (.ifCond .eq 7, 3) := by decide +kernel
theorem dX7_winningChoice_8 : decode cX7_winningChoice 8 = .ok (.iconst (-1), 1) := by decide +kernel
theorem dX7_winningChoice_9 : decode cX7_winningChoice 9 = .ok (.goto 8, 3) := by decide +kernel
theorem dX7_winningChoice_12 : decode cX7_winningChoice 12 = .ok (.aload_n 0, 1) := by decide +kernel
theorem dX7_winningChoice_13 : decode cX7_winningChoice 13 = .ok (.iload_n 1, 1) := by decide +kernel
theorem dX7_winningChoice_14 : decode cX7_winningChoice 14 = .ok (.invokevirtual 117, 3) := by decide +kernel
theorem dX7_winningChoice_17 : decode cX7_winningChoice 17 = .ok (.ireturn, 1) := by decide +kernel
set_option maxRecDepth 20000 in
theorem ggX7_measure_X7_noPlayer : GoodIn wsX7_measure wsX7_noPlayer := goodIn_r _ [6, 7, 8, 5, 9] (by decide +kernel) (by decide +kernel)
set_option maxRecDepth 20000 in
theorem gX7_measure_X7_noPlayer : GoodIn wsX7_measure (va_wsS RX7 111 yX7_noPlayer wsX7_noPlayer) := goodIn_app (goodIn_of _ (by decide +kernel)) ggX7_measure_X7_noPlayer
set_option maxRecDepth 20000 in
theorem ggX7_measure_X7_no : GoodIn wsX7_measure wsX7_no := goodIn_r _ [13, 14, 7, 8, 5, 9, 47, 48, 49, 50, 51, 52, 53, 54, 55, 56, 57, 58, 59, 60, 61, 62, 63, 64, 65] (by decide +kernel) (by decide +kernel)
set_option maxRecDepth 20000 in
theorem gX7_measure_X7_no : GoodIn wsX7_measure (wsV RX7 104 RX7 yX7_no wsX7_no) := goodIn_app (goodIn_of _ (by decide +kernel)) ggX7_measure_X7_no
set_option maxRecDepth 20000 in
theorem ggX7_measure_X7_in : GoodIn wsX7_measure wsX7_in := goodIn_r _ [9] (by decide +kernel) (by decide +kernel)
set_option maxRecDepth 20000 in
theorem gX7_measure_X7_in : GoodIn wsX7_measure (va_wsS RX7 44 yX7_in wsX7_in) := goodIn_app (goodIn_of _ (by decide +kernel)) ggX7_measure_X7_in
set_option maxRecDepth 20000 in
theorem ggX7_measure_X7_finds : GoodIn wsX7_measure wsX7_finds := goodIn_r _ [18, 19, 14, 20, 1, 21, 22, 23, 24, 5, 25, 26, 27, 28, 29, 30, 31, 32, 33, 2, 34, 35, 36, 37, 38, 39, 40, 41, 42, 43, 44, 45, 46, 47, 48, 49, 50, 51, 52, 53, 54, 55, 56, 57, 58, 59, 60, 61, 62, 63, 64, 65] (by decide +kernel) (by decide +kernel)
set_option maxRecDepth 20000 in
theorem gX7_measure_X7_finds : GoodIn wsX7_measure (wsV RX7 83 RX7 yX7_finds wsX7_finds) := goodIn_app (goodIn_of _ (by decide +kernel)) ggX7_measure_X7_finds
theorem dX7_measure_0 : decode cX7_measure 0 = .ok (.iload_n 1, 1) := by decide +kernel
theorem dX7_measure_1 : decode cX7_measure 1 = .ok (.invokestatic 111, 3) := by decide +kernel
theorem dX7_measure_4 : decode cX7_measure 4 = .ok (.ifCond .ne 11, 3) := by decide +kernel
theorem dX7_measure_7 : decode cX7_measure 7 = .ok (.aload_n 0, 1) := by decide +kernel
theorem dX7_measure_8 : decode cX7_measure 8 = .ok (.iload_n 2, 1) := by decide +kernel
theorem dX7_measure_9 : decode cX7_measure 9 = .ok (.invokevirtual 104, 3) := by decide +kernel
theorem dX7_measure_12 : decode cX7_measure 12 = .ok (.ifCond .eq 5, 3) := by decide +kernel
theorem dX7_measure_15 : decode cX7_measure 15 = .ok (.iconst (-1), 1) := by decide +kernel
theorem dX7_measure_16 : decode cX7_measure 16 = .ok (.ireturn, 1) := by decide +kernel
theorem dX7_measure_17 : decode cX7_measure 17 = .ok (.iload_n 3, 1) := by decide +kernel
theorem dX7_measure_18 : decode cX7_measure 18 = .ok (.iconst 1, 1) := by decide +kernel
theorem dX7_measure_19 : decode cX7_measure 19 = .ok (.bipush 7, 2) := by decide +kernel
theorem dX7_measure_21 : decode cX7_measure 21 = .ok (.invokestatic 44, 3) := by decide +kernel
theorem dX7_measure_24 : decode cX7_measure 24 = .ok (.ifCond .eq 9, 3) := by decide +kernel
theorem dX7_measure_27 : decode cX7_measure 27 = .ok (.iload_n 3, 1) := by decide +kernel
theorem dX7_measure_28 : decode cX7_measure 28 = .ok (.iconst 2, 1) := by decide +kernel
theorem dX7_measure_29 : decode cX7_measure 29 = .ok (.irem, 1) := by decide +kernel
theorem dX7_measure_30 : decode cX7_measure 30 = .ok (.ifCond .ne 6, 3) := by decide +kernel
theorem dX7_measure_33 : decode cX7_measure 33 = .ok (.bipush (-2), 2) := by decide +kernel
theorem dX7_measure_35 : decode cX7_measure 35 = .ok (.ireturn, 1) := by decide +kernel
theorem dX7_measure_36 : decode cX7_measure 36 = .ok (.aload_n 0, 1) := by decide +kernel
theorem dX7_measure_37 : decode cX7_measure 37 = .ok (.iload_n 1, 1) := by decide +kernel
theorem dX7_measure_38 : decode cX7_measure 38 = .ok (.invokevirtual 83, 3) := by decide +kernel
theorem dX7_measure_41 : decode cX7_measure 41 = .ok (.aload_n 0, 1) := by decide +kernel
theorem dX7_measure_42 : decode cX7_measure 42 = .ok (.getfield 19, 3) := by decide +kernel
theorem dX7_measure_45 : decode cX7_measure 45 = .ok (.iload_n 2, 1) := by decide +kernel
theorem dX7_measure_46 : decode cX7_measure 46 = .ok (.iaload, 1) := by decide +kernel
theorem dX7_measure_47 : decode cX7_measure 47 = .ok (.istore 4, 2) := by decide +kernel
theorem dX7_measure_49 : decode cX7_measure 49 = .ok (.iload 4, 2) := by decide +kernel
theorem dX7_measure_51 : decode cX7_measure 51 = .ok (.ldc 63, 2) := by decide +kernel
theorem dX7_measure_53 : decode cX7_measure 53 = .ok (.if_icmp .ne 6, 3) := by decide +kernel
theorem dX7_measure_56 : decode cX7_measure 56 = .ok (.bipush (-5), 2) := by decide +kernel
theorem dX7_measure_58 : decode cX7_measure 58 = .ok (.ireturn, 1) := by decide +kernel
theorem dX7_measure_59 : decode cX7_measure 59 = .ok (.bipush 7, 2) := by decide +kernel
theorem dX7_measure_61 : decode cX7_measure 61 = .ok (.istore 5, 2) := by decide +kernel
theorem dX7_measure_63 : decode cX7_measure 63 = .ok (.iload 5, 2) := by decide +kernel
theorem dX7_measure_65 : decode cX7_measure 65 = .ok (.iload_n 3, 1) := by decide +kernel
theorem dX7_measure_66 : decode cX7_measure 66 = .ok (.if_icmp .le 16, 3) := by decide +kernel
theorem dX7_measure_69 : decode cX7_measure 69 = .ok (.iload 4, 2) := by decide +kernel
theorem dX7_measure_71 : decode cX7_measure 71 = .ok (.bipush 15, 2) := by decide +kernel
theorem dX7_measure_73 : decode cX7_measure 73 = .ok (.idiv, 1) := by decide +kernel
theorem dX7_measure_74 : decode cX7_measure 74 = .ok (.istore 4, 2) := by decide +kernel
theorem dX7_measure_76 : decode cX7_measure 76 = .ok (.iinc 5 (-2), 3) := by decide +kernel
theorem dX7_measure_79 : decode cX7_measure 79 = .ok (.goto (-16), 3) := by decide +kernel
theorem dX7_measure_82 : decode cX7_measure 82 = .ok (.iload 4, 2) := by decide +kernel
theorem dX7_measure_84 : decode cX7_measure 84 = .ok (.bipush 15, 2) := by decide +kernel
theorem dX7_measure_86 : decode cX7_measure 86 = .ok (.irem, 1) := by decide +kernel
theorem dX7_measure_87 : decode cX7_measure 87 = .ok (.ireturn, 1) := by decide +kernel
set_option maxRecDepth 20000 in
theorem ggX7_rounds_X7_noPlayer : GoodIn wsX7_rounds wsX7_noPlayer := goodIn_r _ [5, 6, 7, 4, 8] (by decide +kernel) (by decide +kernel)
set_option maxRecDepth 20000 in
theorem gX7_rounds_X7_noPlayer : GoodIn wsX7_rounds (va_wsS RX7 111 yX7_noPlayer wsX7_noPlayer) := goodIn_app (goodIn_of _ (by decide +kernel)) ggX7_rounds_X7_noPlayer
set_option maxRecDepth 20000 in
theorem ggX7_rounds_X7_finds : GoodIn wsX7_rounds wsX7_finds := goodIn_r _ [12, 13, 14, 15, 16, 1, 17, 18, 19, 4, 20, 21, 22, 23, 24, 25, 26, 27, 28, 29, 30, 31, 32, 33, 34, 35, 36, 37, 38, 39, 40, 41, 42, 43, 44, 45, 46, 47, 48, 49, 50, 51, 52, 53, 54, 55, 56, 57, 58, 59, 60, 61] (by decide +kernel) (by decide +kernel)
set_option maxRecDepth 20000 in
theorem gX7_rounds_X7_finds : GoodIn wsX7_rounds (wsV RX7 83 RX7 yX7_finds wsX7_finds) := goodIn_app (goodIn_of _ (by decide +kernel)) ggX7_rounds_X7_finds
theorem dX7_rounds_0 : decode cX7_rounds 0 = .ok (.iload_n 1, 1) := by decide +kernel
theorem dX7_rounds_1 : decode cX7_rounds 1 = .ok (.invokestatic 111, 3) := by decide +kernel
theorem dX7_rounds_4 : decode cX7_rounds 4 = .ok (.ifCond .eq 5, 3) := by decide +kernel
theorem dX7_rounds_7 : decode cX7_rounds 7 = .ok (.iconst (-1), 1) := by decide +kernel
theorem dX7_rounds_8 : decode cX7_rounds 8 = .ok (.ireturn, 1) := by decide +kernel
theorem dX7_rounds_9 : decode cX7_rounds 9 = .ok (.aload_n 0, 1) := by decide +kernel
theorem dX7_rounds_10 : decode cX7_rounds 10 = .ok (.iload_n 1, 1) := by decide +kernel
theorem dX7_rounds_11 : decode cX7_rounds 11 = .ok (.invokevirtual 83, 3) := by decide +kernel
theorem dX7_rounds_14 : decode cX7_rounds 14 = .ok (.aload_n 0, 1) := by decide +kernel
theorem dX7_rounds_15 : decode cX7_rounds 15 = .ok (.getfield 77, 3) := by decide +kernel
theorem dX7_rounds_18 : decode cX7_rounds 18 = .ok (.ireturn, 1) := by decide +kernel
theorem dX7_isBad_0 : decode cX7_isBad 0 = .ok (.iload_n 1, 1) := by decide +kernel
theorem dX7_isBad_1 : decode cX7_isBad 1 = .ok (.ifCond .lt 16, 3) := by decide +kernel
theorem dX7_isBad_4 : decode cX7_isBad 4 = .ok (.iload_n 1, 1) := by decide +kernel
theorem dX7_isBad_5 : decode cX7_isBad 5 = .ok (.iconst 1, 1) := by decide +kernel
theorem dX7_isBad_6 : decode cX7_isBad 6 = .ok (.aload_n 0, 1) := by decide +kernel
theorem dX7_isBad_7 : decode cX7_isBad 7 = .ok (.getfield 7, 3) := by decide +kernel
theorem dX7_isBad_10 : decode cX7_isBad 10 = .ok (.bipush 56, 2) := by decide +kernel
theorem dX7_isBad_12 : decode cX7_isBad 12 = .ok (.iaload, 1) := by decide +kernel
theorem dX7_isBad_13 : decode cX7_isBad 13 = .ok (.ishl, 1) := by decide +kernel
theorem dX7_isBad_14 : decode cX7_isBad 14 = .ok (.if_icmp .lt 7, 3) := by decide +kernel
theorem dX7_isBad_17 : decode cX7_isBad 17 = .ok (.iconst 1, 1) := by decide +kernel
theorem dX7_isBad_18 : decode cX7_isBad 18 = .ok (.goto 4, 3) := by decide +kernel
theorem dX7_isBad_21 : decode cX7_isBad 21 = .ok (.iconst 0, 1) := by decide +kernel
theorem dX7_isBad_22 : decode cX7_isBad 22 = .ok (.ireturn, 1) := by decide +kernel
set_option maxRecDepth 20000 in
theorem ggX7_comes_X7_of : GoodIn wsX7_comes wsX7_of := goodIn_r _ [5, 6, 7, 8, 9, 10, 11, 12, 13, 14, 15, 16, 17, 18, 19, 20, 21, 22, 23, 24, 25] (by decide +kernel) (by decide +kernel)
set_option maxRecDepth 20000 in
theorem gX7_comes_X7_of : GoodIn wsX7_comes (wsV RX7 48 RX7 yX7_of wsX7_of) := goodIn_app (goodIn_of _ (by decide +kernel)) ggX7_comes_X7_of
theorem dX7_comes_0 : decode cX7_comes 0 = .ok (.aload_n 0, 1) := by decide +kernel
theorem dX7_comes_1 : decode cX7_comes 1 = .ok (.iload_n 3, 1) := by decide +kernel
theorem dX7_comes_2 : decode cX7_comes 2 = .ok (.iconst 2, 1) := by decide +kernel
theorem dX7_comes_3 : decode cX7_comes 3 = .ok (.invokevirtual 48, 3) := by decide +kernel
theorem dX7_comes_6 : decode cX7_comes 6 = .ok (.istore 4, 2) := by decide +kernel
theorem dX7_comes_8 : decode cX7_comes 8 = .ok (.aload_n 0, 1) := by decide +kernel
theorem dX7_comes_9 : decode cX7_comes 9 = .ok (.iload_n 3, 1) := by decide +kernel
theorem dX7_comes_10 : decode cX7_comes 10 = .ok (.iconst 0, 1) := by decide +kernel
theorem dX7_comes_11 : decode cX7_comes 11 = .ok (.invokevirtual 48, 3) := by decide +kernel
theorem dX7_comes_14 : decode cX7_comes 14 = .ok (.iload_n 1, 1) := by decide +kernel
theorem dX7_comes_15 : decode cX7_comes 15 = .ok (.if_icmp .ne 18, 3) := by decide +kernel
theorem dX7_comes_18 : decode cX7_comes 18 = .ok (.iload 4, 2) := by decide +kernel
theorem dX7_comes_20 : decode cX7_comes 20 = .ok (.iload_n 2, 1) := by decide +kernel
theorem dX7_comes_21 : decode cX7_comes 21 = .ok (.iand, 1) := by decide +kernel
theorem dX7_comes_22 : decode cX7_comes 22 = .ok (.ifCond .eq 7, 3) := by decide +kernel
theorem dX7_comes_25 : decode cX7_comes 25 = .ok (.iconst 1, 1) := by decide +kernel
theorem dX7_comes_26 : decode cX7_comes 26 = .ok (.goto 26, 3) := by decide +kernel
theorem dX7_comes_29 : decode cX7_comes 29 = .ok (.iconst 0, 1) := by decide +kernel
theorem dX7_comes_30 : decode cX7_comes 30 = .ok (.goto 22, 3) := by decide +kernel
theorem dX7_comes_33 : decode cX7_comes 33 = .ok (.iload 4, 2) := by decide +kernel
theorem dX7_comes_35 : decode cX7_comes 35 = .ok (.ifCond .eq 16, 3) := by decide +kernel
theorem dX7_comes_38 : decode cX7_comes 38 = .ok (.iload 4, 2) := by decide +kernel
theorem dX7_comes_40 : decode cX7_comes 40 = .ok (.iload_n 2, 1) := by decide +kernel
theorem dX7_comes_41 : decode cX7_comes 41 = .ok (.iconst (-1), 1) := by decide +kernel
theorem dX7_comes_42 : decode cX7_comes 42 = .ok (.ixor, 1) := by decide +kernel
theorem dX7_comes_43 : decode cX7_comes 43 = .ok (.iand, 1) := by decide +kernel
theorem dX7_comes_44 : decode cX7_comes 44 = .ok (.ifCond .ne 7, 3) := by decide +kernel
theorem dX7_comes_47 : decode cX7_comes 47 = .ok (.iconst 1, 1) := by decide +kernel
theorem dX7_comes_48 : decode cX7_comes 48 = .ok (.goto 4, 3) := by decide +kernel
theorem dX7_comes_51 : decode cX7_comes 51 = .ok (.iconst 0, 1) := by decide +kernel
theorem dX7_comes_52 : decode cX7_comes 52 = .ok (.ireturn, 1) := by decide +kernel
set_option maxRecDepth 20000 in
theorem ggX7_coming_X7_comes : GoodIn wsX7_coming wsX7_comes := goodIn_r _ [6, 7, 8, 9, 5, 10, 1, 11, 12, 13, 14, 15, 16, 17, 18, 19, 20, 21, 22, 23, 24, 25, 26, 27, 28, 29] (by decide +kernel) (by decide +kernel)
set_option maxRecDepth 20000 in
theorem gX7_coming_X7_comes : GoodIn wsX7_coming (wsV RX7 158 RX7 yX7_comes wsX7_comes) := goodIn_app (goodIn_of _ (by decide +kernel)) ggX7_coming_X7_comes
theorem dX7_coming_0 : decode cX7_coming 0 = .ok (.iconst 0, 1) := by decide +kernel
theorem dX7_coming_1 : decode cX7_coming 1 = .ok (.istore_n 3, 1) := by decide +kernel
theorem dX7_coming_2 : decode cX7_coming 2 = .ok (.iconst 0, 1) := by decide +kernel
theorem dX7_coming_3 : decode cX7_coming 3 = .ok (.istore 4, 2) := by decide +kernel
theorem dX7_coming_5 : decode cX7_coming 5 = .ok (.iload 4, 2) := by decide +kernel
theorem dX7_coming_7 : decode cX7_coming 7 = .ok (.aload_n 0, 1) := by decide +kernel
theorem dX7_coming_8 : decode cX7_coming 8 = .ok (.getfield 7, 3) := by decide +kernel
theorem dX7_coming_11 : decode cX7_coming 11 = .ok (.bipush 56, 2) := by decide +kernel
theorem dX7_coming_13 : decode cX7_coming 13 = .ok (.iaload, 1) := by decide +kernel
theorem dX7_coming_14 : decode cX7_coming 14 = .ok (.if_icmp .ge 40, 3) := by decide +kernel
theorem dX7_coming_17 : decode cX7_coming 17 = .ok (.iload_n 3, 1) := by decide +kernel
theorem dX7_coming_18 : decode cX7_coming 18 = .ok (.iload_n 2, 1) := by decide +kernel
theorem dX7_coming_19 : decode cX7_coming 19 = .ok (.iload 4, 2) := by decide +kernel
theorem dX7_coming_21 : decode cX7_coming 21 = .ok (.ishr, 1) := by decide +kernel
theorem dX7_coming_22 : decode cX7_coming 22 = .ok (.iconst 1, 1) := by decide +kernel
theorem dX7_coming_23 : decode cX7_coming 23 = .ok (.iand, 1) := by decide +kernel
theorem dX7_coming_24 : decode cX7_coming 24 = .ok (.ifCond .ne 21, 3) := by decide +kernel
theorem dX7_coming_27 : decode cX7_coming 27 = .ok (.aload_n 0, 1) := by decide +kernel
theorem dX7_coming_28 : decode cX7_coming 28 = .ok (.iload_n 1, 1) := by decide +kernel
theorem dX7_coming_29 : decode cX7_coming 29 = .ok (.iload_n 2, 1) := by decide +kernel
theorem dX7_coming_30 : decode cX7_coming 30 = .ok (.iload 4, 2) := by decide +kernel
theorem dX7_coming_32 : decode cX7_coming 32 = .ok (.invokevirtual 158, 3) := by decide +kernel
theorem dX7_coming_35 : decode cX7_coming 35 = .ok (.ifCond .eq 10, 3) := by decide +kernel
theorem dX7_coming_38 : decode cX7_coming 38 = .ok (.iconst 1, 1) := by decide +kernel
theorem dX7_coming_39 : decode cX7_coming 39 = .ok (.iload 4, 2) := by decide +kernel
theorem dX7_coming_41 : decode cX7_coming 41 = .ok (.ishl, 1) := by decide +kernel
theorem dX7_coming_42 : decode cX7_coming 42 = .ok (.goto 4, 3) := by decide +kernel
theorem dX7_coming_45 : decode cX7_coming 45 = .ok (.iconst 0, 1) := by decide +kernel
theorem dX7_coming_46 : decode cX7_coming 46 = .ok (.ior, 1) := by decide +kernel
theorem dX7_coming_47 : decode cX7_coming 47 = .ok (.istore_n 3, 1) := by decide +kernel
theorem dX7_coming_48 : decode cX7_coming 48 = .ok (.iinc 4 1, 3) := by decide +kernel
theorem dX7_coming_51 : decode cX7_coming 51 = .ok (.goto (-46), 3) := by decide +kernel
theorem dX7_coming_54 : decode cX7_coming 54 = .ok (.iload_n 3, 1) := by decide +kernel
theorem dX7_coming_55 : decode cX7_coming 55 = .ok (.ireturn, 1) := by decide +kernel
set_option maxRecDepth 20000 in
theorem ggX7_forced_X7_noPlayer : GoodIn wsX7_forced wsX7_noPlayer := goodIn_r _ [4, 5, 6, 3, 7] (by decide +kernel) (by decide +kernel)
set_option maxRecDepth 20000 in
theorem gX7_forced_X7_noPlayer : GoodIn wsX7_forced (va_wsS RX7 111 yX7_noPlayer wsX7_noPlayer) := goodIn_app (goodIn_of _ (by decide +kernel)) ggX7_forced_X7_noPlayer
set_option maxRecDepth 20000 in
theorem ggX7_forced_X7_isBad : GoodIn wsX7_forced wsX7_isBad := goodIn_r _ [11, 12, 25, 26, 27, 28, 29, 30, 31, 32, 33, 34, 35, 36, 37, 38, 39, 40, 41, 42, 43] (by decide +kernel) (by decide +kernel)
set_option maxRecDepth 20000 in
theorem gX7_forced_X7_isBad : GoodIn wsX7_forced (wsV RX7 161 RX7 yX7_isBad wsX7_isBad) := goodIn_app (goodIn_of _ (by decide +kernel)) ggX7_forced_X7_isBad
set_option maxRecDepth 20000 in
theorem ggX7_forced_X7_coming : GoodIn wsX7_forced wsX7_coming := goodIn_r _ [16, 12, 17, 18, 19, 3, 20, 21, 22, 23, 24, 25, 26, 27, 28, 29, 30, 31, 32, 33, 34, 35, 36, 37, 38, 39, 40, 41, 42, 43] (by decide +kernel) (by decide +kernel)
set_option maxRecDepth 20000 in
theorem gX7_forced_X7_coming : GoodIn wsX7_forced (wsV RX7 164 RX7 yX7_coming wsX7_coming) := goodIn_app (goodIn_of _ (by decide +kernel)) ggX7_forced_X7_coming
theorem dX7_forced_0 : decode cX7_forced 0 = .ok (.iload_n 1, 1) := by decide +kernel
theorem dX7_forced_1 : decode cX7_forced 1 = .ok (.invokestatic 111, 3) := by decide +kernel
theorem dX7_forced_4 : decode cX7_forced 4 = .ok (.ifCond .eq 5, 3) := by decide +kernel
theorem dX7_forced_7 : decode cX7_forced 7 = .ok (.iconst (-1), 1) := by decide +kernel
theorem dX7_forced_8 : decode cX7_forced 8 = .ok (.ireturn, 1) := by decide +kernel
theorem dX7_forced_9 : decode cX7_forced 9 = .ok (.aload_n 0, 1) := by decide +kernel
theorem dX7_forced_10 : decode cX7_forced 10 = .ok (.iload_n 2, 1) := by decide +kernel
theorem dX7_forced_11 : decode cX7_forced 11 = .ok (.invokevirtual 161, 3) := by decide +kernel
theorem dX7_forced_14 : decode cX7_forced 14 = .ok (.ifCond .eq 6, 3) := by decide +kernel
theorem dX7_forced_17 : decode cX7_forced 17 = .ok (.bipush (-2), 2) := by decide +kernel
theorem dX7_forced_19 : decode cX7_forced 19 = .ok (.ireturn, 1) := by decide +kernel
theorem dX7_forced_20 : decode cX7_forced 20 = .ok (.iload_n 2, 1) := by decide +kernel
theorem dX7_forced_21 : decode cX7_forced 21 = .ok (.istore_n 3, 1) := by decide +kernel
theorem dX7_forced_22 : decode cX7_forced 22 = .ok (.aload_n 0, 1) := by decide +kernel
theorem dX7_forced_23 : decode cX7_forced 23 = .ok (.iload_n 1, 1) := by decide +kernel
theorem dX7_forced_24 : decode cX7_forced 24 = .ok (.iload_n 3, 1) := by decide +kernel
theorem dX7_forced_25 : decode cX7_forced 25 = .ok (.invokevirtual 164, 3) := by decide +kernel
theorem dX7_forced_28 : decode cX7_forced 28 = .ok (.istore 4, 2) := by decide +kernel
theorem dX7_forced_30 : decode cX7_forced 30 = .ok (.iload 4, 2) := by decide +kernel
theorem dX7_forced_32 : decode cX7_forced 32 = .ok (.ifCond .eq 19, 3) := by decide +kernel
theorem dX7_forced_35 : decode cX7_forced 35 = .ok (.iload_n 3, 1) := by decide +kernel
theorem dX7_forced_36 : decode cX7_forced 36 = .ok (.iload 4, 2) := by decide +kernel
theorem dX7_forced_38 : decode cX7_forced 38 = .ok (.ior, 1) := by decide +kernel
theorem dX7_forced_39 : decode cX7_forced 39 = .ok (.istore_n 3, 1) := by decide +kernel
theorem dX7_forced_40 : decode cX7_forced 40 = .ok (.aload_n 0, 1) := by decide +kernel
theorem dX7_forced_41 : decode cX7_forced 41 = .ok (.iload_n 1, 1) := by decide +kernel
theorem dX7_forced_42 : decode cX7_forced 42 = .ok (.iload_n 3, 1) := by decide +kernel
theorem dX7_forced_43 : decode cX7_forced 43 = .ok (.invokevirtual 164, 3) := by decide +kernel
theorem dX7_forced_46 : decode cX7_forced 46 = .ok (.istore 4, 2) := by decide +kernel
theorem dX7_forced_48 : decode cX7_forced 48 = .ok (.goto (-18), 3) := by decide +kernel
theorem dX7_forced_51 : decode cX7_forced 51 = .ok (.iload_n 3, 1) := by decide +kernel
theorem dX7_forced_52 : decode cX7_forced 52 = .ok (.ireturn, 1) := by decide +kernel
set_option maxRecDepth 20000 in
theorem ggX7_rank_X7_noPlayer : GoodIn wsX7_rank wsX7_noPlayer := goodIn_r _ [4, 5, 6, 3, 7] (by decide +kernel) (by decide +kernel)
set_option maxRecDepth 20000 in
theorem gX7_rank_X7_noPlayer : GoodIn wsX7_rank (va_wsS RX7 111 yX7_noPlayer wsX7_noPlayer) := goodIn_app (goodIn_of _ (by decide +kernel)) ggX7_rank_X7_noPlayer
set_option maxRecDepth 20000 in
theorem ggX7_rank_X7_no : GoodIn wsX7_rank wsX7_no := goodIn_r _ [11, 12, 5, 6, 3, 7, 29, 30, 31, 32, 33, 34, 35, 36, 37, 38, 39, 40, 41, 42, 43, 44, 45, 46, 47] (by decide +kernel) (by decide +kernel)
set_option maxRecDepth 20000 in
theorem gX7_rank_X7_no : GoodIn wsX7_rank (wsV RX7 104 RX7 yX7_no wsX7_no) := goodIn_app (goodIn_of _ (by decide +kernel)) ggX7_rank_X7_no
set_option maxRecDepth 20000 in
theorem ggX7_rank_X7_isBad : GoodIn wsX7_rank wsX7_isBad := goodIn_r _ [16, 12, 29, 30, 31, 32, 33, 34, 35, 36, 37, 38, 39, 40, 41, 42, 43, 44, 45, 46, 47] (by decide +kernel) (by decide +kernel)
set_option maxRecDepth 20000 in
theorem gX7_rank_X7_isBad : GoodIn wsX7_rank (wsV RX7 161 RX7 yX7_isBad wsX7_isBad) := goodIn_app (goodIn_of _ (by decide +kernel)) ggX7_rank_X7_isBad
set_option maxRecDepth 20000 in
theorem ggX7_rank_X7_coming : GoodIn wsX7_rank wsX7_coming := goodIn_r _ [20, 12, 21, 22, 23, 3, 24, 25, 26, 27, 28, 29, 30, 31, 32, 33, 34, 35, 36, 37, 38, 39, 40, 41, 42, 43, 44, 45, 46, 47] (by decide +kernel) (by decide +kernel)
set_option maxRecDepth 20000 in
theorem gX7_rank_X7_coming : GoodIn wsX7_rank (wsV RX7 164 RX7 yX7_coming wsX7_coming) := goodIn_app (goodIn_of _ (by decide +kernel)) ggX7_rank_X7_coming
theorem dX7_rank_0 : decode cX7_rank 0 = .ok (.iload_n 1, 1) := by decide +kernel
theorem dX7_rank_1 : decode cX7_rank 1 = .ok (.invokestatic 111, 3) := by decide +kernel
theorem dX7_rank_4 : decode cX7_rank 4 = .ok (.ifCond .ne 11, 3) := by decide +kernel
theorem dX7_rank_7 : decode cX7_rank 7 = .ok (.aload_n 0, 1) := by decide +kernel
theorem dX7_rank_8 : decode cX7_rank 8 = .ok (.iload_n 3, 1) := by decide +kernel
theorem dX7_rank_9 : decode cX7_rank 9 = .ok (.invokevirtual 104, 3) := by decide +kernel
theorem dX7_rank_12 : decode cX7_rank 12 = .ok (.ifCond .eq 5, 3) := by decide +kernel
theorem dX7_rank_15 : decode cX7_rank 15 = .ok (.iconst (-1), 1) := by decide +kernel
theorem dX7_rank_16 : decode cX7_rank 16 = .ok (.ireturn, 1) := by decide +kernel
theorem dX7_rank_17 : decode cX7_rank 17 = .ok (.aload_n 0, 1) := by decide +kernel
theorem dX7_rank_18 : decode cX7_rank 18 = .ok (.iload_n 2, 1) := by decide +kernel
theorem dX7_rank_19 : decode cX7_rank 19 = .ok (.invokevirtual 161, 3) := by decide +kernel
theorem dX7_rank_22 : decode cX7_rank 22 = .ok (.ifCond .eq 6, 3) := by decide +kernel
theorem dX7_rank_25 : decode cX7_rank 25 = .ok (.bipush (-2), 2) := by decide +kernel
theorem dX7_rank_27 : decode cX7_rank 27 = .ok (.ireturn, 1) := by decide +kernel
theorem dX7_rank_28 : decode cX7_rank 28 = .ok (.iload_n 2, 1) := by decide +kernel
theorem dX7_rank_29 : decode cX7_rank 29 = .ok (.istore 4, 2) := by decide +kernel
theorem dX7_rank_31 : decode cX7_rank 31 = .ok (.iconst 0, 1) := by decide +kernel
theorem dX7_rank_32 : decode cX7_rank 32 = .ok (.istore 5, 2) := by decide +kernel
theorem dX7_rank_34 : decode cX7_rank 34 = .ok (.aload_n 0, 1) := by decide +kernel
theorem dX7_rank_35 : decode cX7_rank 35 = .ok (.iload_n 1, 1) := by decide +kernel
theorem dX7_rank_36 : decode cX7_rank 36 = .ok (.iload 4, 2) := by decide +kernel
theorem dX7_rank_38 : decode cX7_rank 38 = .ok (.invokevirtual 164, 3) := by decide +kernel
theorem dX7_rank_41 : decode cX7_rank 41 = .ok (.istore 6, 2) := by decide +kernel
theorem dX7_rank_43 : decode cX7_rank 43 = .ok (.iload 6, 2) := by decide +kernel
theorem dX7_rank_45 : decode cX7_rank 45 = .ok (.ifCond .eq 34, 3) := by decide +kernel
theorem dX7_rank_48 : decode cX7_rank 48 = .ok (.iload 4, 2) := by decide +kernel
theorem dX7_rank_50 : decode cX7_rank 50 = .ok (.iload_n 3, 1) := by decide +kernel
theorem dX7_rank_51 : decode cX7_rank 51 = .ok (.ishr, 1) := by decide +kernel
theorem dX7_rank_52 : decode cX7_rank 52 = .ok (.iconst 1, 1) := by decide +kernel
theorem dX7_rank_53 : decode cX7_rank 53 = .ok (.iand, 1) := by decide +kernel
theorem dX7_rank_54 : decode cX7_rank 54 = .ok (.ifCond .ne 25, 3) := by decide +kernel
theorem dX7_rank_57 : decode cX7_rank 57 = .ok (.iload 4, 2) := by decide +kernel
theorem dX7_rank_59 : decode cX7_rank 59 = .ok (.iload 6, 2) := by decide +kernel
theorem dX7_rank_61 : decode cX7_rank 61 = .ok (.ior, 1) := by decide +kernel
theorem dX7_rank_62 : decode cX7_rank 62 = .ok (.istore 4, 2) := by decide +kernel
theorem dX7_rank_64 : decode cX7_rank 64 = .ok (.iinc 5 1, 3) := by decide +kernel
theorem dX7_rank_67 : decode cX7_rank 67 = .ok (.aload_n 0, 1) := by decide +kernel
theorem dX7_rank_68 : decode cX7_rank 68 = .ok (.iload_n 1, 1) := by decide +kernel
theorem dX7_rank_69 : decode cX7_rank 69 = .ok (.iload 4, 2) := by decide +kernel
theorem dX7_rank_71 : decode cX7_rank 71 = .ok (.invokevirtual 164, 3) := by decide +kernel
theorem dX7_rank_74 : decode cX7_rank 74 = .ok (.istore 6, 2) := by decide +kernel
theorem dX7_rank_76 : decode cX7_rank 76 = .ok (.goto (-33), 3) := by decide +kernel
theorem dX7_rank_79 : decode cX7_rank 79 = .ok (.iload 4, 2) := by decide +kernel
theorem dX7_rank_81 : decode cX7_rank 81 = .ok (.iload_n 3, 1) := by decide +kernel
theorem dX7_rank_82 : decode cX7_rank 82 = .ok (.ishr, 1) := by decide +kernel
theorem dX7_rank_83 : decode cX7_rank 83 = .ok (.iconst 1, 1) := by decide +kernel
theorem dX7_rank_84 : decode cX7_rank 84 = .ok (.iand, 1) := by decide +kernel
theorem dX7_rank_85 : decode cX7_rank 85 = .ok (.iconst 1, 1) := by decide +kernel
theorem dX7_rank_86 : decode cX7_rank 86 = .ok (.if_icmp .ne 8, 3) := by decide +kernel
theorem dX7_rank_89 : decode cX7_rank 89 = .ok (.iload 5, 2) := by decide +kernel
theorem dX7_rank_91 : decode cX7_rank 91 = .ok (.goto 5, 3) := by decide +kernel
theorem dX7_rank_94 : decode cX7_rank 94 = .ok (.bipush (-5), 2) := by decide +kernel
theorem dX7_rank_96 : decode cX7_rank 96 = .ok (.ireturn, 1) := by decide +kernel
set_option maxRecDepth 20000 in
theorem ggX7_trap_X7_noPlayer : GoodIn wsX7_trap wsX7_noPlayer := goodIn_r _ [5, 6, 7, 4, 8] (by decide +kernel) (by decide +kernel)
set_option maxRecDepth 20000 in
theorem gX7_trap_X7_noPlayer : GoodIn wsX7_trap (va_wsS RX7 111 yX7_noPlayer wsX7_noPlayer) := goodIn_app (goodIn_of _ (by decide +kernel)) ggX7_trap_X7_noPlayer
set_option maxRecDepth 20000 in
theorem ggX7_trap_X7_isBad : GoodIn wsX7_trap wsX7_isBad := goodIn_r _ [12, 1, 17, 18, 19, 20, 21, 22, 23, 24, 25, 26, 27, 28, 29, 30, 31, 32, 33, 34, 35] (by decide +kernel) (by decide +kernel)
set_option maxRecDepth 20000 in
theorem gX7_trap_X7_isBad : GoodIn wsX7_trap (wsV RX7 161 RX7 yX7_isBad wsX7_isBad) := goodIn_app (goodIn_of _ (by decide +kernel)) ggX7_trap_X7_isBad
set_option maxRecDepth 20000 in
theorem ggX7_trap_X7_of : GoodIn wsX7_trap wsX7_of := goodIn_r _ [16, 1, 17, 18, 19, 20, 21, 22, 23, 24, 25, 26, 27, 28, 29, 30, 31, 32, 33, 34, 35] (by decide +kernel) (by decide +kernel)
set_option maxRecDepth 20000 in
theorem gX7_trap_X7_of : GoodIn wsX7_trap (wsV RX7 48 RX7 yX7_of wsX7_of) := goodIn_app (goodIn_of _ (by decide +kernel)) ggX7_trap_X7_of
theorem dX7_trap_0 : decode cX7_trap 0 = .ok (.iload_n 1, 1) := by decide +kernel
theorem dX7_trap_1 : decode cX7_trap 1 = .ok (.invokestatic 111, 3) := by decide +kernel
theorem dX7_trap_4 : decode cX7_trap 4 = .ok (.ifCond .eq 5, 3) := by decide +kernel
theorem dX7_trap_7 : decode cX7_trap 7 = .ok (.iconst (-1), 1) := by decide +kernel
theorem dX7_trap_8 : decode cX7_trap 8 = .ok (.ireturn, 1) := by decide +kernel
theorem dX7_trap_9 : decode cX7_trap 9 = .ok (.aload_n 0, 1) := by decide +kernel
theorem dX7_trap_10 : decode cX7_trap 10 = .ok (.iload_n 2, 1) := by decide +kernel
theorem dX7_trap_11 : decode cX7_trap 11 = .ok (.invokevirtual 161, 3) := by decide +kernel
theorem dX7_trap_14 : decode cX7_trap 14 = .ok (.ifCond .eq 6, 3) := by decide +kernel
theorem dX7_trap_17 : decode cX7_trap 17 = .ok (.bipush (-2), 2) := by decide +kernel
theorem dX7_trap_19 : decode cX7_trap 19 = .ok (.ireturn, 1) := by decide +kernel
theorem dX7_trap_20 : decode cX7_trap 20 = .ok (.iconst 0, 1) := by decide +kernel
theorem dX7_trap_21 : decode cX7_trap 21 = .ok (.istore_n 3, 1) := by decide +kernel
theorem dX7_trap_22 : decode cX7_trap 22 = .ok (.iload_n 3, 1) := by decide +kernel
theorem dX7_trap_23 : decode cX7_trap 23 = .ok (.aload_n 0, 1) := by decide +kernel
theorem dX7_trap_24 : decode cX7_trap 24 = .ok (.getfield 7, 3) := by decide +kernel
theorem dX7_trap_27 : decode cX7_trap 27 = .ok (.bipush 56, 2) := by decide +kernel
theorem dX7_trap_29 : decode cX7_trap 29 = .ok (.iaload, 1) := by decide +kernel
theorem dX7_trap_30 : decode cX7_trap 30 = .ok (.if_icmp .ge 74, 3) := by decide +kernel
theorem dX7_trap_33 : decode cX7_trap 33 = .ok (.aload_n 0, 1) := by decide +kernel
theorem dX7_trap_34 : decode cX7_trap 34 = .ok (.iload_n 3, 1) := by decide +kernel
theorem dX7_trap_35 : decode cX7_trap 35 = .ok (.iconst 2, 1) := by decide +kernel
theorem dX7_trap_36 : decode cX7_trap 36 = .ok (.invokevirtual 48, 3) := by decide +kernel
theorem dX7_trap_39 : decode cX7_trap 39 = .ok (.istore 4, 2) := by decide +kernel
theorem dX7_trap_41 : decode cX7_trap 41 = .ok (.aload_n 0, 1) := by decide +kernel
theorem dX7_trap_42 : decode cX7_trap 42 = .ok (.iload_n 3, 1) := by decide +kernel
theorem dX7_trap_43 : decode cX7_trap 43 = .ok (.iconst 0, 1) := by decide +kernel
theorem dX7_trap_44 : decode cX7_trap 44 = .ok (.invokevirtual 48, 3) := by decide +kernel
theorem dX7_trap_47 : decode cX7_trap 47 = .ok (.iload_n 1, 1) := by decide +kernel
theorem dX7_trap_48 : decode cX7_trap 48 = .ok (.if_icmp .ne 20, 3) := by decide +kernel
theorem dX7_trap_51 : decode cX7_trap 51 = .ok (.iload 4, 2) := by decide +kernel
theorem dX7_trap_53 : decode cX7_trap 53 = .ok (.iload_n 2, 1) := by decide +kernel
theorem dX7_trap_54 : decode cX7_trap 54 = .ok (.iconst (-1), 1) := by decide +kernel
theorem dX7_trap_55 : decode cX7_trap 55 = .ok (.ixor, 1) := by decide +kernel
theorem dX7_trap_56 : decode cX7_trap 56 = .ok (.iand, 1) := by decide +kernel
theorem dX7_trap_57 : decode cX7_trap 57 = .ok (.ifCond .ne 7, 3) := by decide +kernel
theorem dX7_trap_60 : decode cX7_trap 60 = .ok (.iconst 1, 1) := by decide +kernel
theorem dX7_trap_61 : decode cX7_trap 61 = .ok (.goto 19, 3) := by decide +kernel
theorem dX7_trap_64 : decode cX7_trap 64 = .ok (.iconst 0, 1) := by decide +kernel
theorem dX7_trap_65 : decode cX7_trap 65 = .ok (.goto 15, 3) := by decide +kernel
theorem dX7_trap_68 : decode cX7_trap 68 = .ok (.iload 4, 2) := by decide +kernel
theorem dX7_trap_70 : decode cX7_trap 70 = .ok (.iload_n 2, 1) := by decide +kernel
theorem dX7_trap_71 : decode cX7_trap 71 = .ok (.iand, 1) := by decide +kernel
theorem dX7_trap_72 : decode cX7_trap 72 = .ok (.ifCond .eq 7, 3) := by decide +kernel
theorem dX7_trap_75 : decode cX7_trap 75 = .ok (.iconst 1, 1) := by decide +kernel
theorem dX7_trap_76 : decode cX7_trap 76 = .ok (.goto 4, 3) := by decide +kernel
theorem dX7_trap_79 : decode cX7_trap 79 = .ok (.iconst 0, 1) := by decide +kernel
theorem dX7_trap_80 : decode cX7_trap 80 = .ok (.istore 5, 2) := by decide +kernel
theorem dX7_trap_82 : decode cX7_trap 82 = .ok (.iload_n 2, 1) := by decide +kernel
theorem dX7_trap_83 : decode cX7_trap 83 = .ok (.iload_n 3, 1) := by decide +kernel
theorem dX7_trap_84 : decode cX7_trap 84 = .ok (.ishr, 1) := by decide +kernel
theorem dX7_trap_85 : decode cX7_trap 85 = .ok (.iconst 1, 1) := by decide +kernel
theorem dX7_trap_86 : decode cX7_trap 86 = .ok (.iand, 1) := by decide +kernel
theorem dX7_trap_87 : decode cX7_trap 87 = .ok (.iconst 1, 1) := by decide +kernel
theorem dX7_trap_88 : decode cX7_trap 88 = .ok (.if_icmp .ne 10, 3) := by decide +kernel
theorem dX7_trap_91 : decode cX7_trap 91 = .ok (.iload 5, 2) := by decide +kernel
theorem dX7_trap_93 : decode cX7_trap 93 = .ok (.ifCond .ne 5, 3) := by decide +kernel
theorem dX7_trap_96 : decode cX7_trap 96 = .ok (.iconst 0, 1) := by decide +kernel
theorem dX7_trap_97 : decode cX7_trap 97 = .ok (.ireturn, 1) := by decide +kernel
theorem dX7_trap_98 : decode cX7_trap 98 = .ok (.iinc 3 1, 3) := by decide +kernel
theorem dX7_trap_101 : decode cX7_trap 101 = .ok (.goto (-79), 3) := by decide +kernel
theorem dX7_trap_104 : decode cX7_trap 104 = .ok (.iconst 1, 1) := by decide +kernel
theorem dX7_trap_105 : decode cX7_trap 105 = .ok (.ireturn, 1) := by decide +kernel
set_option maxRecDepth 20000 in
theorem ggX7_judges_X7_of : GoodIn wsX7_judges wsX7_of := goodIn_r _ [7, 1, 8, 9, 10, 11, 12, 13, 14, 15, 16, 17, 18, 19, 20, 21, 22, 23, 24, 25, 26] (by decide +kernel) (by decide +kernel)
set_option maxRecDepth 20000 in
theorem gX7_judges_X7_of : GoodIn wsX7_judges (wsV RX7 48 RX7 yX7_of wsX7_of) := goodIn_app (goodIn_of _ (by decide +kernel)) ggX7_judges_X7_of
theorem dX7_judges_0 : decode cX7_judges 0 = .ok (.iconst 0, 1) := by decide +kernel
theorem dX7_judges_1 : decode cX7_judges 1 = .ok (.istore_n 2, 1) := by decide +kernel
theorem dX7_judges_2 : decode cX7_judges 2 = .ok (.iload_n 2, 1) := by decide +kernel
theorem dX7_judges_3 : decode cX7_judges 3 = .ok (.aload_n 0, 1) := by decide +kernel
theorem dX7_judges_4 : decode cX7_judges 4 = .ok (.getfield 7, 3) := by decide +kernel
theorem dX7_judges_7 : decode cX7_judges 7 = .ok (.bipush 56, 2) := by decide +kernel
theorem dX7_judges_9 : decode cX7_judges 9 = .ok (.iaload, 1) := by decide +kernel
theorem dX7_judges_10 : decode cX7_judges 10 = .ok (.if_icmp .ge 53, 3) := by decide +kernel
theorem dX7_judges_13 : decode cX7_judges 13 = .ok (.aload_n 0, 1) := by decide +kernel
theorem dX7_judges_14 : decode cX7_judges 14 = .ok (.getfield 35, 3) := by decide +kernel
theorem dX7_judges_17 : decode cX7_judges 17 = .ok (.iload_n 2, 1) := by decide +kernel
theorem dX7_judges_18 : decode cX7_judges 18 = .ok (.aload_n 0, 1) := by decide +kernel
theorem dX7_judges_19 : decode cX7_judges 19 = .ok (.iload_n 2, 1) := by decide +kernel
theorem dX7_judges_20 : decode cX7_judges 20 = .ok (.iconst 0, 1) := by decide +kernel
theorem dX7_judges_21 : decode cX7_judges 21 = .ok (.invokevirtual 48, 3) := by decide +kernel
theorem dX7_judges_24 : decode cX7_judges 24 = .ok (.iload_n 1, 1) := by decide +kernel
theorem dX7_judges_25 : decode cX7_judges 25 = .ok (.if_icmp .ne 25, 3) := by decide +kernel
theorem dX7_judges_28 : decode cX7_judges 28 = .ok (.aload_n 0, 1) := by decide +kernel
theorem dX7_judges_29 : decode cX7_judges 29 = .ok (.iload_n 2, 1) := by decide +kernel
theorem dX7_judges_30 : decode cX7_judges 30 = .ok (.iconst 3, 1) := by decide +kernel
theorem dX7_judges_31 : decode cX7_judges 31 = .ok (.invokevirtual 48, 3) := by decide +kernel
theorem dX7_judges_34 : decode cX7_judges 34 = .ok (.bipush 14, 2) := by decide +kernel
theorem dX7_judges_36 : decode cX7_judges 36 = .ok (.if_icmp .ge 14, 3) := by decide +kernel
theorem dX7_judges_39 : decode cX7_judges 39 = .ok (.iconst 1, 1) := by decide +kernel
theorem dX7_judges_40 : decode cX7_judges 40 = .ok (.aload_n 0, 1) := by decide +kernel
theorem dX7_judges_41 : decode cX7_judges 41 = .ok (.iload_n 2, 1) := by decide +kernel
theorem dX7_judges_42 : decode cX7_judges 42 = .ok (.iconst 3, 1) := by decide +kernel
theorem dX7_judges_43 : decode cX7_judges 43 = .ok (.invokevirtual 48, 3) := by decide +kernel
theorem dX7_judges_46 : decode cX7_judges 46 = .ok (.ishl, 1) := by decide +kernel
theorem dX7_judges_47 : decode cX7_judges 47 = .ok (.goto 9, 3) := by decide +kernel
theorem dX7_judges_50 : decode cX7_judges 50 = .ok (.aload_n 0, 1) := by decide +kernel
theorem dX7_judges_51 : decode cX7_judges 51 = .ok (.iload_n 2, 1) := by decide +kernel
theorem dX7_judges_52 : decode cX7_judges 52 = .ok (.iconst 2, 1) := by decide +kernel
theorem dX7_judges_53 : decode cX7_judges 53 = .ok (.invokevirtual 48, 3) := by decide +kernel
theorem dX7_judges_56 : decode cX7_judges 56 = .ok (.iastore, 1) := by decide +kernel
theorem dX7_judges_57 : decode cX7_judges 57 = .ok (.iinc 2 1, 3) := by decide +kernel
theorem dX7_judges_60 : decode cX7_judges 60 = .ok (.goto (-58), 3) := by decide +kernel
theorem dX7_judges_63 : decode cX7_judges 63 = .ok (.return_, 1) := by decide +kernel
set_option maxRecDepth 20000 in
theorem ggX7_reaches_X7_of : GoodIn wsX7_reaches wsX7_of := goodIn_r _ [8, 1, 9, 10, 11, 12, 13, 14, 15, 16, 17, 18, 19, 20, 21, 22, 23, 24, 25, 26, 27] (by decide +kernel) (by decide +kernel)
set_option maxRecDepth 20000 in
theorem gX7_reaches_X7_of : GoodIn wsX7_reaches (wsV RX7 48 RX7 yX7_of wsX7_of) := goodIn_app (goodIn_of _ (by decide +kernel)) ggX7_reaches_X7_of
theorem dX7_reaches_0 : decode cX7_reaches 0 = .ok (.aload_n 0, 1) := by decide +kernel
theorem dX7_reaches_1 : decode cX7_reaches 1 = .ok (.getfield 7, 3) := by decide +kernel
theorem dX7_reaches_4 : decode cX7_reaches 4 = .ok (.bipush 56, 2) := by decide +kernel
theorem dX7_reaches_6 : decode cX7_reaches 6 = .ok (.iaload, 1) := by decide +kernel
theorem dX7_reaches_7 : decode cX7_reaches 7 = .ok (.istore_n 2, 1) := by decide +kernel
theorem dX7_reaches_8 : decode cX7_reaches 8 = .ok (.iconst 0, 1) := by decide +kernel
theorem dX7_reaches_9 : decode cX7_reaches 9 = .ok (.istore_n 3, 1) := by decide +kernel
theorem dX7_reaches_10 : decode cX7_reaches 10 = .ok (.iconst 0, 1) := by decide +kernel
theorem dX7_reaches_11 : decode cX7_reaches 11 = .ok (.istore 4, 2) := by decide +kernel
theorem dX7_reaches_13 : decode cX7_reaches 13 = .ok (.iload 4, 2) := by decide +kernel
theorem dX7_reaches_15 : decode cX7_reaches 15 = .ok (.iload_n 2, 1) := by decide +kernel
theorem dX7_reaches_16 : decode cX7_reaches 16 = .ok (.if_icmp .ge 31, 3) := by decide +kernel
theorem dX7_reaches_19 : decode cX7_reaches 19 = .ok (.iload_n 3, 1) := by decide +kernel
theorem dX7_reaches_20 : decode cX7_reaches 20 = .ok (.aload_n 0, 1) := by decide +kernel
theorem dX7_reaches_21 : decode cX7_reaches 21 = .ok (.iload 4, 2) := by decide +kernel
theorem dX7_reaches_23 : decode cX7_reaches 23 = .ok (.iconst 1, 1) := by decide +kernel
theorem dX7_reaches_24 : decode cX7_reaches 24 = .ok (.invokevirtual 48, 3) := by decide +kernel
theorem dX7_reaches_27 : decode cX7_reaches 27 = .ok (.iload_n 1, 1) := by decide +kernel
theorem dX7_reaches_28 : decode cX7_reaches 28 = .ok (.if_icmp .lt 10, 3) := by decide +kernel
theorem dX7_reaches_31 : decode cX7_reaches 31 = .ok (.iconst 1, 1) := by decide +kernel
theorem dX7_reaches_32 : decode cX7_reaches 32 = .ok (.iload 4, 2) := by decide +kernel
theorem dX7_reaches_34 : decode cX7_reaches 34 = .ok (.ishl, 1) := by decide +kernel
theorem dX7_reaches_35 : decode cX7_reaches 35 = .ok (.goto 4, 3) := by decide +kernel
theorem dX7_reaches_38 : decode cX7_reaches 38 = .ok (.iconst 0, 1) := by decide +kernel
theorem dX7_reaches_39 : decode cX7_reaches 39 = .ok (.ior, 1) := by decide +kernel
theorem dX7_reaches_40 : decode cX7_reaches 40 = .ok (.istore_n 3, 1) := by decide +kernel
theorem dX7_reaches_41 : decode cX7_reaches 41 = .ok (.iinc 4 1, 3) := by decide +kernel
theorem dX7_reaches_44 : decode cX7_reaches 44 = .ok (.goto (-31), 3) := by decide +kernel
theorem dX7_reaches_47 : decode cX7_reaches 47 = .ok (.iconst 0, 1) := by decide +kernel
theorem dX7_reaches_48 : decode cX7_reaches 48 = .ok (.istore 4, 2) := by decide +kernel
theorem dX7_reaches_50 : decode cX7_reaches 50 = .ok (.iload 4, 2) := by decide +kernel
theorem dX7_reaches_52 : decode cX7_reaches 52 = .ok (.iload_n 2, 1) := by decide +kernel
theorem dX7_reaches_53 : decode cX7_reaches 53 = .ok (.if_icmp .ge 39, 3) := by decide +kernel
theorem dX7_reaches_56 : decode cX7_reaches 56 = .ok (.aload_n 0, 1) := by decide +kernel
theorem dX7_reaches_57 : decode cX7_reaches 57 = .ok (.getfield 38, 3) := by decide +kernel
theorem dX7_reaches_60 : decode cX7_reaches 60 = .ok (.iload 4, 2) := by decide +kernel
theorem dX7_reaches_62 : decode cX7_reaches 62 = .ok (.iload_n 3, 1) := by decide +kernel
theorem dX7_reaches_63 : decode cX7_reaches 63 = .ok (.iload 4, 2) := by decide +kernel
theorem dX7_reaches_65 : decode cX7_reaches 65 = .ok (.ishr, 1) := by decide +kernel
theorem dX7_reaches_66 : decode cX7_reaches 66 = .ok (.iconst 1, 1) := by decide +kernel
theorem dX7_reaches_67 : decode cX7_reaches 67 = .ok (.iand, 1) := by decide +kernel
theorem dX7_reaches_68 : decode cX7_reaches 68 = .ok (.iconst 1, 1) := by decide +kernel
theorem dX7_reaches_69 : decode cX7_reaches 69 = .ok (.if_icmp .ne 15, 3) := by decide +kernel
theorem dX7_reaches_72 : decode cX7_reaches 72 = .ok (.aload_n 0, 1) := by decide +kernel
theorem dX7_reaches_73 : decode cX7_reaches 73 = .ok (.getfield 35, 3) := by decide +kernel
theorem dX7_reaches_76 : decode cX7_reaches 76 = .ok (.iload 4, 2) := by decide +kernel
theorem dX7_reaches_78 : decode cX7_reaches 78 = .ok (.iaload, 1) := by decide +kernel
theorem dX7_reaches_79 : decode cX7_reaches 79 = .ok (.iload_n 3, 1) := by decide +kernel
theorem dX7_reaches_80 : decode cX7_reaches 80 = .ok (.iand, 1) := by decide +kernel
theorem dX7_reaches_81 : decode cX7_reaches 81 = .ok (.goto 4, 3) := by decide +kernel
theorem dX7_reaches_84 : decode cX7_reaches 84 = .ok (.iconst 0, 1) := by decide +kernel
theorem dX7_reaches_85 : decode cX7_reaches 85 = .ok (.iastore, 1) := by decide +kernel
theorem dX7_reaches_86 : decode cX7_reaches 86 = .ok (.iinc 4 1, 3) := by decide +kernel
theorem dX7_reaches_89 : decode cX7_reaches 89 = .ok (.goto (-39), 3) := by decide +kernel
theorem dX7_reaches_92 : decode cX7_reaches 92 = .ok (.iconst 0, 1) := by decide +kernel
theorem dX7_reaches_93 : decode cX7_reaches 93 = .ok (.istore 4, 2) := by decide +kernel
theorem dX7_reaches_95 : decode cX7_reaches 95 = .ok (.iload 4, 2) := by decide +kernel
theorem dX7_reaches_97 : decode cX7_reaches 97 = .ok (.iload_n 2, 1) := by decide +kernel
theorem dX7_reaches_98 : decode cX7_reaches 98 = .ok (.if_icmp .ge 61, 3) := by decide +kernel
theorem dX7_reaches_101 : decode cX7_reaches 101 = .ok (.iconst 0, 1) := by decide +kernel
theorem dX7_reaches_102 : decode cX7_reaches 102 = .ok (.istore 5, 2) := by decide +kernel
theorem dX7_reaches_104 : decode cX7_reaches 104 = .ok (.iload 5, 2) := by decide +kernel
theorem dX7_reaches_106 : decode cX7_reaches 106 = .ok (.iload_n 2, 1) := by decide +kernel
theorem dX7_reaches_107 : decode cX7_reaches 107 = .ok (.if_icmp .ge 46, 3) := by decide +kernel
theorem dX7_reaches_110 : decode cX7_reaches 110 = .ok (.aload_n 0, 1) := by decide +kernel
theorem dX7_reaches_111 : decode cX7_reaches 111 = .ok (.getfield 38, 3) := by decide +kernel
theorem dX7_reaches_114 : decode cX7_reaches 114 = .ok (.iload 5, 2) := by decide +kernel
theorem dX7_reaches_116 : decode cX7_reaches 116 = .ok (.dup2, 1) := by decide +kernel
theorem dX7_reaches_117 : decode cX7_reaches 117 = .ok (.iaload, 1) := by decide +kernel
theorem dX7_reaches_118 : decode cX7_reaches 118 = .ok (.aload_n 0, 1) := by decide +kernel
theorem dX7_reaches_119 : decode cX7_reaches 119 = .ok (.getfield 38, 3) := by decide +kernel
theorem dX7_reaches_122 : decode cX7_reaches 122 = .ok (.iload 5, 2) := by decide +kernel
theorem dX7_reaches_124 : decode cX7_reaches 124 = .ok (.iaload, 1) := by decide +kernel
theorem dX7_reaches_125 : decode cX7_reaches 125 = .ok (.iload 4, 2) := by decide +kernel
theorem dX7_reaches_127 : decode cX7_reaches 127 = .ok (.ishr, 1) := by decide +kernel
theorem dX7_reaches_128 : decode cX7_reaches 128 = .ok (.iconst 1, 1) := by decide +kernel
theorem dX7_reaches_129 : decode cX7_reaches 129 = .ok (.iand, 1) := by decide +kernel
theorem dX7_reaches_130 : decode cX7_reaches 130 = .ok (.iconst 1, 1) := by decide +kernel
theorem dX7_reaches_131 : decode cX7_reaches 131 = .ok (.if_icmp .ne 13, 3) := by decide +kernel
theorem dX7_reaches_134 : decode cX7_reaches 134 = .ok (.aload_n 0, 1) := by decide +kernel
theorem dX7_reaches_135 : decode cX7_reaches 135 = .ok (.getfield 38, 3) := by decide +kernel
theorem dX7_reaches_138 : decode cX7_reaches 138 = .ok (.iload 4, 2) := by decide +kernel
theorem dX7_reaches_140 : decode cX7_reaches 140 = .ok (.iaload, 1) := by decide +kernel
theorem dX7_reaches_141 : decode cX7_reaches 141 = .ok (.goto 4, 3) := by decide +kernel
theorem dX7_reaches_144 : decode cX7_reaches 144 = .ok (.iconst 0, 1) := by decide +kernel
theorem dX7_reaches_145 : decode cX7_reaches 145 = .ok (.ior, 1) := by decide +kernel
theorem dX7_reaches_146 : decode cX7_reaches 146 = .ok (.iastore, 1) := by decide +kernel
theorem dX7_reaches_147 : decode cX7_reaches 147 = .ok (.iinc 5 1, 3) := by decide +kernel
theorem dX7_reaches_150 : decode cX7_reaches 150 = .ok (.goto (-46), 3) := by decide +kernel
theorem dX7_reaches_153 : decode cX7_reaches 153 = .ok (.iinc 4 1, 3) := by decide +kernel
theorem dX7_reaches_156 : decode cX7_reaches 156 = .ok (.goto (-61), 3) := by decide +kernel
theorem dX7_reaches_159 : decode cX7_reaches 159 = .ok (.return_, 1) := by decide +kernel
set_option maxRecDepth 20000 in
theorem ggX7_onRings_X7_reaches : GoodIn wsX7_onRings wsX7_reaches := goodIn_r _ [7, 1, 2, 8, 9, 10, 11, 6, 12, 13, 14, 15, 16, 17, 18, 19, 20, 21, 22, 23, 24, 25, 26, 27, 28, 29, 30, 31] (by decide +kernel) (by decide +kernel)
set_option maxRecDepth 20000 in
theorem gX7_onRings_X7_reaches : GoodIn wsX7_onRings (wsV RX7 167 RX7 yX7_reaches wsX7_reaches) := goodIn_app (goodIn_of _ (by decide +kernel)) ggX7_onRings_X7_reaches
set_option maxRecDepth 20000 in
theorem ggX7_onRings_X7_of : GoodIn wsX7_onRings wsX7_of := goodIn_r _ [12, 1, 13, 14, 15, 16, 17, 18, 19, 20, 21, 22, 23, 24, 25, 26, 27, 28, 29, 30, 31] (by decide +kernel) (by decide +kernel)
set_option maxRecDepth 20000 in
theorem gX7_onRings_X7_of : GoodIn wsX7_onRings (wsV RX7 48 RX7 yX7_of wsX7_of) := goodIn_app (goodIn_of _ (by decide +kernel)) ggX7_onRings_X7_of
theorem dX7_onRings_0 : decode cX7_onRings 0 = .ok (.aload_n 0, 1) := by decide +kernel
theorem dX7_onRings_1 : decode cX7_onRings 1 = .ok (.iload_n 1, 1) := by decide +kernel
theorem dX7_onRings_2 : decode cX7_onRings 2 = .ok (.invokevirtual 167, 3) := by decide +kernel
theorem dX7_onRings_5 : decode cX7_onRings 5 = .ok (.iconst 0, 1) := by decide +kernel
theorem dX7_onRings_6 : decode cX7_onRings 6 = .ok (.istore_n 2, 1) := by decide +kernel
theorem dX7_onRings_7 : decode cX7_onRings 7 = .ok (.iconst 0, 1) := by decide +kernel
theorem dX7_onRings_8 : decode cX7_onRings 8 = .ok (.istore_n 3, 1) := by decide +kernel
theorem dX7_onRings_9 : decode cX7_onRings 9 = .ok (.iload_n 3, 1) := by decide +kernel
theorem dX7_onRings_10 : decode cX7_onRings 10 = .ok (.aload_n 0, 1) := by decide +kernel
theorem dX7_onRings_11 : decode cX7_onRings 11 = .ok (.getfield 7, 3) := by decide +kernel
theorem dX7_onRings_14 : decode cX7_onRings 14 = .ok (.bipush 56, 2) := by decide +kernel
theorem dX7_onRings_16 : decode cX7_onRings 16 = .ok (.iaload, 1) := by decide +kernel
theorem dX7_onRings_17 : decode cX7_onRings 17 = .ok (.if_icmp .ge 93, 3) := by decide +kernel
theorem dX7_onRings_20 : decode cX7_onRings 20 = .ok (.iconst 0, 1) := by decide +kernel
theorem dX7_onRings_21 : decode cX7_onRings 21 = .ok (.istore 4, 2) := by decide +kernel
theorem dX7_onRings_23 : decode cX7_onRings 23 = .ok (.iload 4, 2) := by decide +kernel
theorem dX7_onRings_25 : decode cX7_onRings 25 = .ok (.aload_n 0, 1) := by decide +kernel
theorem dX7_onRings_26 : decode cX7_onRings 26 = .ok (.getfield 7, 3) := by decide +kernel
theorem dX7_onRings_29 : decode cX7_onRings 29 = .ok (.bipush 56, 2) := by decide +kernel
theorem dX7_onRings_31 : decode cX7_onRings 31 = .ok (.iaload, 1) := by decide +kernel
theorem dX7_onRings_32 : decode cX7_onRings 32 = .ok (.if_icmp .ge 72, 3) := by decide +kernel
theorem dX7_onRings_35 : decode cX7_onRings 35 = .ok (.aload_n 0, 1) := by decide +kernel
theorem dX7_onRings_36 : decode cX7_onRings 36 = .ok (.getfield 38, 3) := by decide +kernel
theorem dX7_onRings_39 : decode cX7_onRings 39 = .ok (.iload_n 3, 1) := by decide +kernel
theorem dX7_onRings_40 : decode cX7_onRings 40 = .ok (.iaload, 1) := by decide +kernel
theorem dX7_onRings_41 : decode cX7_onRings 41 = .ok (.iload 4, 2) := by decide +kernel
theorem dX7_onRings_43 : decode cX7_onRings 43 = .ok (.ishr, 1) := by decide +kernel
theorem dX7_onRings_44 : decode cX7_onRings 44 = .ok (.iconst 1, 1) := by decide +kernel
theorem dX7_onRings_45 : decode cX7_onRings 45 = .ok (.iand, 1) := by decide +kernel
theorem dX7_onRings_46 : decode cX7_onRings 46 = .ok (.iconst 1, 1) := by decide +kernel
theorem dX7_onRings_47 : decode cX7_onRings 47 = .ok (.if_icmp .ne 22, 3) := by decide +kernel
theorem dX7_onRings_50 : decode cX7_onRings 50 = .ok (.aload_n 0, 1) := by decide +kernel
theorem dX7_onRings_51 : decode cX7_onRings 51 = .ok (.getfield 38, 3) := by decide +kernel
theorem dX7_onRings_54 : decode cX7_onRings 54 = .ok (.iload 4, 2) := by decide +kernel
theorem dX7_onRings_56 : decode cX7_onRings 56 = .ok (.iaload, 1) := by decide +kernel
theorem dX7_onRings_57 : decode cX7_onRings 57 = .ok (.iload_n 3, 1) := by decide +kernel
theorem dX7_onRings_58 : decode cX7_onRings 58 = .ok (.ishr, 1) := by decide +kernel
theorem dX7_onRings_59 : decode cX7_onRings 59 = .ok (.iconst 1, 1) := by decide +kernel
theorem dX7_onRings_60 : decode cX7_onRings 60 = .ok (.iand, 1) := by decide +kernel
theorem dX7_onRings_61 : decode cX7_onRings 61 = .ok (.iconst 1, 1) := by decide +kernel
theorem dX7_onRings_62 : decode cX7_onRings 62 = .ok (.if_icmp .ne 7, 3) := by decide +kernel
theorem dX7_onRings_65 : decode cX7_onRings 65 = .ok (.iconst 1, 1) := by decide +kernel
theorem dX7_onRings_66 : decode cX7_onRings 66 = .ok (.goto 4, 3) := by decide +kernel
theorem dX7_onRings_69 : decode cX7_onRings 69 = .ok (.iconst 0, 1) := by decide +kernel
theorem dX7_onRings_70 : decode cX7_onRings 70 = .ok (.istore 5, 2) := by decide +kernel
theorem dX7_onRings_72 : decode cX7_onRings 72 = .ok (.iload_n 2, 1) := by decide +kernel
theorem dX7_onRings_73 : decode cX7_onRings 73 = .ok (.iload 5, 2) := by decide +kernel
theorem dX7_onRings_75 : decode cX7_onRings 75 = .ok (.ifCond .eq 20, 3) := by decide +kernel
theorem dX7_onRings_78 : decode cX7_onRings 78 = .ok (.aload_n 0, 1) := by decide +kernel
theorem dX7_onRings_79 : decode cX7_onRings 79 = .ok (.iload 4, 2) := by decide +kernel
theorem dX7_onRings_81 : decode cX7_onRings 81 = .ok (.iconst 1, 1) := by decide +kernel
theorem dX7_onRings_82 : decode cX7_onRings 82 = .ok (.invokevirtual 48, 3) := by decide +kernel
theorem dX7_onRings_85 : decode cX7_onRings 85 = .ok (.iload_n 1, 1) := by decide +kernel
theorem dX7_onRings_86 : decode cX7_onRings 86 = .ok (.if_icmp .ne 9, 3) := by decide +kernel
theorem dX7_onRings_89 : decode cX7_onRings 89 = .ok (.iconst 1, 1) := by decide +kernel
theorem dX7_onRings_90 : decode cX7_onRings 90 = .ok (.iload_n 3, 1) := by decide +kernel
theorem dX7_onRings_91 : decode cX7_onRings 91 = .ok (.ishl, 1) := by decide +kernel
theorem dX7_onRings_92 : decode cX7_onRings 92 = .ok (.goto 4, 3) := by decide +kernel
theorem dX7_onRings_95 : decode cX7_onRings 95 = .ok (.iconst 0, 1) := by decide +kernel
theorem dX7_onRings_96 : decode cX7_onRings 96 = .ok (.ior, 1) := by decide +kernel
theorem dX7_onRings_97 : decode cX7_onRings 97 = .ok (.istore_n 2, 1) := by decide +kernel
theorem dX7_onRings_98 : decode cX7_onRings 98 = .ok (.iinc 4 1, 3) := by decide +kernel
theorem dX7_onRings_101 : decode cX7_onRings 101 = .ok (.goto (-78), 3) := by decide +kernel
theorem dX7_onRings_104 : decode cX7_onRings 104 = .ok (.iinc 3 1, 3) := by decide +kernel
theorem dX7_onRings_107 : decode cX7_onRings 107 = .ok (.goto (-98), 3) := by decide +kernel
theorem dX7_onRings_110 : decode cX7_onRings 110 = .ok (.iload_n 2, 1) := by decide +kernel
theorem dX7_onRings_111 : decode cX7_onRings 111 = .ok (.ireturn, 1) := by decide +kernel
set_option maxRecDepth 20000 in
theorem ggX7_allBad_X7_judges : GoodIn wsX7_allBad wsX7_judges := goodIn_r _ [5, 6, 7, 8, 9, 10, 4, 11, 21, 22, 23, 24, 25, 26, 27, 28, 29, 30, 31, 32, 33, 34, 35, 36, 37, 38, 39] (by decide +kernel) (by decide +kernel)
set_option maxRecDepth 20000 in
theorem gX7_allBad_X7_judges : GoodIn wsX7_allBad (wsV RX7 170 RX7 yX7_judges wsX7_judges) := goodIn_app (goodIn_of _ (by decide +kernel)) ggX7_allBad_X7_judges
set_option maxRecDepth 20000 in
theorem ggX7_allBad_X7_onRings : GoodIn wsX7_allBad wsX7_onRings := goodIn_r _ [15, 6, 16, 17, 18, 19, 4, 20, 7, 8, 9, 10, 11, 21, 22, 23, 24, 25, 26, 27, 28, 29, 30, 31, 32, 33, 34, 35, 36, 37, 38, 39] (by decide +kernel) (by decide +kernel)
set_option maxRecDepth 20000 in
theorem gX7_allBad_X7_onRings : GoodIn wsX7_allBad (wsV RX7 173 RX7 yX7_onRings wsX7_onRings) := goodIn_app (goodIn_of _ (by decide +kernel)) ggX7_allBad_X7_onRings
theorem dX7_allBad_0 : decode cX7_allBad 0 = .ok (.aload_n 0, 1) := by decide +kernel
theorem dX7_allBad_1 : decode cX7_allBad 1 = .ok (.iload_n 1, 1) := by decide +kernel
theorem dX7_allBad_2 : decode cX7_allBad 2 = .ok (.invokevirtual 170, 3) := by decide +kernel
theorem dX7_allBad_5 : decode cX7_allBad 5 = .ok (.iconst 0, 1) := by decide +kernel
theorem dX7_allBad_6 : decode cX7_allBad 6 = .ok (.istore_n 2, 1) := by decide +kernel
theorem dX7_allBad_7 : decode cX7_allBad 7 = .ok (.iconst 1, 1) := by decide +kernel
theorem dX7_allBad_8 : decode cX7_allBad 8 = .ok (.iload_n 1, 1) := by decide +kernel
theorem dX7_allBad_9 : decode cX7_allBad 9 = .ok (.isub, 1) := by decide +kernel
theorem dX7_allBad_10 : decode cX7_allBad 10 = .ok (.istore_n 3, 1) := by decide +kernel
theorem dX7_allBad_11 : decode cX7_allBad 11 = .ok (.iload_n 3, 1) := by decide +kernel
theorem dX7_allBad_12 : decode cX7_allBad 12 = .ok (.bipush 8, 2) := by decide +kernel
theorem dX7_allBad_14 : decode cX7_allBad 14 = .ok (.if_icmp .ge 17, 3) := by decide +kernel
theorem dX7_allBad_17 : decode cX7_allBad 17 = .ok (.iload_n 2, 1) := by decide +kernel
theorem dX7_allBad_18 : decode cX7_allBad 18 = .ok (.aload_n 0, 1) := by decide +kernel
theorem dX7_allBad_19 : decode cX7_allBad 19 = .ok (.iload_n 3, 1) := by decide +kernel
theorem dX7_allBad_20 : decode cX7_allBad 20 = .ok (.invokevirtual 173, 3) := by decide +kernel
theorem dX7_allBad_23 : decode cX7_allBad 23 = .ok (.ior, 1) := by decide +kernel
theorem dX7_allBad_24 : decode cX7_allBad 24 = .ok (.istore_n 2, 1) := by decide +kernel
theorem dX7_allBad_25 : decode cX7_allBad 25 = .ok (.iinc 3 2, 3) := by decide +kernel
theorem dX7_allBad_28 : decode cX7_allBad 28 = .ok (.goto (-17), 3) := by decide +kernel
theorem dX7_allBad_31 : decode cX7_allBad 31 = .ok (.iload_n 2, 1) := by decide +kernel
theorem dX7_allBad_32 : decode cX7_allBad 32 = .ok (.ireturn, 1) := by decide +kernel
set_option maxRecDepth 20000 in
theorem ggX7_judged_X7_noPlayer : GoodIn wsX7_judged wsX7_noPlayer := goodIn_r _ [6, 7, 8, 5, 9] (by decide +kernel) (by decide +kernel)
set_option maxRecDepth 20000 in
theorem gX7_judged_X7_noPlayer : GoodIn wsX7_judged (va_wsS RX7 111 yX7_noPlayer wsX7_noPlayer) := goodIn_app (goodIn_of _ (by decide +kernel)) ggX7_judged_X7_noPlayer
set_option maxRecDepth 20000 in
theorem ggX7_judged_X7_no : GoodIn wsX7_judged wsX7_no := goodIn_r _ [13, 2, 7, 8, 5, 9, 35, 36, 37, 38, 39, 40, 41, 42, 43, 44, 45, 46, 47, 48, 49, 50, 51, 52, 53] (by decide +kernel) (by decide +kernel)
set_option maxRecDepth 20000 in
theorem gX7_judged_X7_no : GoodIn wsX7_judged (wsV RX7 104 RX7 yX7_no wsX7_no) := goodIn_app (goodIn_of _ (by decide +kernel)) ggX7_judged_X7_no
set_option maxRecDepth 20000 in
theorem ggX7_judged_X7_allBad : GoodIn wsX7_judged wsX7_allBad := goodIn_r _ [17, 18, 19, 20, 5, 21, 2, 22, 23, 24, 25, 26, 27, 28, 29, 30, 1, 31, 32, 33, 34, 35, 36, 37, 38, 39, 40, 41, 42, 43, 44, 45, 46, 47, 48, 49, 50, 51, 52, 53] (by decide +kernel) (by decide +kernel)
set_option maxRecDepth 20000 in
theorem gX7_judged_X7_allBad : GoodIn wsX7_judged (wsV RX7 176 RX7 yX7_allBad wsX7_allBad) := goodIn_app (goodIn_of _ (by decide +kernel)) ggX7_judged_X7_allBad
set_option maxRecDepth 20000 in
theorem ggX7_judged_X7_reaches : GoodIn wsX7_judged wsX7_reaches := goodIn_r _ [34, 2, 1, 22, 23, 24, 25, 5, 26, 35, 36, 37, 38, 39, 40, 41, 42, 43, 44, 45, 46, 47, 48, 49, 50, 51, 52, 53] (by decide +kernel) (by decide +kernel)
set_option maxRecDepth 20000 in
theorem gX7_judged_X7_reaches : GoodIn wsX7_judged (wsV RX7 167 RX7 yX7_reaches wsX7_reaches) := goodIn_app (goodIn_of _ (by decide +kernel)) ggX7_judged_X7_reaches
set_option maxRecDepth 20000 in
theorem ggX7_judged_X7_of : GoodIn wsX7_judged wsX7_of := goodIn_r _ [26, 2, 35, 36, 37, 38, 39, 40, 41, 42, 43, 44, 45, 46, 47, 48, 49, 50, 51, 52, 53] (by decide +kernel) (by decide +kernel)
set_option maxRecDepth 20000 in
theorem gX7_judged_X7_of : GoodIn wsX7_judged (wsV RX7 48 RX7 yX7_of wsX7_of) := goodIn_app (goodIn_of _ (by decide +kernel)) ggX7_judged_X7_of
theorem dX7_judged_0 : decode cX7_judged 0 = .ok (.iload_n 1, 1) := by decide +kernel
theorem dX7_judged_1 : decode cX7_judged 1 = .ok (.invokestatic 111, 3) := by decide +kernel
theorem dX7_judged_4 : decode cX7_judged 4 = .ok (.ifCond .ne 11, 3) := by decide +kernel
theorem dX7_judged_7 : decode cX7_judged 7 = .ok (.aload_n 0, 1) := by decide +kernel
theorem dX7_judged_8 : decode cX7_judged 8 = .ok (.iload_n 2, 1) := by decide +kernel
theorem dX7_judged_9 : decode cX7_judged 9 = .ok (.invokevirtual 104, 3) := by decide +kernel
theorem dX7_judged_12 : decode cX7_judged 12 = .ok (.ifCond .eq 5, 3) := by decide +kernel
theorem dX7_judged_15 : decode cX7_judged 15 = .ok (.iconst (-1), 1) := by decide +kernel
theorem dX7_judged_16 : decode cX7_judged 16 = .ok (.ireturn, 1) := by decide +kernel
theorem dX7_judged_17 : decode cX7_judged 17 = .ok (.aload_n 0, 1) := by decide +kernel
theorem dX7_judged_18 : decode cX7_judged 18 = .ok (.iload_n 1, 1) := by decide +kernel
theorem dX7_judged_19 : decode cX7_judged 19 = .ok (.invokevirtual 176, 3) := by decide +kernel
theorem dX7_judged_22 : decode cX7_judged 22 = .ok (.istore_n 3, 1) := by decide +kernel
theorem dX7_judged_23 : decode cX7_judged 23 = .ok (.aload_n 0, 1) := by decide +kernel
theorem dX7_judged_24 : decode cX7_judged 24 = .ok (.iconst 0, 1) := by decide +kernel
theorem dX7_judged_25 : decode cX7_judged 25 = .ok (.invokevirtual 167, 3) := by decide +kernel
theorem dX7_judged_28 : decode cX7_judged 28 = .ok (.aload_n 0, 1) := by decide +kernel
theorem dX7_judged_29 : decode cX7_judged 29 = .ok (.getfield 38, 3) := by decide +kernel
theorem dX7_judged_32 : decode cX7_judged 32 = .ok (.iload_n 2, 1) := by decide +kernel
theorem dX7_judged_33 : decode cX7_judged 33 = .ok (.iaload, 1) := by decide +kernel
theorem dX7_judged_34 : decode cX7_judged 34 = .ok (.iconst 1, 1) := by decide +kernel
theorem dX7_judged_35 : decode cX7_judged 35 = .ok (.iload_n 2, 1) := by decide +kernel
theorem dX7_judged_36 : decode cX7_judged 36 = .ok (.ishl, 1) := by decide +kernel
theorem dX7_judged_37 : decode cX7_judged 37 = .ok (.ior, 1) := by decide +kernel
theorem dX7_judged_38 : decode cX7_judged 38 = .ok (.istore 4, 2) := by decide +kernel
theorem dX7_judged_40 : decode cX7_judged 40 = .ok (.iconst 0, 1) := by decide +kernel
theorem dX7_judged_41 : decode cX7_judged 41 = .ok (.istore 5, 2) := by decide +kernel
theorem dX7_judged_43 : decode cX7_judged 43 = .ok (.iload 5, 2) := by decide +kernel
theorem dX7_judged_45 : decode cX7_judged 45 = .ok (.aload_n 0, 1) := by decide +kernel
theorem dX7_judged_46 : decode cX7_judged 46 = .ok (.getfield 7, 3) := by decide +kernel
theorem dX7_judged_49 : decode cX7_judged 49 = .ok (.bipush 56, 2) := by decide +kernel
theorem dX7_judged_51 : decode cX7_judged 51 = .ok (.iaload, 1) := by decide +kernel
theorem dX7_judged_52 : decode cX7_judged 52 = .ok (.if_icmp .ge 53, 3) := by decide +kernel
theorem dX7_judged_55 : decode cX7_judged 55 = .ok (.iload 4, 2) := by decide +kernel
theorem dX7_judged_57 : decode cX7_judged 57 = .ok (.iload 5, 2) := by decide +kernel
theorem dX7_judged_59 : decode cX7_judged 59 = .ok (.ishr, 1) := by decide +kernel
theorem dX7_judged_60 : decode cX7_judged 60 = .ok (.iconst 1, 1) := by decide +kernel
theorem dX7_judged_61 : decode cX7_judged 61 = .ok (.iand, 1) := by decide +kernel
theorem dX7_judged_62 : decode cX7_judged 62 = .ok (.iconst 1, 1) := by decide +kernel
theorem dX7_judged_63 : decode cX7_judged 63 = .ok (.if_icmp .ne 36, 3) := by decide +kernel
theorem dX7_judged_66 : decode cX7_judged 66 = .ok (.iload_n 3, 1) := by decide +kernel
theorem dX7_judged_67 : decode cX7_judged 67 = .ok (.iload 5, 2) := by decide +kernel
theorem dX7_judged_69 : decode cX7_judged 69 = .ok (.ishr, 1) := by decide +kernel
theorem dX7_judged_70 : decode cX7_judged 70 = .ok (.iconst 1, 1) := by decide +kernel
theorem dX7_judged_71 : decode cX7_judged 71 = .ok (.iand, 1) := by decide +kernel
theorem dX7_judged_72 : decode cX7_judged 72 = .ok (.iconst 1, 1) := by decide +kernel
theorem dX7_judged_73 : decode cX7_judged 73 = .ok (.if_icmp .eq 24, 3) := by decide +kernel
theorem dX7_judged_76 : decode cX7_judged 76 = .ok (.aload_n 0, 1) := by decide +kernel
theorem dX7_judged_77 : decode cX7_judged 77 = .ok (.iload 5, 2) := by decide +kernel
theorem dX7_judged_79 : decode cX7_judged 79 = .ok (.iconst 0, 1) := by decide +kernel
theorem dX7_judged_80 : decode cX7_judged 80 = .ok (.invokevirtual 48, 3) := by decide +kernel
theorem dX7_judged_83 : decode cX7_judged 83 = .ok (.iload_n 1, 1) := by decide +kernel
theorem dX7_judged_84 : decode cX7_judged 84 = .ok (.if_icmp .ne 15, 3) := by decide +kernel
theorem dX7_judged_87 : decode cX7_judged 87 = .ok (.aload_n 0, 1) := by decide +kernel
theorem dX7_judged_88 : decode cX7_judged 88 = .ok (.iload 5, 2) := by decide +kernel
theorem dX7_judged_90 : decode cX7_judged 90 = .ok (.iconst 2, 1) := by decide +kernel
theorem dX7_judged_91 : decode cX7_judged 91 = .ok (.invokevirtual 48, 3) := by decide +kernel
theorem dX7_judged_94 : decode cX7_judged 94 = .ok (.ifCond .ne 5, 3) := by decide +kernel
theorem dX7_judged_97 : decode cX7_judged 97 = .ok (.iconst 0, 1) := by decide +kernel
theorem dX7_judged_98 : decode cX7_judged 98 = .ok (.ireturn, 1) := by decide +kernel
theorem dX7_judged_99 : decode cX7_judged 99 = .ok (.iinc 5 1, 3) := by decide +kernel
theorem dX7_judged_102 : decode cX7_judged 102 = .ok (.goto (-59), 3) := by decide +kernel
theorem dX7_judged_105 : decode cX7_judged 105 = .ok (.iconst 1, 1) := by decide +kernel
theorem dX7_judged_106 : decode cX7_judged 106 = .ok (.ireturn, 1) := by decide +kernel
set_option maxRecDepth 20000 in
theorem ggX7_ringAt_X7_of : GoodIn wsX7_ringAt wsX7_of := goodIn_r _ [7, 1, 8, 9, 10, 11, 12, 13, 14, 15, 16, 17, 18, 19, 20, 21, 22, 23, 24, 25, 26] (by decide +kernel) (by decide +kernel)
set_option maxRecDepth 20000 in
theorem gX7_ringAt_X7_of : GoodIn wsX7_ringAt (wsV RX7 48 RX7 yX7_of wsX7_of) := goodIn_app (goodIn_of _ (by decide +kernel)) ggX7_ringAt_X7_of
theorem dX7_ringAt_0 : decode cX7_ringAt 0 = .ok (.iconst 0, 1) := by decide +kernel
theorem dX7_ringAt_1 : decode cX7_ringAt 1 = .ok (.istore_n 2, 1) := by decide +kernel
theorem dX7_ringAt_2 : decode cX7_ringAt 2 = .ok (.iconst 0, 1) := by decide +kernel
theorem dX7_ringAt_3 : decode cX7_ringAt 3 = .ok (.istore_n 3, 1) := by decide +kernel
theorem dX7_ringAt_4 : decode cX7_ringAt 4 = .ok (.iload_n 3, 1) := by decide +kernel
theorem dX7_ringAt_5 : decode cX7_ringAt 5 = .ok (.aload_n 0, 1) := by decide +kernel
theorem dX7_ringAt_6 : decode cX7_ringAt 6 = .ok (.getfield 7, 3) := by decide +kernel
theorem dX7_ringAt_9 : decode cX7_ringAt 9 = .ok (.bipush 56, 2) := by decide +kernel
theorem dX7_ringAt_11 : decode cX7_ringAt 11 = .ok (.iaload, 1) := by decide +kernel
theorem dX7_ringAt_12 : decode cX7_ringAt 12 = .ok (.if_icmp .ge 34, 3) := by decide +kernel
theorem dX7_ringAt_15 : decode cX7_ringAt 15 = .ok (.iload_n 2, 1) := by decide +kernel
theorem dX7_ringAt_16 : decode cX7_ringAt 16 = .ok (.aload_n 0, 1) := by decide +kernel
theorem dX7_ringAt_17 : decode cX7_ringAt 17 = .ok (.iload_n 3, 1) := by decide +kernel
theorem dX7_ringAt_18 : decode cX7_ringAt 18 = .ok (.iconst 1, 1) := by decide +kernel
theorem dX7_ringAt_19 : decode cX7_ringAt 19 = .ok (.invokevirtual 48, 3) := by decide +kernel
theorem dX7_ringAt_22 : decode cX7_ringAt 22 = .ok (.aload_n 0, 1) := by decide +kernel
theorem dX7_ringAt_23 : decode cX7_ringAt 23 = .ok (.iload_n 1, 1) := by decide +kernel
theorem dX7_ringAt_24 : decode cX7_ringAt 24 = .ok (.iconst 1, 1) := by decide +kernel
theorem dX7_ringAt_25 : decode cX7_ringAt 25 = .ok (.invokevirtual 48, 3) := by decide +kernel
theorem dX7_ringAt_28 : decode cX7_ringAt 28 = .ok (.if_icmp .lt 9, 3) := by decide +kernel
theorem dX7_ringAt_31 : decode cX7_ringAt 31 = .ok (.iconst 1, 1) := by decide +kernel
theorem dX7_ringAt_32 : decode cX7_ringAt 32 = .ok (.iload_n 3, 1) := by decide +kernel
theorem dX7_ringAt_33 : decode cX7_ringAt 33 = .ok (.ishl, 1) := by decide +kernel
theorem dX7_ringAt_34 : decode cX7_ringAt 34 = .ok (.goto 4, 3) := by decide +kernel
theorem dX7_ringAt_37 : decode cX7_ringAt 37 = .ok (.iconst 0, 1) := by decide +kernel
theorem dX7_ringAt_38 : decode cX7_ringAt 38 = .ok (.ior, 1) := by decide +kernel
theorem dX7_ringAt_39 : decode cX7_ringAt 39 = .ok (.istore_n 2, 1) := by decide +kernel
theorem dX7_ringAt_40 : decode cX7_ringAt 40 = .ok (.iinc 3 1, 3) := by decide +kernel
theorem dX7_ringAt_43 : decode cX7_ringAt 43 = .ok (.goto (-39), 3) := by decide +kernel
theorem dX7_ringAt_46 : decode cX7_ringAt 46 = .ok (.iconst 0, 1) := by decide +kernel
theorem dX7_ringAt_47 : decode cX7_ringAt 47 = .ok (.istore_n 3, 1) := by decide +kernel
theorem dX7_ringAt_48 : decode cX7_ringAt 48 = .ok (.iconst 1, 1) := by decide +kernel
theorem dX7_ringAt_49 : decode cX7_ringAt 49 = .ok (.iload_n 1, 1) := by decide +kernel
theorem dX7_ringAt_50 : decode cX7_ringAt 50 = .ok (.ishl, 1) := by decide +kernel
theorem dX7_ringAt_51 : decode cX7_ringAt 51 = .ok (.istore 4, 2) := by decide +kernel
theorem dX7_ringAt_53 : decode cX7_ringAt 53 = .ok (.iconst 1, 1) := by decide +kernel
theorem dX7_ringAt_54 : decode cX7_ringAt 54 = .ok (.istore 5, 2) := by decide +kernel
theorem dX7_ringAt_56 : decode cX7_ringAt 56 = .ok (.iload 4, 2) := by decide +kernel
theorem dX7_ringAt_58 : decode cX7_ringAt 58 = .ok (.ifCond .eq 88, 3) := by decide +kernel
theorem dX7_ringAt_61 : decode cX7_ringAt 61 = .ok (.iconst 0, 1) := by decide +kernel
theorem dX7_ringAt_62 : decode cX7_ringAt 62 = .ok (.istore 6, 2) := by decide +kernel
theorem dX7_ringAt_64 : decode cX7_ringAt 64 = .ok (.iconst 0, 1) := by decide +kernel
theorem dX7_ringAt_65 : decode cX7_ringAt 65 = .ok (.istore 7, 2) := by decide +kernel
theorem dX7_ringAt_67 : decode cX7_ringAt 67 = .ok (.iload 7, 2) := by decide +kernel
theorem dX7_ringAt_69 : decode cX7_ringAt 69 = .ok (.aload_n 0, 1) := by decide +kernel
theorem dX7_ringAt_70 : decode cX7_ringAt 70 = .ok (.getfield 7, 3) := by decide +kernel
theorem dX7_ringAt_73 : decode cX7_ringAt 73 = .ok (.bipush 56, 2) := by decide +kernel
theorem dX7_ringAt_75 : decode cX7_ringAt 75 = .ok (.iaload, 1) := by decide +kernel
theorem dX7_ringAt_76 : decode cX7_ringAt 76 = .ok (.if_icmp .ge 38, 3) := by decide +kernel
theorem dX7_ringAt_79 : decode cX7_ringAt 79 = .ok (.iload 6, 2) := by decide +kernel
theorem dX7_ringAt_81 : decode cX7_ringAt 81 = .ok (.iload 4, 2) := by decide +kernel
theorem dX7_ringAt_83 : decode cX7_ringAt 83 = .ok (.iload 7, 2) := by decide +kernel
theorem dX7_ringAt_85 : decode cX7_ringAt 85 = .ok (.ishr, 1) := by decide +kernel
theorem dX7_ringAt_86 : decode cX7_ringAt 86 = .ok (.iconst 1, 1) := by decide +kernel
theorem dX7_ringAt_87 : decode cX7_ringAt 87 = .ok (.iand, 1) := by decide +kernel
theorem dX7_ringAt_88 : decode cX7_ringAt 88 = .ok (.iconst 1, 1) := by decide +kernel
theorem dX7_ringAt_89 : decode cX7_ringAt 89 = .ok (.if_icmp .ne 15, 3) := by decide +kernel
theorem dX7_ringAt_92 : decode cX7_ringAt 92 = .ok (.aload_n 0, 1) := by decide +kernel
theorem dX7_ringAt_93 : decode cX7_ringAt 93 = .ok (.getfield 35, 3) := by decide +kernel
theorem dX7_ringAt_96 : decode cX7_ringAt 96 = .ok (.iload 7, 2) := by decide +kernel
theorem dX7_ringAt_98 : decode cX7_ringAt 98 = .ok (.iaload, 1) := by decide +kernel
theorem dX7_ringAt_99 : decode cX7_ringAt 99 = .ok (.iload_n 2, 1) := by decide +kernel
theorem dX7_ringAt_100 : decode cX7_ringAt 100 = .ok (.iand, 1) := by decide +kernel
theorem dX7_ringAt_101 : decode cX7_ringAt 101 = .ok (.goto 4, 3) := by decide +kernel
theorem dX7_ringAt_104 : decode cX7_ringAt 104 = .ok (.iconst 0, 1) := by decide +kernel
theorem dX7_ringAt_105 : decode cX7_ringAt 105 = .ok (.ior, 1) := by decide +kernel
theorem dX7_ringAt_106 : decode cX7_ringAt 106 = .ok (.istore 6, 2) := by decide +kernel
theorem dX7_ringAt_108 : decode cX7_ringAt 108 = .ok (.iinc 7 1, 3) := by decide +kernel
theorem dX7_ringAt_111 : decode cX7_ringAt 111 = .ok (.goto (-44), 3) := by decide +kernel
theorem dX7_ringAt_114 : decode cX7_ringAt 114 = .ok (.iload 6, 2) := by decide +kernel
theorem dX7_ringAt_116 : decode cX7_ringAt 116 = .ok (.iload_n 1, 1) := by decide +kernel
theorem dX7_ringAt_117 : decode cX7_ringAt 117 = .ok (.ishr, 1) := by decide +kernel
theorem dX7_ringAt_118 : decode cX7_ringAt 118 = .ok (.iconst 1, 1) := by decide +kernel
theorem dX7_ringAt_119 : decode cX7_ringAt 119 = .ok (.iand, 1) := by decide +kernel
theorem dX7_ringAt_120 : decode cX7_ringAt 120 = .ok (.iconst 1, 1) := by decide +kernel
theorem dX7_ringAt_121 : decode cX7_ringAt 121 = .ok (.if_icmp .ne 6, 3) := by decide +kernel
theorem dX7_ringAt_124 : decode cX7_ringAt 124 = .ok (.iload 5, 2) := by decide +kernel
theorem dX7_ringAt_126 : decode cX7_ringAt 126 = .ok (.ireturn, 1) := by decide +kernel
theorem dX7_ringAt_127 : decode cX7_ringAt 127 = .ok (.iload 6, 2) := by decide +kernel
theorem dX7_ringAt_129 : decode cX7_ringAt 129 = .ok (.iload_n 3, 1) := by decide +kernel
theorem dX7_ringAt_130 : decode cX7_ringAt 130 = .ok (.iconst (-1), 1) := by decide +kernel
theorem dX7_ringAt_131 : decode cX7_ringAt 131 = .ok (.ixor, 1) := by decide +kernel
theorem dX7_ringAt_132 : decode cX7_ringAt 132 = .ok (.iand, 1) := by decide +kernel
theorem dX7_ringAt_133 : decode cX7_ringAt 133 = .ok (.istore 4, 2) := by decide +kernel
theorem dX7_ringAt_135 : decode cX7_ringAt 135 = .ok (.iload_n 3, 1) := by decide +kernel
theorem dX7_ringAt_136 : decode cX7_ringAt 136 = .ok (.iload 6, 2) := by decide +kernel
theorem dX7_ringAt_138 : decode cX7_ringAt 138 = .ok (.ior, 1) := by decide +kernel
theorem dX7_ringAt_139 : decode cX7_ringAt 139 = .ok (.istore_n 3, 1) := by decide +kernel
theorem dX7_ringAt_140 : decode cX7_ringAt 140 = .ok (.iinc 5 1, 3) := by decide +kernel
theorem dX7_ringAt_143 : decode cX7_ringAt 143 = .ok (.goto (-87), 3) := by decide +kernel
theorem dX7_ringAt_146 : decode cX7_ringAt 146 = .ok (.bipush (-5), 2) := by decide +kernel
theorem dX7_ringAt_148 : decode cX7_ringAt 148 = .ok (.ireturn, 1) := by decide +kernel
set_option maxRecDepth 20000 in
theorem ggX7_badRings_X7_noPlayer : GoodIn wsX7_badRings wsX7_noPlayer := goodIn_r _ [5, 6, 7, 4, 8] (by decide +kernel) (by decide +kernel)
set_option maxRecDepth 20000 in
theorem gX7_badRings_X7_noPlayer : GoodIn wsX7_badRings (va_wsS RX7 111 yX7_noPlayer wsX7_noPlayer) := goodIn_app (goodIn_of _ (by decide +kernel)) ggX7_badRings_X7_noPlayer
set_option maxRecDepth 20000 in
theorem ggX7_badRings_X7_allBad : GoodIn wsX7_badRings wsX7_allBad := goodIn_r _ [12, 13, 14, 15, 4, 16, 1, 17, 18, 19, 20, 21, 22, 23, 24, 25, 26, 27, 28, 29, 30, 35, 36, 37, 38, 39, 40, 41, 42, 43, 44, 45, 46, 47, 48, 49, 50, 51, 52, 53] (by decide +kernel) (by decide +kernel)
set_option maxRecDepth 20000 in
theorem gX7_badRings_X7_allBad : GoodIn wsX7_badRings (wsV RX7 176 RX7 yX7_allBad wsX7_allBad) := goodIn_app (goodIn_of _ (by decide +kernel)) ggX7_badRings_X7_allBad
set_option maxRecDepth 20000 in
theorem ggX7_badRings_X7_in : GoodIn wsX7_badRings wsX7_in := goodIn_r _ [8] (by decide +kernel) (by decide +kernel)
set_option maxRecDepth 20000 in
theorem gX7_badRings_X7_in : GoodIn wsX7_badRings (va_wsS RX7 44 yX7_in wsX7_in) := goodIn_app (goodIn_of _ (by decide +kernel)) ggX7_badRings_X7_in
set_option maxRecDepth 20000 in
theorem ggX7_badRings_X7_judges : GoodIn wsX7_badRings wsX7_judges := goodIn_r _ [16, 1, 17, 18, 19, 20, 4, 21, 35, 36, 37, 38, 39, 40, 41, 42, 43, 44, 45, 46, 47, 48, 49, 50, 51, 52, 53] (by decide +kernel) (by decide +kernel)
set_option maxRecDepth 20000 in
theorem gX7_badRings_X7_judges : GoodIn wsX7_badRings (wsV RX7 170 RX7 yX7_judges wsX7_judges) := goodIn_app (goodIn_of _ (by decide +kernel)) ggX7_badRings_X7_judges
set_option maxRecDepth 20000 in
theorem ggX7_badRings_X7_of : GoodIn wsX7_badRings wsX7_of := goodIn_r _ [21, 1, 35, 36, 37, 38, 39, 40, 41, 42, 43, 44, 45, 46, 47, 48, 49, 50, 51, 52, 53] (by decide +kernel) (by decide +kernel)
set_option maxRecDepth 20000 in
theorem gX7_badRings_X7_of : GoodIn wsX7_badRings (wsV RX7 48 RX7 yX7_of wsX7_of) := goodIn_app (goodIn_of _ (by decide +kernel)) ggX7_badRings_X7_of
set_option maxRecDepth 20000 in
theorem ggX7_badRings_X7_ringAt : GoodIn wsX7_badRings wsX7_ringAt := goodIn_r _ [34, 1, 17, 18, 19, 20, 4, 21, 35, 36, 37, 38, 39, 40, 41, 42, 43, 44, 45, 46, 47, 48, 49, 50, 51, 52, 53] (by decide +kernel) (by decide +kernel)
set_option maxRecDepth 20000 in
theorem gX7_badRings_X7_ringAt : GoodIn wsX7_badRings (wsV RX7 179 RX7 yX7_ringAt wsX7_ringAt) := goodIn_app (goodIn_of _ (by decide +kernel)) ggX7_badRings_X7_ringAt
theorem dX7_badRings_0 : decode cX7_badRings 0 = .ok (.iload_n 1, 1) := by decide +kernel
theorem dX7_badRings_1 : decode cX7_badRings 1 = .ok (.invokestatic 111, 3) := by decide +kernel
theorem dX7_badRings_4 : decode cX7_badRings 4 = .ok (.ifCond .eq 5, 3) := by decide +kernel
theorem dX7_badRings_7 : decode cX7_badRings 7 = .ok (.iconst (-1), 1) := by decide +kernel
theorem dX7_badRings_8 : decode cX7_badRings 8 = .ok (.ireturn, 1) := by decide +kernel
theorem dX7_badRings_9 : decode cX7_badRings 9 = .ok (.iload_n 2, 1) := by decide +kernel
theorem dX7_badRings_10 : decode cX7_badRings 10 = .ok (.ifCond .ne 9, 3) := by decide +kernel
theorem dX7_badRings_13 : decode cX7_badRings 13 = .ok (.aload_n 0, 1) := by decide +kernel
theorem dX7_badRings_14 : decode cX7_badRings 14 = .ok (.iload_n 1, 1) := by decide +kernel
theorem dX7_badRings_15 : decode cX7_badRings 15 = .ok (.invokevirtual 176, 3) := by decide +kernel
theorem dX7_badRings_18 : decode cX7_badRings 18 = .ok (.ireturn, 1) := by decide +kernel
theorem dX7_badRings_19 : decode cX7_badRings 19 = .ok (.iload_n 2, 1) := by decide +kernel
theorem dX7_badRings_20 : decode cX7_badRings 20 = .ok (.iconst 1, 1) := by decide +kernel
theorem dX7_badRings_21 : decode cX7_badRings 21 = .ok (.iconst 2, 1) := by decide +kernel
theorem dX7_badRings_22 : decode cX7_badRings 22 = .ok (.invokestatic 44, 3) := by decide +kernel
theorem dX7_badRings_25 : decode cX7_badRings 25 = .ok (.ifCond .ne 6, 3) := by decide +kernel
theorem dX7_badRings_28 : decode cX7_badRings 28 = .ok (.bipush (-2), 2) := by decide +kernel
theorem dX7_badRings_30 : decode cX7_badRings 30 = .ok (.ireturn, 1) := by decide +kernel
theorem dX7_badRings_31 : decode cX7_badRings 31 = .ok (.aload_n 0, 1) := by decide +kernel
theorem dX7_badRings_32 : decode cX7_badRings 32 = .ok (.iload_n 1, 1) := by decide +kernel
theorem dX7_badRings_33 : decode cX7_badRings 33 = .ok (.invokevirtual 170, 3) := by decide +kernel
theorem dX7_badRings_36 : decode cX7_badRings 36 = .ok (.bipush (-5), 2) := by decide +kernel
theorem dX7_badRings_38 : decode cX7_badRings 38 = .ok (.istore_n 3, 1) := by decide +kernel
theorem dX7_badRings_39 : decode cX7_badRings 39 = .ok (.iconst 0, 1) := by decide +kernel
theorem dX7_badRings_40 : decode cX7_badRings 40 = .ok (.istore 4, 2) := by decide +kernel
theorem dX7_badRings_42 : decode cX7_badRings 42 = .ok (.iload 4, 2) := by decide +kernel
theorem dX7_badRings_44 : decode cX7_badRings 44 = .ok (.aload_n 0, 1) := by decide +kernel
theorem dX7_badRings_45 : decode cX7_badRings 45 = .ok (.getfield 7, 3) := by decide +kernel
theorem dX7_badRings_48 : decode cX7_badRings 48 = .ok (.bipush 56, 2) := by decide +kernel
theorem dX7_badRings_50 : decode cX7_badRings 50 = .ok (.iaload, 1) := by decide +kernel
theorem dX7_badRings_51 : decode cX7_badRings 51 = .ok (.if_icmp .ge 80, 3) := by decide +kernel
theorem dX7_badRings_54 : decode cX7_badRings 54 = .ok (.aload_n 0, 1) := by decide +kernel
theorem dX7_badRings_55 : decode cX7_badRings 55 = .ok (.iload 4, 2) := by decide +kernel
theorem dX7_badRings_57 : decode cX7_badRings 57 = .ok (.iconst 1, 1) := by decide +kernel
theorem dX7_badRings_58 : decode cX7_badRings 58 = .ok (.invokevirtual 48, 3) := by decide +kernel
theorem dX7_badRings_61 : decode cX7_badRings 61 = .ok (.iconst 2, 1) := by decide +kernel
theorem dX7_badRings_62 : decode cX7_badRings 62 = .ok (.irem, 1) := by decide +kernel
theorem dX7_badRings_63 : decode cX7_badRings 63 = .ok (.iload_n 1, 1) := by decide +kernel
theorem dX7_badRings_64 : decode cX7_badRings 64 = .ok (.if_icmp .ne 8, 3) := by decide +kernel
theorem dX7_badRings_67 : decode cX7_badRings 67 = .ok (.bipush (-5), 2) := by decide +kernel
theorem dX7_badRings_69 : decode cX7_badRings 69 = .ok (.goto 9, 3) := by decide +kernel
theorem dX7_badRings_72 : decode cX7_badRings 72 = .ok (.aload_n 0, 1) := by decide +kernel
theorem dX7_badRings_73 : decode cX7_badRings 73 = .ok (.iload 4, 2) := by decide +kernel
theorem dX7_badRings_75 : decode cX7_badRings 75 = .ok (.invokevirtual 179, 3) := by decide +kernel
theorem dX7_badRings_78 : decode cX7_badRings 78 = .ok (.istore 5, 2) := by decide +kernel
theorem dX7_badRings_80 : decode cX7_badRings 80 = .ok (.iload_n 2, 1) := by decide +kernel
theorem dX7_badRings_81 : decode cX7_badRings 81 = .ok (.iconst 1, 1) := by decide +kernel
theorem dX7_badRings_82 : decode cX7_badRings 82 = .ok (.if_icmp .ne 13, 3) := by decide +kernel
theorem dX7_badRings_85 : decode cX7_badRings 85 = .ok (.aload_n 0, 1) := by decide +kernel
theorem dX7_badRings_86 : decode cX7_badRings 86 = .ok (.iload 4, 2) := by decide +kernel
theorem dX7_badRings_88 : decode cX7_badRings 88 = .ok (.iconst 1, 1) := by decide +kernel
theorem dX7_badRings_89 : decode cX7_badRings 89 = .ok (.invokevirtual 48, 3) := by decide +kernel
theorem dX7_badRings_92 : decode cX7_badRings 92 = .ok (.goto 5, 3) := by decide +kernel
theorem dX7_badRings_95 : decode cX7_badRings 95 = .ok (.iload 5, 2) := by decide +kernel
theorem dX7_badRings_97 : decode cX7_badRings 97 = .ok (.istore 6, 2) := by decide +kernel
theorem dX7_badRings_99 : decode cX7_badRings 99 = .ok (.iload 5, 2) := by decide +kernel
theorem dX7_badRings_101 : decode cX7_badRings 101 = .ok (.bipush (-5), 2) := by decide +kernel
theorem dX7_badRings_103 : decode cX7_badRings 103 = .ok (.if_icmp .eq 20, 3) := by decide +kernel
theorem dX7_badRings_106 : decode cX7_badRings 106 = .ok (.iload_n 3, 1) := by decide +kernel
theorem dX7_badRings_107 : decode cX7_badRings 107 = .ok (.bipush (-5), 2) := by decide +kernel
theorem dX7_badRings_109 : decode cX7_badRings 109 = .ok (.if_icmp .eq 9, 3) := by decide +kernel
theorem dX7_badRings_112 : decode cX7_badRings 112 = .ok (.iload 6, 2) := by decide +kernel
theorem dX7_badRings_114 : decode cX7_badRings 114 = .ok (.iload_n 3, 1) := by decide +kernel
theorem dX7_badRings_115 : decode cX7_badRings 115 = .ok (.if_icmp .ge 8, 3) := by decide +kernel
theorem dX7_badRings_118 : decode cX7_badRings 118 = .ok (.iload 6, 2) := by decide +kernel
theorem dX7_badRings_120 : decode cX7_badRings 120 = .ok (.goto 4, 3) := by decide +kernel
theorem dX7_badRings_123 : decode cX7_badRings 123 = .ok (.iload_n 3, 1) := by decide +kernel
theorem dX7_badRings_124 : decode cX7_badRings 124 = .ok (.istore_n 3, 1) := by decide +kernel
theorem dX7_badRings_125 : decode cX7_badRings 125 = .ok (.iinc 4 1, 3) := by decide +kernel
theorem dX7_badRings_128 : decode cX7_badRings 128 = .ok (.goto (-86), 3) := by decide +kernel
theorem dX7_badRings_131 : decode cX7_badRings 131 = .ok (.iload_n 3, 1) := by decide +kernel
theorem dX7_badRings_132 : decode cX7_badRings 132 = .ok (.ireturn, 1) := by decide +kernel
set_option maxRecDepth 20000 in
theorem ggX7_pivots_X7_no : GoodIn wsX7_pivots wsX7_no := goodIn_r _ [6, 1, 7, 8, 5, 9, 60, 61, 62, 63, 64, 65, 66, 67, 68, 69, 70, 71, 72, 73, 74, 75, 76, 77, 78] (by decide +kernel) (by decide +kernel)
set_option maxRecDepth 20000 in
theorem gX7_pivots_X7_no : GoodIn wsX7_pivots (wsV RX7 104 RX7 yX7_no wsX7_no) := goodIn_app (goodIn_of _ (by decide +kernel)) ggX7_pivots_X7_no
set_option maxRecDepth 20000 in
theorem ggX7_pivots_X7_winner : GoodIn wsX7_pivots wsX7_winner := goodIn_r _ [13, 14, 15, 16, 5, 17, 18, 19, 20, 21, 22, 1, 23, 24, 25, 26, 27, 28, 29, 30, 31, 32, 33, 34, 35, 36, 37, 38, 39, 40, 41, 42, 43, 44, 45, 46, 47, 48, 49, 50, 51, 52, 53, 54, 55, 60, 61, 62, 63, 64, 65, 66, 67, 68, 69, 70, 71, 72, 73, 74, 75, 76, 77, 78] (by decide +kernel) (by decide +kernel)
set_option maxRecDepth 20000 in
theorem gX7_pivots_X7_winner : GoodIn wsX7_pivots (wsV RX7 114 RX7 yX7_winner wsX7_winner) := goodIn_app (goodIn_of _ (by decide +kernel)) ggX7_pivots_X7_winner
set_option maxRecDepth 20000 in
theorem ggX7_pivots_X7_of : GoodIn wsX7_pivots wsX7_of := goodIn_r _ [33, 1, 60, 61, 62, 63, 64, 65, 66, 67, 68, 69, 70, 71, 72, 73, 74, 75, 76, 77, 78] (by decide +kernel) (by decide +kernel)
set_option maxRecDepth 20000 in
theorem gX7_pivots_X7_of : GoodIn wsX7_pivots (wsV RX7 48 RX7 yX7_of wsX7_of) := goodIn_app (goodIn_of _ (by decide +kernel)) ggX7_pivots_X7_of
set_option maxRecDepth 20000 in
theorem ggX7_pivots_X7_puts : GoodIn wsX7_pivots wsX7_puts := goodIn_r _ [59, 1, 60, 61, 62, 63, 64, 65, 66, 67, 68, 69, 70, 71, 72, 73, 74, 75, 76, 77, 78] (by decide +kernel) (by decide +kernel)
set_option maxRecDepth 20000 in
theorem gX7_pivots_X7_puts : GoodIn wsX7_pivots (wsV RX7 100 RX7 yX7_puts wsX7_puts) := goodIn_app (goodIn_of _ (by decide +kernel)) ggX7_pivots_X7_puts
theorem dX7_pivots_0 : decode cX7_pivots 0 = .ok (.aload_n 0, 1) := by decide +kernel
theorem dX7_pivots_1 : decode cX7_pivots 1 = .ok (.iload_n 1, 1) := by decide +kernel
theorem dX7_pivots_2 : decode cX7_pivots 2 = .ok (.invokevirtual 104, 3) := by decide +kernel
theorem dX7_pivots_5 : decode cX7_pivots 5 = .ok (.ifCond .eq 5, 3) := by decide +kernel
theorem dX7_pivots_8 : decode cX7_pivots 8 = .ok (.iconst (-1), 1) := by decide +kernel
theorem dX7_pivots_9 : decode cX7_pivots 9 = .ok (.ireturn, 1) := by decide +kernel
theorem dX7_pivots_10 : decode cX7_pivots 10 = .ok (.aload_n 0, 1) := by decide +kernel
theorem dX7_pivots_11 : decode cX7_pivots 11 = .ok (.iload_n 1, 1) := by decide +kernel
theorem dX7_pivots_12 : decode cX7_pivots 12 = .ok (.invokevirtual 114, 3) := by decide +kernel
theorem dX7_pivots_15 : decode cX7_pivots 15 = .ok (.istore_n 2, 1) := by decide +kernel
theorem dX7_pivots_16 : decode cX7_pivots 16 = .ok (.iconst 0, 1) := by decide +kernel
theorem dX7_pivots_17 : decode cX7_pivots 17 = .ok (.istore_n 3, 1) := by decide +kernel
theorem dX7_pivots_18 : decode cX7_pivots 18 = .ok (.iconst 0, 1) := by decide +kernel
theorem dX7_pivots_19 : decode cX7_pivots 19 = .ok (.istore 4, 2) := by decide +kernel
theorem dX7_pivots_21 : decode cX7_pivots 21 = .ok (.iload 4, 2) := by decide +kernel
theorem dX7_pivots_23 : decode cX7_pivots 23 = .ok (.aload_n 0, 1) := by decide +kernel
theorem dX7_pivots_24 : decode cX7_pivots 24 = .ok (.getfield 7, 3) := by decide +kernel
theorem dX7_pivots_27 : decode cX7_pivots 27 = .ok (.bipush 56, 2) := by decide +kernel
theorem dX7_pivots_29 : decode cX7_pivots 29 = .ok (.iaload, 1) := by decide +kernel
theorem dX7_pivots_30 : decode cX7_pivots 30 = .ok (.if_icmp .ge 61, 3) := by decide +kernel
theorem dX7_pivots_33 : decode cX7_pivots 33 = .ok (.aload_n 0, 1) := by decide +kernel
theorem dX7_pivots_34 : decode cX7_pivots 34 = .ok (.iload 4, 2) := by decide +kernel
theorem dX7_pivots_36 : decode cX7_pivots 36 = .ok (.iconst 0, 1) := by decide +kernel
theorem dX7_pivots_37 : decode cX7_pivots 37 = .ok (.iconst 1, 1) := by decide +kernel
theorem dX7_pivots_38 : decode cX7_pivots 38 = .ok (.aload_n 0, 1) := by decide +kernel
theorem dX7_pivots_39 : decode cX7_pivots 39 = .ok (.iload 4, 2) := by decide +kernel
theorem dX7_pivots_41 : decode cX7_pivots 41 = .ok (.iconst 0, 1) := by decide +kernel
theorem dX7_pivots_42 : decode cX7_pivots 42 = .ok (.invokevirtual 48, 3) := by decide +kernel
theorem dX7_pivots_45 : decode cX7_pivots 45 = .ok (.isub, 1) := by decide +kernel
theorem dX7_pivots_46 : decode cX7_pivots 46 = .ok (.invokevirtual 100, 3) := by decide +kernel
theorem dX7_pivots_49 : decode cX7_pivots 49 = .ok (.iload_n 3, 1) := by decide +kernel
theorem dX7_pivots_50 : decode cX7_pivots 50 = .ok (.aload_n 0, 1) := by decide +kernel
theorem dX7_pivots_51 : decode cX7_pivots 51 = .ok (.iload_n 1, 1) := by decide +kernel
theorem dX7_pivots_52 : decode cX7_pivots 52 = .ok (.invokevirtual 114, 3) := by decide +kernel
theorem dX7_pivots_55 : decode cX7_pivots 55 = .ok (.iload_n 2, 1) := by decide +kernel
theorem dX7_pivots_56 : decode cX7_pivots 56 = .ok (.if_icmp .eq 10, 3) := by decide +kernel
theorem dX7_pivots_59 : decode cX7_pivots 59 = .ok (.iconst 1, 1) := by decide +kernel
theorem dX7_pivots_60 : decode cX7_pivots 60 = .ok (.iload 4, 2) := by decide +kernel
theorem dX7_pivots_62 : decode cX7_pivots 62 = .ok (.ishl, 1) := by decide +kernel
theorem dX7_pivots_63 : decode cX7_pivots 63 = .ok (.goto 4, 3) := by decide +kernel
theorem dX7_pivots_66 : decode cX7_pivots 66 = .ok (.iconst 0, 1) := by decide +kernel
theorem dX7_pivots_67 : decode cX7_pivots 67 = .ok (.ior, 1) := by decide +kernel
theorem dX7_pivots_68 : decode cX7_pivots 68 = .ok (.istore_n 3, 1) := by decide +kernel
theorem dX7_pivots_69 : decode cX7_pivots 69 = .ok (.aload_n 0, 1) := by decide +kernel
theorem dX7_pivots_70 : decode cX7_pivots 70 = .ok (.iload 4, 2) := by decide +kernel
theorem dX7_pivots_72 : decode cX7_pivots 72 = .ok (.iconst 0, 1) := by decide +kernel
theorem dX7_pivots_73 : decode cX7_pivots 73 = .ok (.iconst 1, 1) := by decide +kernel
theorem dX7_pivots_74 : decode cX7_pivots 74 = .ok (.aload_n 0, 1) := by decide +kernel
theorem dX7_pivots_75 : decode cX7_pivots 75 = .ok (.iload 4, 2) := by decide +kernel
theorem dX7_pivots_77 : decode cX7_pivots 77 = .ok (.iconst 0, 1) := by decide +kernel
theorem dX7_pivots_78 : decode cX7_pivots 78 = .ok (.invokevirtual 48, 3) := by decide +kernel
theorem dX7_pivots_81 : decode cX7_pivots 81 = .ok (.isub, 1) := by decide +kernel
theorem dX7_pivots_82 : decode cX7_pivots 82 = .ok (.invokevirtual 100, 3) := by decide +kernel
theorem dX7_pivots_85 : decode cX7_pivots 85 = .ok (.iinc 4 1, 3) := by decide +kernel
theorem dX7_pivots_88 : decode cX7_pivots 88 = .ok (.goto (-67), 3) := by decide +kernel
theorem dX7_pivots_91 : decode cX7_pivots 91 = .ok (.iload_n 3, 1) := by decide +kernel
theorem dX7_pivots_92 : decode cX7_pivots 92 = .ok (.ireturn, 1) := by decide +kernel
set_option maxRecDepth 20000 in
theorem ggX7_weakArrows_X7_no : GoodIn wsX7_weakArrows wsX7_no := goodIn_r _ [6, 1, 7, 8, 5, 9, 60, 61, 62, 63, 64, 65, 66, 67, 68, 69, 70, 71, 72, 73, 74, 75, 76, 77, 78] (by decide +kernel) (by decide +kernel)
set_option maxRecDepth 20000 in
theorem gX7_weakArrows_X7_no : GoodIn wsX7_weakArrows (wsV RX7 104 RX7 yX7_no wsX7_no) := goodIn_app (goodIn_of _ (by decide +kernel)) ggX7_weakArrows_X7_no
set_option maxRecDepth 20000 in
theorem ggX7_weakArrows_X7_winner : GoodIn wsX7_weakArrows wsX7_winner := goodIn_r _ [13, 14, 15, 16, 5, 17, 18, 19, 20, 21, 22, 1, 23, 24, 25, 26, 27, 28, 29, 30, 31, 32, 33, 34, 35, 36, 37, 38, 39, 40, 41, 42, 43, 44, 45, 46, 47, 48, 49, 50, 51, 52, 53, 54, 55, 60, 61, 62, 63, 64, 65, 66, 67, 68, 69, 70, 71, 72, 73, 74, 75, 76, 77, 78] (by decide +kernel) (by decide +kernel)
set_option maxRecDepth 20000 in
theorem gX7_weakArrows_X7_winner : GoodIn wsX7_weakArrows (wsV RX7 114 RX7 yX7_winner wsX7_winner) := goodIn_app (goodIn_of _ (by decide +kernel)) ggX7_weakArrows_X7_winner
set_option maxRecDepth 20000 in
theorem ggX7_weakArrows_X7_of : GoodIn wsX7_weakArrows wsX7_of := goodIn_r _ [33, 1, 60, 61, 62, 63, 64, 65, 66, 67, 68, 69, 70, 71, 72, 73, 74, 75, 76, 77, 78] (by decide +kernel) (by decide +kernel)
set_option maxRecDepth 20000 in
theorem gX7_weakArrows_X7_of : GoodIn wsX7_weakArrows (wsV RX7 48 RX7 yX7_of wsX7_of) := goodIn_app (goodIn_of _ (by decide +kernel)) ggX7_weakArrows_X7_of
set_option maxRecDepth 20000 in
theorem ggX7_weakArrows_X7_puts : GoodIn wsX7_weakArrows wsX7_puts := goodIn_r _ [59, 1, 60, 61, 62, 63, 64, 65, 66, 67, 68, 69, 70, 71, 72, 73, 74, 75, 76, 77, 78] (by decide +kernel) (by decide +kernel)
set_option maxRecDepth 20000 in
theorem gX7_weakArrows_X7_puts : GoodIn wsX7_weakArrows (wsV RX7 100 RX7 yX7_puts wsX7_puts) := goodIn_app (goodIn_of _ (by decide +kernel)) ggX7_weakArrows_X7_puts
theorem dX7_weakArrows_0 : decode cX7_weakArrows 0 = .ok (.aload_n 0, 1) := by decide +kernel
theorem dX7_weakArrows_1 : decode cX7_weakArrows 1 = .ok (.iload_n 1, 1) := by decide +kernel
theorem dX7_weakArrows_2 : decode cX7_weakArrows 2 = .ok (.invokevirtual 104, 3) := by decide +kernel
theorem dX7_weakArrows_5 : decode cX7_weakArrows 5 = .ok (.ifCond .eq 5, 3) := by decide +kernel
theorem dX7_weakArrows_8 : decode cX7_weakArrows 8 = .ok (.iconst (-1), 1) := by decide +kernel
theorem dX7_weakArrows_9 : decode cX7_weakArrows 9 = .ok (.ireturn, 1) := by decide +kernel
theorem dX7_weakArrows_10 : decode cX7_weakArrows 10 = .ok (.aload_n 0, 1) := by decide +kernel
theorem dX7_weakArrows_11 : decode cX7_weakArrows 11 = .ok (.iload_n 1, 1) := by decide +kernel
theorem dX7_weakArrows_12 : decode cX7_weakArrows 12 = .ok (.invokevirtual 114, 3) := by decide +kernel
theorem dX7_weakArrows_15 : decode cX7_weakArrows 15 = .ok (.istore_n 2, 1) := by decide +kernel
theorem dX7_weakArrows_16 : decode cX7_weakArrows 16 = .ok (.aload_n 0, 1) := by decide +kernel
theorem dX7_weakArrows_17 : decode cX7_weakArrows 17 = .ok (.iload_n 1, 1) := by decide +kernel
theorem dX7_weakArrows_18 : decode cX7_weakArrows 18 = .ok (.iconst 2, 1) := by decide +kernel
theorem dX7_weakArrows_19 : decode cX7_weakArrows 19 = .ok (.invokevirtual 48, 3) := by decide +kernel
theorem dX7_weakArrows_22 : decode cX7_weakArrows 22 = .ok (.istore_n 3, 1) := by decide +kernel
theorem dX7_weakArrows_23 : decode cX7_weakArrows 23 = .ok (.iconst 0, 1) := by decide +kernel
theorem dX7_weakArrows_24 : decode cX7_weakArrows 24 = .ok (.istore 4, 2) := by decide +kernel
theorem dX7_weakArrows_26 : decode cX7_weakArrows 26 = .ok (.iconst 0, 1) := by decide +kernel
theorem dX7_weakArrows_27 : decode cX7_weakArrows 27 = .ok (.istore 5, 2) := by decide +kernel
theorem dX7_weakArrows_29 : decode cX7_weakArrows 29 = .ok (.iload 5, 2) := by decide +kernel
theorem dX7_weakArrows_31 : decode cX7_weakArrows 31 = .ok (.aload_n 0, 1) := by decide +kernel
theorem dX7_weakArrows_32 : decode cX7_weakArrows 32 = .ok (.getfield 7, 3) := by decide +kernel
theorem dX7_weakArrows_35 : decode cX7_weakArrows 35 = .ok (.bipush 56, 2) := by decide +kernel
theorem dX7_weakArrows_37 : decode cX7_weakArrows 37 = .ok (.iaload, 1) := by decide +kernel
theorem dX7_weakArrows_38 : decode cX7_weakArrows 38 = .ok (.if_icmp .ge 53, 3) := by decide +kernel
theorem dX7_weakArrows_41 : decode cX7_weakArrows 41 = .ok (.iload_n 3, 1) := by decide +kernel
theorem dX7_weakArrows_42 : decode cX7_weakArrows 42 = .ok (.iload 5, 2) := by decide +kernel
theorem dX7_weakArrows_44 : decode cX7_weakArrows 44 = .ok (.ishr, 1) := by decide +kernel
theorem dX7_weakArrows_45 : decode cX7_weakArrows 45 = .ok (.iconst 1, 1) := by decide +kernel
theorem dX7_weakArrows_46 : decode cX7_weakArrows 46 = .ok (.iand, 1) := by decide +kernel
theorem dX7_weakArrows_47 : decode cX7_weakArrows 47 = .ok (.iconst 1, 1) := by decide +kernel
theorem dX7_weakArrows_48 : decode cX7_weakArrows 48 = .ok (.if_icmp .ne 37, 3) := by decide +kernel
theorem dX7_weakArrows_51 : decode cX7_weakArrows 51 = .ok (.aload_n 0, 1) := by decide +kernel
theorem dX7_weakArrows_52 : decode cX7_weakArrows 52 = .ok (.iload_n 1, 1) := by decide +kernel
theorem dX7_weakArrows_53 : decode cX7_weakArrows 53 = .ok (.iconst 2, 1) := by decide +kernel
theorem dX7_weakArrows_54 : decode cX7_weakArrows 54 = .ok (.iload_n 3, 1) := by decide +kernel
theorem dX7_weakArrows_55 : decode cX7_weakArrows 55 = .ok (.iconst 1, 1) := by decide +kernel
theorem dX7_weakArrows_56 : decode cX7_weakArrows 56 = .ok (.iload 5, 2) := by decide +kernel
theorem dX7_weakArrows_58 : decode cX7_weakArrows 58 = .ok (.ishl, 1) := by decide +kernel
theorem dX7_weakArrows_59 : decode cX7_weakArrows 59 = .ok (.ixor, 1) := by decide +kernel
theorem dX7_weakArrows_60 : decode cX7_weakArrows 60 = .ok (.invokevirtual 100, 3) := by decide +kernel
theorem dX7_weakArrows_63 : decode cX7_weakArrows 63 = .ok (.iload 4, 2) := by decide +kernel
theorem dX7_weakArrows_65 : decode cX7_weakArrows 65 = .ok (.aload_n 0, 1) := by decide +kernel
theorem dX7_weakArrows_66 : decode cX7_weakArrows 66 = .ok (.iload_n 1, 1) := by decide +kernel
theorem dX7_weakArrows_67 : decode cX7_weakArrows 67 = .ok (.invokevirtual 114, 3) := by decide +kernel
theorem dX7_weakArrows_70 : decode cX7_weakArrows 70 = .ok (.iload_n 2, 1) := by decide +kernel
theorem dX7_weakArrows_71 : decode cX7_weakArrows 71 = .ok (.if_icmp .eq 10, 3) := by decide +kernel
theorem dX7_weakArrows_74 : decode cX7_weakArrows 74 = .ok (.iconst 1, 1) := by decide +kernel
theorem dX7_weakArrows_75 : decode cX7_weakArrows 75 = .ok (.iload 5, 2) := by decide +kernel
theorem dX7_weakArrows_77 : decode cX7_weakArrows 77 = .ok (.ishl, 1) := by decide +kernel
theorem dX7_weakArrows_78 : decode cX7_weakArrows 78 = .ok (.goto 4, 3) := by decide +kernel
theorem dX7_weakArrows_81 : decode cX7_weakArrows 81 = .ok (.iconst 0, 1) := by decide +kernel
theorem dX7_weakArrows_82 : decode cX7_weakArrows 82 = .ok (.ior, 1) := by decide +kernel
theorem dX7_weakArrows_83 : decode cX7_weakArrows 83 = .ok (.istore 4, 2) := by decide +kernel
theorem dX7_weakArrows_85 : decode cX7_weakArrows 85 = .ok (.iinc 5 1, 3) := by decide +kernel
theorem dX7_weakArrows_88 : decode cX7_weakArrows 88 = .ok (.goto (-59), 3) := by decide +kernel
theorem dX7_weakArrows_91 : decode cX7_weakArrows 91 = .ok (.aload_n 0, 1) := by decide +kernel
theorem dX7_weakArrows_92 : decode cX7_weakArrows 92 = .ok (.iload_n 1, 1) := by decide +kernel
theorem dX7_weakArrows_93 : decode cX7_weakArrows 93 = .ok (.iconst 2, 1) := by decide +kernel
theorem dX7_weakArrows_94 : decode cX7_weakArrows 94 = .ok (.iload_n 3, 1) := by decide +kernel
theorem dX7_weakArrows_95 : decode cX7_weakArrows 95 = .ok (.invokevirtual 100, 3) := by decide +kernel
theorem dX7_weakArrows_98 : decode cX7_weakArrows 98 = .ok (.iload 4, 2) := by decide +kernel
theorem dX7_weakArrows_100 : decode cX7_weakArrows 100 = .ok (.ireturn, 1) := by decide +kernel
set_option maxRecDepth 20000 in
theorem ggX7_token_X7_in : GoodIn wsX7_token wsX7_in := goodIn_r _ [6] (by decide +kernel) (by decide +kernel)
set_option maxRecDepth 20000 in
theorem gX7_token_X7_in : GoodIn wsX7_token (va_wsS RX7 44 yX7_in wsX7_in) := goodIn_app (goodIn_of _ (by decide +kernel)) ggX7_token_X7_in
set_option maxRecDepth 20000 in
theorem ggX7_token_X7_goesTo : GoodIn wsX7_token wsX7_goesTo := goodIn_r _ [10, 11, 12, 13, 5, 14, 1, 15, 16, 17, 18, 19, 20, 21, 22, 23, 24, 25, 26, 27, 28, 29, 30, 31, 32, 33, 34, 35, 36, 37, 38, 39, 40, 41, 42, 43, 44, 45, 46, 47, 48, 49, 50, 51, 52, 53, 54, 55, 56, 57, 58, 59, 60, 61, 62, 63, 64, 65, 66, 67, 68, 69, 70, 71, 72, 73, 74] (by decide +kernel) (by decide +kernel)
set_option maxRecDepth 20000 in
theorem gX7_token_X7_goesTo : GoodIn wsX7_token (wsV RX7 123 RX7 yX7_goesTo wsX7_goesTo) := goodIn_app (goodIn_of _ (by decide +kernel)) ggX7_token_X7_goesTo
set_option maxRecDepth 20000 in
theorem ggX7_token_X7_of : GoodIn wsX7_token wsX7_of := goodIn_r _ [14, 1, 56, 57, 58, 59, 60, 61, 62, 63, 64, 65, 66, 67, 68, 69, 70, 71, 72, 73, 74] (by decide +kernel) (by decide +kernel)
set_option maxRecDepth 20000 in
theorem gX7_token_X7_of : GoodIn wsX7_token (wsV RX7 48 RX7 yX7_of wsX7_of) := goodIn_app (goodIn_of _ (by decide +kernel)) ggX7_token_X7_of
theorem dX7_token_0 : decode cX7_token 0 = .ok (.iload_n 1, 1) := by decide +kernel
theorem dX7_token_1 : decode cX7_token 1 = .ok (.iconst 0, 1) := by decide +kernel
theorem dX7_token_2 : decode cX7_token 2 = .ok (.iconst 4, 1) := by decide +kernel
theorem dX7_token_3 : decode cX7_token 3 = .ok (.invokestatic 44, 3) := by decide +kernel
theorem dX7_token_6 : decode cX7_token 6 = .ok (.ifCond .ne 6, 3) := by decide +kernel
theorem dX7_token_9 : decode cX7_token 9 = .ok (.bipush (-2), 2) := by decide +kernel
theorem dX7_token_11 : decode cX7_token 11 = .ok (.ireturn, 1) := by decide +kernel
theorem dX7_token_12 : decode cX7_token 12 = .ok (.aload_n 0, 1) := by decide +kernel
theorem dX7_token_13 : decode cX7_token 13 = .ok (.getfield 7, 3) := by decide +kernel
theorem dX7_token_16 : decode cX7_token 16 = .ok (.bipush 57, 2) := by decide +kernel
theorem dX7_token_18 : decode cX7_token 18 = .ok (.iaload, 1) := by decide +kernel
theorem dX7_token_19 : decode cX7_token 19 = .ok (.ifCond .ge 6, 3) := by decide +kernel
theorem dX7_token_22 : decode cX7_token 22 = .ok (.bipush (-4), 2) := by decide +kernel
theorem dX7_token_24 : decode cX7_token 24 = .ok (.ireturn, 1) := by decide +kernel
theorem dX7_token_25 : decode cX7_token 25 = .ok (.iload_n 1, 1) := by decide +kernel
theorem dX7_token_26 : decode cX7_token 26 = .ok (.ifCond .ne 11, 3) := by decide +kernel
theorem dX7_token_29 : decode cX7_token 29 = .ok (.aload_n 0, 1) := by decide +kernel
theorem dX7_token_30 : decode cX7_token 30 = .ok (.getfield 7, 3) := by decide +kernel
theorem dX7_token_33 : decode cX7_token 33 = .ok (.bipush 57, 2) := by decide +kernel
theorem dX7_token_35 : decode cX7_token 35 = .ok (.iaload, 1) := by decide +kernel
theorem dX7_token_36 : decode cX7_token 36 = .ok (.ireturn, 1) := by decide +kernel
theorem dX7_token_37 : decode cX7_token 37 = .ok (.iconst 0, 1) := by decide +kernel
theorem dX7_token_38 : decode cX7_token 38 = .ok (.istore_n 2, 1) := by decide +kernel
theorem dX7_token_39 : decode cX7_token 39 = .ok (.iconst 0, 1) := by decide +kernel
theorem dX7_token_40 : decode cX7_token 40 = .ok (.istore_n 3, 1) := by decide +kernel
theorem dX7_token_41 : decode cX7_token 41 = .ok (.aload_n 0, 1) := by decide +kernel
theorem dX7_token_42 : decode cX7_token 42 = .ok (.getfield 7, 3) := by decide +kernel
theorem dX7_token_45 : decode cX7_token 45 = .ok (.bipush 57, 2) := by decide +kernel
theorem dX7_token_47 : decode cX7_token 47 = .ok (.iaload, 1) := by decide +kernel
theorem dX7_token_48 : decode cX7_token 48 = .ok (.istore 4, 2) := by decide +kernel
theorem dX7_token_50 : decode cX7_token 50 = .ok (.iload 4, 2) := by decide +kernel
theorem dX7_token_52 : decode cX7_token 52 = .ok (.bipush (-5), 2) := by decide +kernel
theorem dX7_token_54 : decode cX7_token 54 = .ok (.if_icmp .eq 41, 3) := by decide +kernel
theorem dX7_token_57 : decode cX7_token 57 = .ok (.iload_n 2, 1) := by decide +kernel
theorem dX7_token_58 : decode cX7_token 58 = .ok (.iload 4, 2) := by decide +kernel
theorem dX7_token_60 : decode cX7_token 60 = .ok (.ishr, 1) := by decide +kernel
theorem dX7_token_61 : decode cX7_token 61 = .ok (.iconst 1, 1) := by decide +kernel
theorem dX7_token_62 : decode cX7_token 62 = .ok (.iand, 1) := by decide +kernel
theorem dX7_token_63 : decode cX7_token 63 = .ok (.ifCond .ne 32, 3) := by decide +kernel
theorem dX7_token_66 : decode cX7_token 66 = .ok (.iload_n 2, 1) := by decide +kernel
theorem dX7_token_67 : decode cX7_token 67 = .ok (.iconst 1, 1) := by decide +kernel
theorem dX7_token_68 : decode cX7_token 68 = .ok (.iload 4, 2) := by decide +kernel
theorem dX7_token_70 : decode cX7_token 70 = .ok (.ishl, 1) := by decide +kernel
theorem dX7_token_71 : decode cX7_token 71 = .ok (.ior, 1) := by decide +kernel
theorem dX7_token_72 : decode cX7_token 72 = .ok (.istore_n 2, 1) := by decide +kernel
theorem dX7_token_73 : decode cX7_token 73 = .ok (.aload_n 0, 1) := by decide +kernel
theorem dX7_token_74 : decode cX7_token 74 = .ok (.getfield 41, 3) := by decide +kernel
theorem dX7_token_77 : decode cX7_token 77 = .ok (.iload_n 3, 1) := by decide +kernel
theorem dX7_token_78 : decode cX7_token 78 = .ok (.iload 4, 2) := by decide +kernel
theorem dX7_token_80 : decode cX7_token 80 = .ok (.iastore, 1) := by decide +kernel
theorem dX7_token_81 : decode cX7_token 81 = .ok (.iinc 3 1, 3) := by decide +kernel
theorem dX7_token_84 : decode cX7_token 84 = .ok (.aload_n 0, 1) := by decide +kernel
theorem dX7_token_85 : decode cX7_token 85 = .ok (.iload 4, 2) := by decide +kernel
theorem dX7_token_87 : decode cX7_token 87 = .ok (.invokevirtual 123, 3) := by decide +kernel
theorem dX7_token_90 : decode cX7_token 90 = .ok (.istore 4, 2) := by decide +kernel
theorem dX7_token_92 : decode cX7_token 92 = .ok (.goto (-42), 3) := by decide +kernel
theorem dX7_token_95 : decode cX7_token 95 = .ok (.iload 4, 2) := by decide +kernel
theorem dX7_token_97 : decode cX7_token 97 = .ok (.bipush (-5), 2) := by decide +kernel
theorem dX7_token_99 : decode cX7_token 99 = .ok (.if_icmp .ne 40, 3) := by decide +kernel
theorem dX7_token_102 : decode cX7_token 102 = .ok (.iload_n 1, 1) := by decide +kernel
theorem dX7_token_103 : decode cX7_token 103 = .ok (.iconst 1, 1) := by decide +kernel
theorem dX7_token_104 : decode cX7_token 104 = .ok (.if_icmp .ne 9, 3) := by decide +kernel
theorem dX7_token_107 : decode cX7_token 107 = .ok (.iload_n 3, 1) := by decide +kernel
theorem dX7_token_108 : decode cX7_token 108 = .ok (.iconst 1, 1) := by decide +kernel
theorem dX7_token_109 : decode cX7_token 109 = .ok (.isub, 1) := by decide +kernel
theorem dX7_token_110 : decode cX7_token 110 = .ok (.goto 28, 3) := by decide +kernel
theorem dX7_token_113 : decode cX7_token 113 = .ok (.iload_n 1, 1) := by decide +kernel
theorem dX7_token_114 : decode cX7_token 114 = .ok (.iconst 4, 1) := by decide +kernel
theorem dX7_token_115 : decode cX7_token 115 = .ok (.if_icmp .ne 21, 3) := by decide +kernel
theorem dX7_token_118 : decode cX7_token 118 = .ok (.iconst 1, 1) := by decide +kernel
theorem dX7_token_119 : decode cX7_token 119 = .ok (.aload_n 0, 1) := by decide +kernel
theorem dX7_token_120 : decode cX7_token 120 = .ok (.aload_n 0, 1) := by decide +kernel
theorem dX7_token_121 : decode cX7_token 121 = .ok (.getfield 41, 3) := by decide +kernel
theorem dX7_token_124 : decode cX7_token 124 = .ok (.iload_n 3, 1) := by decide +kernel
theorem dX7_token_125 : decode cX7_token 125 = .ok (.iconst 1, 1) := by decide +kernel
theorem dX7_token_126 : decode cX7_token 126 = .ok (.isub, 1) := by decide +kernel
theorem dX7_token_127 : decode cX7_token 127 = .ok (.iaload, 1) := by decide +kernel
theorem dX7_token_128 : decode cX7_token 128 = .ok (.iconst 0, 1) := by decide +kernel
theorem dX7_token_129 : decode cX7_token 129 = .ok (.invokevirtual 48, 3) := by decide +kernel
theorem dX7_token_132 : decode cX7_token 132 = .ok (.isub, 1) := by decide +kernel
theorem dX7_token_133 : decode cX7_token 133 = .ok (.goto 5, 3) := by decide +kernel
theorem dX7_token_136 : decode cX7_token 136 = .ok (.bipush (-5), 2) := by decide +kernel
theorem dX7_token_138 : decode cX7_token 138 = .ok (.ireturn, 1) := by decide +kernel
theorem dX7_token_139 : decode cX7_token 139 = .ok (.bipush 8, 2) := by decide +kernel
theorem dX7_token_141 : decode cX7_token 141 = .ok (.istore 5, 2) := by decide +kernel
theorem dX7_token_143 : decode cX7_token 143 = .ok (.iconst 0, 1) := by decide +kernel
theorem dX7_token_144 : decode cX7_token 144 = .ok (.istore 6, 2) := by decide +kernel
theorem dX7_token_146 : decode cX7_token 146 = .ok (.iconst 0, 1) := by decide +kernel
theorem dX7_token_147 : decode cX7_token 147 = .ok (.istore 7, 2) := by decide +kernel
theorem dX7_token_149 : decode cX7_token 149 = .ok (.iload 7, 2) := by decide +kernel
theorem dX7_token_151 : decode cX7_token 151 = .ok (.iload_n 3, 1) := by decide +kernel
theorem dX7_token_152 : decode cX7_token 152 = .ok (.if_icmp .ge 72, 3) := by decide +kernel
theorem dX7_token_155 : decode cX7_token 155 = .ok (.iload 6, 2) := by decide +kernel
theorem dX7_token_157 : decode cX7_token 157 = .ok (.aload_n 0, 1) := by decide +kernel
theorem dX7_token_158 : decode cX7_token 158 = .ok (.getfield 41, 3) := by decide +kernel
theorem dX7_token_161 : decode cX7_token 161 = .ok (.iload 7, 2) := by decide +kernel
theorem dX7_token_163 : decode cX7_token 163 = .ok (.iaload, 1) := by decide +kernel
theorem dX7_token_164 : decode cX7_token 164 = .ok (.iload 4, 2) := by decide +kernel
theorem dX7_token_166 : decode cX7_token 166 = .ok (.if_icmp .ne 7, 3) := by decide +kernel
theorem dX7_token_169 : decode cX7_token 169 = .ok (.iconst 1, 1) := by decide +kernel
theorem dX7_token_170 : decode cX7_token 170 = .ok (.goto 4, 3) := by decide +kernel
theorem dX7_token_173 : decode cX7_token 173 = .ok (.iconst 0, 1) := by decide +kernel
theorem dX7_token_174 : decode cX7_token 174 = .ok (.ior, 1) := by decide +kernel
theorem dX7_token_175 : decode cX7_token 175 = .ok (.istore 6, 2) := by decide +kernel
theorem dX7_token_177 : decode cX7_token 177 = .ok (.iload 6, 2) := by decide +kernel
theorem dX7_token_179 : decode cX7_token 179 = .ok (.ifCond .eq 35, 3) := by decide +kernel
theorem dX7_token_182 : decode cX7_token 182 = .ok (.aload_n 0, 1) := by decide +kernel
theorem dX7_token_183 : decode cX7_token 183 = .ok (.aload_n 0, 1) := by decide +kernel
theorem dX7_token_184 : decode cX7_token 184 = .ok (.getfield 41, 3) := by decide +kernel
theorem dX7_token_187 : decode cX7_token 187 = .ok (.iload 7, 2) := by decide +kernel
theorem dX7_token_189 : decode cX7_token 189 = .ok (.iaload, 1) := by decide +kernel
theorem dX7_token_190 : decode cX7_token 190 = .ok (.iconst 1, 1) := by decide +kernel
theorem dX7_token_191 : decode cX7_token 191 = .ok (.invokevirtual 48, 3) := by decide +kernel
theorem dX7_token_194 : decode cX7_token 194 = .ok (.iload 5, 2) := by decide +kernel
theorem dX7_token_196 : decode cX7_token 196 = .ok (.if_icmp .ge 18, 3) := by decide +kernel
theorem dX7_token_199 : decode cX7_token 199 = .ok (.aload_n 0, 1) := by decide +kernel
theorem dX7_token_200 : decode cX7_token 200 = .ok (.aload_n 0, 1) := by decide +kernel
theorem dX7_token_201 : decode cX7_token 201 = .ok (.getfield 41, 3) := by decide +kernel
theorem dX7_token_204 : decode cX7_token 204 = .ok (.iload 7, 2) := by decide +kernel
theorem dX7_token_206 : decode cX7_token 206 = .ok (.iaload, 1) := by decide +kernel
theorem dX7_token_207 : decode cX7_token 207 = .ok (.iconst 1, 1) := by decide +kernel
theorem dX7_token_208 : decode cX7_token 208 = .ok (.invokevirtual 48, 3) := by decide +kernel
theorem dX7_token_211 : decode cX7_token 211 = .ok (.goto 5, 3) := by decide +kernel
theorem dX7_token_214 : decode cX7_token 214 = .ok (.iload 5, 2) := by decide +kernel
theorem dX7_token_216 : decode cX7_token 216 = .ok (.istore 5, 2) := by decide +kernel
theorem dX7_token_218 : decode cX7_token 218 = .ok (.iinc 7 1, 3) := by decide +kernel
theorem dX7_token_221 : decode cX7_token 221 = .ok (.goto (-72), 3) := by decide +kernel
theorem dX7_token_224 : decode cX7_token 224 = .ok (.iload_n 1, 1) := by decide +kernel
theorem dX7_token_225 : decode cX7_token 225 = .ok (.iconst 1, 1) := by decide +kernel
theorem dX7_token_226 : decode cX7_token 226 = .ok (.if_icmp .ne 8, 3) := by decide +kernel
theorem dX7_token_229 : decode cX7_token 229 = .ok (.bipush (-5), 2) := by decide +kernel
theorem dX7_token_231 : decode cX7_token 231 = .ok (.goto 26, 3) := by decide +kernel
theorem dX7_token_234 : decode cX7_token 234 = .ok (.iload_n 1, 1) := by decide +kernel
theorem dX7_token_235 : decode cX7_token 235 = .ok (.iconst 2, 1) := by decide +kernel
theorem dX7_token_236 : decode cX7_token 236 = .ok (.if_icmp .ne 8, 3) := by decide +kernel
theorem dX7_token_239 : decode cX7_token 239 = .ok (.iload 5, 2) := by decide +kernel
theorem dX7_token_241 : decode cX7_token 241 = .ok (.goto 16, 3) := by decide +kernel
theorem dX7_token_244 : decode cX7_token 244 = .ok (.iload_n 1, 1) := by decide +kernel
theorem dX7_token_245 : decode cX7_token 245 = .ok (.iconst 3, 1) := by decide +kernel
theorem dX7_token_246 : decode cX7_token 246 = .ok (.if_icmp .ne 7, 3) := by decide +kernel
theorem dX7_token_249 : decode cX7_token 249 = .ok (.iload_n 3, 1) := by decide +kernel
theorem dX7_token_250 : decode cX7_token 250 = .ok (.goto 7, 3) := by decide +kernel
theorem dX7_token_253 : decode cX7_token 253 = .ok (.iload 5, 2) := by decide +kernel
theorem dX7_token_255 : decode cX7_token 255 = .ok (.iconst 2, 1) := by decide +kernel
theorem dX7_token_256 : decode cX7_token 256 = .ok (.irem, 1) := by decide +kernel
theorem dX7_token_257 : decode cX7_token 257 = .ok (.ireturn, 1) := by decide +kernel
set_option maxRecDepth 20000 in
theorem ggX7_placesThat_X7_of : GoodIn wsX7_placesThat wsX7_of := goodIn_r _ [6, 1, 7, 8, 9, 10, 11, 12, 13, 14, 15, 16, 17, 18, 19, 20, 21, 22, 23, 24, 25] (by decide +kernel) (by decide +kernel)
set_option maxRecDepth 20000 in
theorem gX7_placesThat_X7_of : GoodIn wsX7_placesThat (wsV RX7 48 RX7 yX7_of wsX7_of) := goodIn_app (goodIn_of _ (by decide +kernel)) ggX7_placesThat_X7_of
theorem dX7_placesThat_0 : decode cX7_placesThat 0 = .ok (.iconst 0, 1) := by decide +kernel
theorem dX7_placesThat_1 : decode cX7_placesThat 1 = .ok (.istore_n 2, 1) := by decide +kernel
theorem dX7_placesThat_2 : decode cX7_placesThat 2 = .ok (.iconst 0, 1) := by decide +kernel
theorem dX7_placesThat_3 : decode cX7_placesThat 3 = .ok (.istore_n 3, 1) := by decide +kernel
theorem dX7_placesThat_4 : decode cX7_placesThat 4 = .ok (.iload_n 3, 1) := by decide +kernel
theorem dX7_placesThat_5 : decode cX7_placesThat 5 = .ok (.aload_n 0, 1) := by decide +kernel
theorem dX7_placesThat_6 : decode cX7_placesThat 6 = .ok (.getfield 7, 3) := by decide +kernel
theorem dX7_placesThat_9 : decode cX7_placesThat 9 = .ok (.bipush 56, 2) := by decide +kernel
theorem dX7_placesThat_11 : decode cX7_placesThat 11 = .ok (.iaload, 1) := by decide +kernel
theorem dX7_placesThat_12 : decode cX7_placesThat 12 = .ok (.if_icmp .ge 86, 3) := by decide +kernel
theorem dX7_placesThat_15 : decode cX7_placesThat 15 = .ok (.iload_n 1, 1) := by decide +kernel
theorem dX7_placesThat_16 : decode cX7_placesThat 16 = .ok (.iconst 2, 1) := by decide +kernel
theorem dX7_placesThat_17 : decode cX7_placesThat 17 = .ok (.if_icmp .ne 20, 3) := by decide +kernel
theorem dX7_placesThat_20 : decode cX7_placesThat 20 = .ok (.aload_n 0, 1) := by decide +kernel
theorem dX7_placesThat_21 : decode cX7_placesThat 21 = .ok (.iload_n 3, 1) := by decide +kernel
theorem dX7_placesThat_22 : decode cX7_placesThat 22 = .ok (.iconst 0, 1) := by decide +kernel
theorem dX7_placesThat_23 : decode cX7_placesThat 23 = .ok (.invokevirtual 48, 3) := by decide +kernel
theorem dX7_placesThat_26 : decode cX7_placesThat 26 = .ok (.ifCond .ne 7, 3) := by decide +kernel
theorem dX7_placesThat_29 : decode cX7_placesThat 29 = .ok (.iconst 1, 1) := by decide +kernel
theorem dX7_placesThat_30 : decode cX7_placesThat 30 = .ok (.goto 45, 3) := by decide +kernel
theorem dX7_placesThat_33 : decode cX7_placesThat 33 = .ok (.iconst 0, 1) := by decide +kernel
theorem dX7_placesThat_34 : decode cX7_placesThat 34 = .ok (.goto 41, 3) := by decide +kernel
theorem dX7_placesThat_37 : decode cX7_placesThat 37 = .ok (.iload_n 1, 1) := by decide +kernel
theorem dX7_placesThat_38 : decode cX7_placesThat 38 = .ok (.iconst 3, 1) := by decide +kernel
theorem dX7_placesThat_39 : decode cX7_placesThat 39 = .ok (.if_icmp .ne 20, 3) := by decide +kernel
theorem dX7_placesThat_42 : decode cX7_placesThat 42 = .ok (.aload_n 0, 1) := by decide +kernel
theorem dX7_placesThat_43 : decode cX7_placesThat 43 = .ok (.iload_n 3, 1) := by decide +kernel
theorem dX7_placesThat_44 : decode cX7_placesThat 44 = .ok (.iconst 2, 1) := by decide +kernel
theorem dX7_placesThat_45 : decode cX7_placesThat 45 = .ok (.invokevirtual 48, 3) := by decide +kernel
theorem dX7_placesThat_48 : decode cX7_placesThat 48 = .ok (.ifCond .ne 7, 3) := by decide +kernel
theorem dX7_placesThat_51 : decode cX7_placesThat 51 = .ok (.iconst 1, 1) := by decide +kernel
theorem dX7_placesThat_52 : decode cX7_placesThat 52 = .ok (.goto 23, 3) := by decide +kernel
theorem dX7_placesThat_55 : decode cX7_placesThat 55 = .ok (.iconst 0, 1) := by decide +kernel
theorem dX7_placesThat_56 : decode cX7_placesThat 56 = .ok (.goto 19, 3) := by decide +kernel
theorem dX7_placesThat_59 : decode cX7_placesThat 59 = .ok (.aload_n 0, 1) := by decide +kernel
theorem dX7_placesThat_60 : decode cX7_placesThat 60 = .ok (.iload_n 3, 1) := by decide +kernel
theorem dX7_placesThat_61 : decode cX7_placesThat 61 = .ok (.iconst 3, 1) := by decide +kernel
theorem dX7_placesThat_62 : decode cX7_placesThat 62 = .ok (.invokevirtual 48, 3) := by decide +kernel
theorem dX7_placesThat_65 : decode cX7_placesThat 65 = .ok (.bipush 14, 2) := by decide +kernel
theorem dX7_placesThat_67 : decode cX7_placesThat 67 = .ok (.if_icmp .ge 7, 3) := by decide +kernel
theorem dX7_placesThat_70 : decode cX7_placesThat 70 = .ok (.iconst 1, 1) := by decide +kernel
theorem dX7_placesThat_71 : decode cX7_placesThat 71 = .ok (.goto 4, 3) := by decide +kernel
theorem dX7_placesThat_74 : decode cX7_placesThat 74 = .ok (.iconst 0, 1) := by decide +kernel
theorem dX7_placesThat_75 : decode cX7_placesThat 75 = .ok (.istore 4, 2) := by decide +kernel
theorem dX7_placesThat_77 : decode cX7_placesThat 77 = .ok (.iload_n 2, 1) := by decide +kernel
theorem dX7_placesThat_78 : decode cX7_placesThat 78 = .ok (.iload 4, 2) := by decide +kernel
theorem dX7_placesThat_80 : decode cX7_placesThat 80 = .ok (.ifCond .eq 9, 3) := by decide +kernel
theorem dX7_placesThat_83 : decode cX7_placesThat 83 = .ok (.iconst 1, 1) := by decide +kernel
theorem dX7_placesThat_84 : decode cX7_placesThat 84 = .ok (.iload_n 3, 1) := by decide +kernel
theorem dX7_placesThat_85 : decode cX7_placesThat 85 = .ok (.ishl, 1) := by decide +kernel
theorem dX7_placesThat_86 : decode cX7_placesThat 86 = .ok (.goto 4, 3) := by decide +kernel
theorem dX7_placesThat_89 : decode cX7_placesThat 89 = .ok (.iconst 0, 1) := by decide +kernel
theorem dX7_placesThat_90 : decode cX7_placesThat 90 = .ok (.ior, 1) := by decide +kernel
theorem dX7_placesThat_91 : decode cX7_placesThat 91 = .ok (.istore_n 2, 1) := by decide +kernel
theorem dX7_placesThat_92 : decode cX7_placesThat 92 = .ok (.iinc 3 1, 3) := by decide +kernel
theorem dX7_placesThat_95 : decode cX7_placesThat 95 = .ok (.goto (-91), 3) := by decide +kernel
theorem dX7_placesThat_98 : decode cX7_placesThat 98 = .ok (.iload_n 2, 1) := by decide +kernel
theorem dX7_placesThat_99 : decode cX7_placesThat 99 = .ok (.ireturn, 1) := by decide +kernel
set_option maxRecDepth 20000 in
theorem ggX7_leastColour_X7_of : GoodIn wsX7_leastColour wsX7_of := goodIn_r _ [6, 1, 7, 8, 9, 10, 11, 12, 13, 14, 15, 16, 17, 18, 19, 20, 21, 22, 23, 24, 25] (by decide +kernel) (by decide +kernel)
set_option maxRecDepth 20000 in
theorem gX7_leastColour_X7_of : GoodIn wsX7_leastColour (wsV RX7 48 RX7 yX7_of wsX7_of) := goodIn_app (goodIn_of _ (by decide +kernel)) ggX7_leastColour_X7_of
theorem dX7_leastColour_0 : decode cX7_leastColour 0 = .ok (.bipush (-5), 2) := by decide +kernel
theorem dX7_leastColour_2 : decode cX7_leastColour 2 = .ok (.istore_n 1, 1) := by decide +kernel
theorem dX7_leastColour_3 : decode cX7_leastColour 3 = .ok (.iconst 0, 1) := by decide +kernel
theorem dX7_leastColour_4 : decode cX7_leastColour 4 = .ok (.istore_n 2, 1) := by decide +kernel
theorem dX7_leastColour_5 : decode cX7_leastColour 5 = .ok (.iload_n 2, 1) := by decide +kernel
theorem dX7_leastColour_6 : decode cX7_leastColour 6 = .ok (.aload_n 0, 1) := by decide +kernel
theorem dX7_leastColour_7 : decode cX7_leastColour 7 = .ok (.getfield 7, 3) := by decide +kernel
theorem dX7_leastColour_10 : decode cX7_leastColour 10 = .ok (.bipush 56, 2) := by decide +kernel
theorem dX7_leastColour_12 : decode cX7_leastColour 12 = .ok (.iaload, 1) := by decide +kernel
theorem dX7_leastColour_13 : decode cX7_leastColour 13 = .ok (.if_icmp .ge 36, 3) := by decide +kernel
theorem dX7_leastColour_16 : decode cX7_leastColour 16 = .ok (.iload_n 1, 1) := by decide +kernel
theorem dX7_leastColour_17 : decode cX7_leastColour 17 = .ok (.bipush (-5), 2) := by decide +kernel
theorem dX7_leastColour_19 : decode cX7_leastColour 19 = .ok (.if_icmp .eq 13, 3) := by decide +kernel
theorem dX7_leastColour_22 : decode cX7_leastColour 22 = .ok (.aload_n 0, 1) := by decide +kernel
theorem dX7_leastColour_23 : decode cX7_leastColour 23 = .ok (.iload_n 2, 1) := by decide +kernel
theorem dX7_leastColour_24 : decode cX7_leastColour 24 = .ok (.iconst 1, 1) := by decide +kernel
theorem dX7_leastColour_25 : decode cX7_leastColour 25 = .ok (.invokevirtual 48, 3) := by decide +kernel
theorem dX7_leastColour_28 : decode cX7_leastColour 28 = .ok (.iload_n 1, 1) := by decide +kernel
theorem dX7_leastColour_29 : decode cX7_leastColour 29 = .ok (.if_icmp .ge 12, 3) := by decide +kernel
theorem dX7_leastColour_32 : decode cX7_leastColour 32 = .ok (.aload_n 0, 1) := by decide +kernel
theorem dX7_leastColour_33 : decode cX7_leastColour 33 = .ok (.iload_n 2, 1) := by decide +kernel
theorem dX7_leastColour_34 : decode cX7_leastColour 34 = .ok (.iconst 1, 1) := by decide +kernel
theorem dX7_leastColour_35 : decode cX7_leastColour 35 = .ok (.invokevirtual 48, 3) := by decide +kernel
theorem dX7_leastColour_38 : decode cX7_leastColour 38 = .ok (.goto 4, 3) := by decide +kernel
theorem dX7_leastColour_41 : decode cX7_leastColour 41 = .ok (.iload_n 1, 1) := by decide +kernel
theorem dX7_leastColour_42 : decode cX7_leastColour 42 = .ok (.istore_n 1, 1) := by decide +kernel
theorem dX7_leastColour_43 : decode cX7_leastColour 43 = .ok (.iinc 2 1, 3) := by decide +kernel
theorem dX7_leastColour_46 : decode cX7_leastColour 46 = .ok (.goto (-41), 3) := by decide +kernel
theorem dX7_leastColour_49 : decode cX7_leastColour 49 = .ok (.iload_n 1, 1) := by decide +kernel
theorem dX7_leastColour_50 : decode cX7_leastColour 50 = .ok (.ireturn, 1) := by decide +kernel
set_option maxRecDepth 20000 in
theorem ggX7_count_X7_arrows : GoodIn wsX7_count wsX7_arrows := goodIn_r _ [8, 1, 9, 10, 11, 7, 12, 13, 14, 15, 24, 25, 26, 27, 28, 29, 30, 31, 32, 33, 34, 35, 36, 37, 38, 39, 40, 41, 42] (by decide +kernel) (by decide +kernel)
set_option maxRecDepth 20000 in
theorem gX7_count_X7_arrows : GoodIn wsX7_count (wsV RX7 108 RX7 yX7_arrows wsX7_arrows) := goodIn_app (goodIn_of _ (by decide +kernel)) ggX7_count_X7_arrows
set_option maxRecDepth 20000 in
theorem ggX7_count_X7_placesThat : GoodIn wsX7_count wsX7_placesThat := goodIn_r _ [19, 1, 9, 10, 11, 7, 12, 24, 25, 26, 27, 28, 29, 30, 31, 32, 33, 34, 35, 36, 37, 38, 39, 40, 41, 42] (by decide +kernel) (by decide +kernel)
set_option maxRecDepth 20000 in
theorem gX7_count_X7_placesThat : GoodIn wsX7_count (wsV RX7 182 RX7 yX7_placesThat wsX7_placesThat) := goodIn_app (goodIn_of _ (by decide +kernel)) ggX7_count_X7_placesThat
set_option maxRecDepth 20000 in
theorem ggX7_count_X7_bits : GoodIn wsX7_count wsX7_bits := goodIn_r _ [15] (by decide +kernel) (by decide +kernel)
set_option maxRecDepth 20000 in
theorem gX7_count_X7_bits : GoodIn wsX7_count (va_wsS RX7 52 yX7_bits wsX7_bits) := goodIn_app (goodIn_of _ (by decide +kernel)) ggX7_count_X7_bits
set_option maxRecDepth 20000 in
theorem ggX7_count_X7_leastColour : GoodIn wsX7_count wsX7_leastColour := goodIn_r _ [23, 1, 9, 10, 11, 7, 12, 24, 25, 26, 27, 28, 29, 30, 31, 32, 33, 34, 35, 36, 37, 38, 39, 40, 41, 42] (by decide +kernel) (by decide +kernel)
set_option maxRecDepth 20000 in
theorem gX7_count_X7_leastColour : GoodIn wsX7_count (wsV RX7 185 RX7 yX7_leastColour wsX7_leastColour) := goodIn_app (goodIn_of _ (by decide +kernel)) ggX7_count_X7_leastColour
theorem dX7_count_0 : decode cX7_count 0 = .ok (.iload_n 1, 1) := by decide +kernel
theorem dX7_count_1 : decode cX7_count 1 = .ok (.tableswitch 111 0 8 #[51, 59, 64, 73, 79, 84, 93, 101, 106], 51) := by decide +kernel
theorem dX7_count_52 : decode cX7_count 52 = .ok (.aload_n 0, 1) := by decide +kernel
theorem dX7_count_53 : decode cX7_count 53 = .ok (.getfield 7, 3) := by decide +kernel
theorem dX7_count_56 : decode cX7_count 56 = .ok (.bipush 56, 2) := by decide +kernel
theorem dX7_count_58 : decode cX7_count 58 = .ok (.iaload, 1) := by decide +kernel
theorem dX7_count_59 : decode cX7_count 59 = .ok (.ireturn, 1) := by decide +kernel
theorem dX7_count_60 : decode cX7_count 60 = .ok (.aload_n 0, 1) := by decide +kernel
theorem dX7_count_61 : decode cX7_count 61 = .ok (.invokevirtual 108, 3) := by decide +kernel
theorem dX7_count_64 : decode cX7_count 64 = .ok (.ireturn, 1) := by decide +kernel
theorem dX7_count_65 : decode cX7_count 65 = .ok (.aload_n 0, 1) := by decide +kernel
theorem dX7_count_66 : decode cX7_count 66 = .ok (.iconst 2, 1) := by decide +kernel
theorem dX7_count_67 : decode cX7_count 67 = .ok (.invokevirtual 182, 3) := by decide +kernel
theorem dX7_count_70 : decode cX7_count 70 = .ok (.invokestatic 52, 3) := by decide +kernel
theorem dX7_count_73 : decode cX7_count 73 = .ok (.ireturn, 1) := by decide +kernel
theorem dX7_count_74 : decode cX7_count 74 = .ok (.aload_n 0, 1) := by decide +kernel
theorem dX7_count_75 : decode cX7_count 75 = .ok (.iconst 3, 1) := by decide +kernel
theorem dX7_count_76 : decode cX7_count 76 = .ok (.invokevirtual 182, 3) := by decide +kernel
theorem dX7_count_79 : decode cX7_count 79 = .ok (.ireturn, 1) := by decide +kernel
theorem dX7_count_80 : decode cX7_count 80 = .ok (.aload_n 0, 1) := by decide +kernel
theorem dX7_count_81 : decode cX7_count 81 = .ok (.invokevirtual 185, 3) := by decide +kernel
theorem dX7_count_84 : decode cX7_count 84 = .ok (.ireturn, 1) := by decide +kernel
theorem dX7_count_85 : decode cX7_count 85 = .ok (.aload_n 0, 1) := by decide +kernel
theorem dX7_count_86 : decode cX7_count 86 = .ok (.iconst 5, 1) := by decide +kernel
theorem dX7_count_87 : decode cX7_count 87 = .ok (.invokevirtual 182, 3) := by decide +kernel
theorem dX7_count_90 : decode cX7_count 90 = .ok (.invokestatic 52, 3) := by decide +kernel
theorem dX7_count_93 : decode cX7_count 93 = .ok (.ireturn, 1) := by decide +kernel
theorem dX7_count_94 : decode cX7_count 94 = .ok (.aload_n 0, 1) := by decide +kernel
theorem dX7_count_95 : decode cX7_count 95 = .ok (.getfield 7, 3) := by decide +kernel
theorem dX7_count_98 : decode cX7_count 98 = .ok (.bipush 58, 2) := by decide +kernel
theorem dX7_count_100 : decode cX7_count 100 = .ok (.iaload, 1) := by decide +kernel
theorem dX7_count_101 : decode cX7_count 101 = .ok (.ireturn, 1) := by decide +kernel
theorem dX7_count_102 : decode cX7_count 102 = .ok (.aload_n 0, 1) := by decide +kernel
theorem dX7_count_103 : decode cX7_count 103 = .ok (.getfield 56, 3) := by decide +kernel
theorem dX7_count_106 : decode cX7_count 106 = .ok (.ireturn, 1) := by decide +kernel
theorem dX7_count_107 : decode cX7_count 107 = .ok (.aload_n 0, 1) := by decide +kernel
theorem dX7_count_108 : decode cX7_count 108 = .ok (.getfield 126, 3) := by decide +kernel
theorem dX7_count_111 : decode cX7_count 111 = .ok (.ireturn, 1) := by decide +kernel
theorem dX7_count_112 : decode cX7_count 112 = .ok (.bipush (-2), 2) := by decide +kernel
theorem dX7_count_114 : decode cX7_count 114 = .ok (.ireturn, 1) := by decide +kernel
