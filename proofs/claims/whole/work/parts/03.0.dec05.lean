theorem dX0_init_0 : decode cX0_init 0 = .ok (.aload_n 0, 1) := by decide +kernel
theorem dX0_init_1 : decode cX0_init 1 = .ok (.invokespecial 3, 3) := by decide +kernel
theorem dX0_init_4 : decode cX0_init 4 = .ok (.aload_n 0, 1) := by decide +kernel
theorem dX0_init_5 : decode cX0_init 5 = .ok (.bipush 60, 2) := by decide +kernel
theorem dX0_init_7 : decode cX0_init 7 = .ok (.newarray .char, 2) := by decide +kernel
theorem dX0_init_9 : decode cX0_init 9 = .ok (.putfield 9, 3) := by decide +kernel
theorem dX0_init_12 : decode cX0_init 12 = .ok (.return_, 1) := by decide +kernel
theorem dX0_append_0 : decode cX0_append 0 = .ok (.aload_n 0, 1) := by decide +kernel
theorem dX0_append_1 : decode cX0_append 1 = .ok (.getfield 15, 3) := by decide +kernel
theorem dX0_append_4 : decode cX0_append 4 = .ok (.bipush 60, 2) := by decide +kernel
theorem dX0_append_6 : decode cX0_append 6 = .ok (.if_icmp .lt 5, 3) := by decide +kernel
theorem dX0_append_9 : decode cX0_append 9 = .ok (.iconst 0, 1) := by decide +kernel
theorem dX0_append_10 : decode cX0_append 10 = .ok (.ireturn, 1) := by decide +kernel
theorem dX0_append_11 : decode cX0_append 11 = .ok (.aload_n 0, 1) := by decide +kernel
theorem dX0_append_12 : decode cX0_append 12 = .ok (.getfield 9, 3) := by decide +kernel
theorem dX0_append_15 : decode cX0_append 15 = .ok (.aload_n 0, 1) := by decide +kernel
theorem dX0_append_16 : decode cX0_append 16 = .ok (.getfield 15, 3) := by decide +kernel
theorem dX0_append_19 : decode cX0_append 19 = .ok (.iload_n 1, 1) := by decide +kernel
theorem dX0_append_20 : decode cX0_append 20 = .ok (.castore, 1) := by decide +kernel
theorem dX0_append_21 : decode cX0_append 21 = .ok (.aload_n 0, 1) := by decide +kernel
theorem dX0_append_22 : decode cX0_append 22 = .ok (.dup, 1) := by decide +kernel
theorem dX0_append_23 : decode cX0_append 23 = .ok (.getfield 15, 3) := by decide +kernel
theorem dX0_append_26 : decode cX0_append 26 = .ok (.iconst 1, 1) := by decide +kernel
theorem dX0_append_27 : decode cX0_append 27 = .ok (.iadd, 1) := by decide +kernel
theorem dX0_append_28 : decode cX0_append 28 = .ok (.putfield 15, 3) := by decide +kernel
theorem dX0_append_31 : decode cX0_append 31 = .ok (.iconst 1, 1) := by decide +kernel
theorem dX0_append_32 : decode cX0_append 32 = .ok (.ireturn, 1) := by decide +kernel
theorem dX0_isDigit_0 : decode cX0_isDigit 0 = .ok (.iload_n 0, 1) := by decide +kernel
theorem dX0_isDigit_1 : decode cX0_isDigit 1 = .ok (.bipush 48, 2) := by decide +kernel
theorem dX0_isDigit_3 : decode cX0_isDigit 3 = .ok (.if_icmp .lt 13, 3) := by decide +kernel
theorem dX0_isDigit_6 : decode cX0_isDigit 6 = .ok (.iload_n 0, 1) := by decide +kernel
theorem dX0_isDigit_7 : decode cX0_isDigit 7 = .ok (.bipush 57, 2) := by decide +kernel
theorem dX0_isDigit_9 : decode cX0_isDigit 9 = .ok (.if_icmp .gt 7, 3) := by decide +kernel
theorem dX0_isDigit_12 : decode cX0_isDigit 12 = .ok (.iconst 1, 1) := by decide +kernel
theorem dX0_isDigit_13 : decode cX0_isDigit 13 = .ok (.goto 4, 3) := by decide +kernel
theorem dX0_isDigit_16 : decode cX0_isDigit 16 = .ok (.iconst 0, 1) := by decide +kernel
theorem dX0_isDigit_17 : decode cX0_isDigit 17 = .ok (.ireturn, 1) := by decide +kernel
theorem dX0_isSignBehind_0 : decode cX0_isSignBehind 0 = .ok (.iload_n 1, 1) := by decide +kernel
theorem dX0_isSignBehind_1 : decode cX0_isSignBehind 1 = .ok (.ifCond .eq 23, 3) := by decide +kernel
theorem dX0_isSignBehind_4 : decode cX0_isSignBehind 4 = .ok (.iload_n 0, 1) := by decide +kernel
theorem dX0_isSignBehind_5 : decode cX0_isSignBehind 5 = .ok (.bipush 44, 2) := by decide +kernel
theorem dX0_isSignBehind_7 : decode cX0_isSignBehind 7 = .ok (.if_icmp .eq 9, 3) := by decide +kernel
theorem dX0_isSignBehind_10 : decode cX0_isSignBehind 10 = .ok (.iload_n 0, 1) := by decide +kernel
theorem dX0_isSignBehind_11 : decode cX0_isSignBehind 11 = .ok (.bipush 59, 2) := by decide +kernel
theorem dX0_isSignBehind_13 : decode cX0_isSignBehind 13 = .ok (.if_icmp .ne 7, 3) := by decide +kernel
theorem dX0_isSignBehind_16 : decode cX0_isSignBehind 16 = .ok (.iconst 1, 1) := by decide +kernel
theorem dX0_isSignBehind_17 : decode cX0_isSignBehind 17 = .ok (.goto 18, 3) := by decide +kernel
theorem dX0_isSignBehind_20 : decode cX0_isSignBehind 20 = .ok (.iconst 0, 1) := by decide +kernel
theorem dX0_isSignBehind_21 : decode cX0_isSignBehind 21 = .ok (.goto 14, 3) := by decide +kernel
theorem dX0_isSignBehind_24 : decode cX0_isSignBehind 24 = .ok (.iload_n 0, 1) := by decide +kernel
theorem dX0_isSignBehind_25 : decode cX0_isSignBehind 25 = .ok (.bipush 62, 2) := by decide +kernel
theorem dX0_isSignBehind_27 : decode cX0_isSignBehind 27 = .ok (.if_icmp .ne 7, 3) := by decide +kernel
theorem dX0_isSignBehind_30 : decode cX0_isSignBehind 30 = .ok (.iconst 1, 1) := by decide +kernel
theorem dX0_isSignBehind_31 : decode cX0_isSignBehind 31 = .ok (.goto 4, 3) := by decide +kernel
theorem dX0_isSignBehind_34 : decode cX0_isSignBehind 34 = .ok (.iconst 0, 1) := by decide +kernel
theorem dX0_isSignBehind_35 : decode cX0_isSignBehind 35 = .ok (.ireturn, 1) := by decide +kernel
set_option maxRecDepth 20000 in
theorem ggX0_fault_X0_isDigit : GoodIn wsX0_fault wsX0_isDigit := goodIn_r _ [6] (by decide +kernel) (by decide +kernel)
set_option maxRecDepth 20000 in
theorem gX0_fault_X0_isDigit : GoodIn wsX0_fault (va_wsS RX0 19 yX0_isDigit wsX0_isDigit) := goodIn_app (goodIn_of _ (by decide +kernel)) ggX0_fault_X0_isDigit
set_option maxRecDepth 20000 in
theorem ggX0_fault_X0_isSignBehind : GoodIn wsX0_fault wsX0_isSignBehind := goodIn_r _ [9] (by decide +kernel) (by decide +kernel)
set_option maxRecDepth 20000 in
theorem gX0_fault_X0_isSignBehind : GoodIn wsX0_fault (va_wsS RX0 23 yX0_isSignBehind wsX0_isSignBehind) := goodIn_app (goodIn_of _ (by decide +kernel)) ggX0_fault_X0_isSignBehind
theorem dX0_fault_0 : decode cX0_fault 0 = .ok (.iconst 0, 1) := by decide +kernel
theorem dX0_fault_1 : decode cX0_fault 1 = .ok (.istore_n 1, 1) := by decide +kernel
theorem dX0_fault_2 : decode cX0_fault 2 = .ok (.iconst 0, 1) := by decide +kernel
theorem dX0_fault_3 : decode cX0_fault 3 = .ok (.istore_n 2, 1) := by decide +kernel
theorem dX0_fault_4 : decode cX0_fault 4 = .ok (.iconst 0, 1) := by decide +kernel
theorem dX0_fault_5 : decode cX0_fault 5 = .ok (.istore_n 3, 1) := by decide +kernel
theorem dX0_fault_6 : decode cX0_fault 6 = .ok (.iload_n 3, 1) := by decide +kernel
theorem dX0_fault_7 : decode cX0_fault 7 = .ok (.aload_n 0, 1) := by decide +kernel
theorem dX0_fault_8 : decode cX0_fault 8 = .ok (.getfield 15, 3) := by decide +kernel
theorem dX0_fault_11 : decode cX0_fault 11 = .ok (.if_icmp .ge 95, 3) := by decide +kernel
theorem dX0_fault_14 : decode cX0_fault 14 = .ok (.aload_n 0, 1) := by decide +kernel
theorem dX0_fault_15 : decode cX0_fault 15 = .ok (.getfield 9, 3) := by decide +kernel
theorem dX0_fault_18 : decode cX0_fault 18 = .ok (.iload_n 3, 1) := by decide +kernel
theorem dX0_fault_19 : decode cX0_fault 19 = .ok (.caload, 1) := by decide +kernel
theorem dX0_fault_20 : decode cX0_fault 20 = .ok (.istore 4, 2) := by decide +kernel
theorem dX0_fault_22 : decode cX0_fault 22 = .ok (.iload 4, 2) := by decide +kernel
theorem dX0_fault_24 : decode cX0_fault 24 = .ok (.invokestatic 19, 3) := by decide +kernel
theorem dX0_fault_27 : decode cX0_fault 27 = .ok (.ifCond .eq 40, 3) := by decide +kernel
theorem dX0_fault_30 : decode cX0_fault 30 = .ok (.iload_n 1, 1) := by decide +kernel
theorem dX0_fault_31 : decode cX0_fault 31 = .ok (.iconst 2, 1) := by decide +kernel
theorem dX0_fault_32 : decode cX0_fault 32 = .ok (.if_icmp .eq 35, 3) := by decide +kernel
theorem dX0_fault_35 : decode cX0_fault 35 = .ok (.iload_n 1, 1) := by decide +kernel
theorem dX0_fault_36 : decode cX0_fault 36 = .ok (.ifCond .ne 14, 3) := by decide +kernel
theorem dX0_fault_39 : decode cX0_fault 39 = .ok (.iload 4, 2) := by decide +kernel
theorem dX0_fault_41 : decode cX0_fault 41 = .ok (.bipush 48, 2) := by decide +kernel
theorem dX0_fault_43 : decode cX0_fault 43 = .ok (.if_icmp .eq 7, 3) := by decide +kernel
theorem dX0_fault_46 : decode cX0_fault 46 = .ok (.iconst 1, 1) := by decide +kernel
theorem dX0_fault_47 : decode cX0_fault 47 = .ok (.goto 4, 3) := by decide +kernel
theorem dX0_fault_50 : decode cX0_fault 50 = .ok (.iconst 0, 1) := by decide +kernel
theorem dX0_fault_51 : decode cX0_fault 51 = .ok (.istore 5, 2) := by decide +kernel
theorem dX0_fault_53 : decode cX0_fault 53 = .ok (.iload 5, 2) := by decide +kernel
theorem dX0_fault_55 : decode cX0_fault 55 = .ok (.ifCond .eq 7, 3) := by decide +kernel
theorem dX0_fault_58 : decode cX0_fault 58 = .ok (.iconst 1, 1) := by decide +kernel
theorem dX0_fault_59 : decode cX0_fault 59 = .ok (.goto 4, 3) := by decide +kernel
theorem dX0_fault_62 : decode cX0_fault 62 = .ok (.iconst 2, 1) := by decide +kernel
theorem dX0_fault_63 : decode cX0_fault 63 = .ok (.istore_n 1, 1) := by decide +kernel
theorem dX0_fault_64 : decode cX0_fault 64 = .ok (.goto 36, 3) := by decide +kernel
theorem dX0_fault_67 : decode cX0_fault 67 = .ok (.iload_n 1, 1) := by decide +kernel
theorem dX0_fault_68 : decode cX0_fault 68 = .ok (.ifCond .eq 30, 3) := by decide +kernel
theorem dX0_fault_71 : decode cX0_fault 71 = .ok (.iload 4, 2) := by decide +kernel
theorem dX0_fault_73 : decode cX0_fault 73 = .ok (.iload_n 2, 1) := by decide +kernel
theorem dX0_fault_74 : decode cX0_fault 74 = .ok (.invokestatic 23, 3) := by decide +kernel
theorem dX0_fault_77 : decode cX0_fault 77 = .ok (.ifCond .eq 21, 3) := by decide +kernel
theorem dX0_fault_80 : decode cX0_fault 80 = .ok (.iconst 0, 1) := by decide +kernel
theorem dX0_fault_81 : decode cX0_fault 81 = .ok (.istore_n 1, 1) := by decide +kernel
theorem dX0_fault_82 : decode cX0_fault 82 = .ok (.iload 4, 2) := by decide +kernel
theorem dX0_fault_84 : decode cX0_fault 84 = .ok (.bipush 59, 2) := by decide +kernel
theorem dX0_fault_86 : decode cX0_fault 86 = .ok (.if_icmp .eq 7, 3) := by decide +kernel
theorem dX0_fault_89 : decode cX0_fault 89 = .ok (.iconst 1, 1) := by decide +kernel
theorem dX0_fault_90 : decode cX0_fault 90 = .ok (.goto 4, 3) := by decide +kernel
theorem dX0_fault_93 : decode cX0_fault 93 = .ok (.iconst 0, 1) := by decide +kernel
theorem dX0_fault_94 : decode cX0_fault 94 = .ok (.istore_n 2, 1) := by decide +kernel
theorem dX0_fault_95 : decode cX0_fault 95 = .ok (.goto 5, 3) := by decide +kernel
theorem dX0_fault_98 : decode cX0_fault 98 = .ok (.iload_n 3, 1) := by decide +kernel
theorem dX0_fault_99 : decode cX0_fault 99 = .ok (.ireturn, 1) := by decide +kernel
theorem dX0_fault_100 : decode cX0_fault 100 = .ok (.iinc 3 1, 3) := by decide +kernel
theorem dX0_fault_103 : decode cX0_fault 103 = .ok (.goto (-97), 3) := by decide +kernel
theorem dX0_fault_106 : decode cX0_fault 106 = .ok (.iload_n 2, 1) := by decide +kernel
theorem dX0_fault_107 : decode cX0_fault 107 = .ok (.ifCond .eq 11, 3) := by decide +kernel
theorem dX0_fault_110 : decode cX0_fault 110 = .ok (.iload_n 1, 1) := by decide +kernel
theorem dX0_fault_111 : decode cX0_fault 111 = .ok (.ifCond .eq 7, 3) := by decide +kernel
theorem dX0_fault_114 : decode cX0_fault 114 = .ok (.iconst (-1), 1) := by decide +kernel
theorem dX0_fault_115 : decode cX0_fault 115 = .ok (.goto 7, 3) := by decide +kernel
theorem dX0_fault_118 : decode cX0_fault 118 = .ok (.aload_n 0, 1) := by decide +kernel
theorem dX0_fault_119 : decode cX0_fault 119 = .ok (.getfield 15, 3) := by decide +kernel
theorem dX0_fault_122 : decode cX0_fault 122 = .ok (.ireturn, 1) := by decide +kernel
set_option maxRecDepth 20000 in
theorem ggX0_drawInto_X0_isDigit : GoodIn wsX0_drawInto wsX0_isDigit := goodIn_r _ [7] (by decide +kernel) (by decide +kernel)
set_option maxRecDepth 20000 in
theorem gX0_drawInto_X0_isDigit : GoodIn wsX0_drawInto (va_wsS RX0 19 yX0_isDigit wsX0_isDigit) := goodIn_app (goodIn_of _ (by decide +kernel)) ggX0_drawInto_X0_isDigit
set_option maxRecDepth 20000 in
theorem ggX0_drawInto_X1_has : GoodIn wsX0_drawInto wsX1_has := goodIn_r _ [12, 13, 19, 20, 21, 22] (by decide +kernel) (by decide +kernel)
set_option maxRecDepth 20000 in
theorem gX0_drawInto_X1_has : GoodIn wsX0_drawInto (wsV RX0 27 RX1 yX1_has wsX1_has) := goodIn_app (goodIn_of _ (by decide +kernel)) ggX0_drawInto_X1_has
set_option maxRecDepth 20000 in
theorem ggX0_drawInto_X6_bit : GoodIn wsX0_drawInto wsX6_bit := goodIn_r _ [16] (by decide +kernel) (by decide +kernel)
set_option maxRecDepth 20000 in
theorem gX0_drawInto_X6_bit_n37 : GoodIn wsX0_drawInto (wsX6_bit) := ggX0_drawInto_X6_bit
theorem dX0_drawInto_0 : decode cX0_drawInto 0 = .ok (.iconst 0, 1) := by decide +kernel
theorem dX0_drawInto_1 : decode cX0_drawInto 1 = .ok (.istore_n 2, 1) := by decide +kernel
theorem dX0_drawInto_2 : decode cX0_drawInto 2 = .ok (.iconst 0, 1) := by decide +kernel
theorem dX0_drawInto_3 : decode cX0_drawInto 3 = .ok (.istore_n 3, 1) := by decide +kernel
theorem dX0_drawInto_4 : decode cX0_drawInto 4 = .ok (.iconst 0, 1) := by decide +kernel
theorem dX0_drawInto_5 : decode cX0_drawInto 5 = .ok (.istore 4, 2) := by decide +kernel
theorem dX0_drawInto_7 : decode cX0_drawInto 7 = .ok (.iload 4, 2) := by decide +kernel
theorem dX0_drawInto_9 : decode cX0_drawInto 9 = .ok (.aload_n 0, 1) := by decide +kernel
theorem dX0_drawInto_10 : decode cX0_drawInto 10 = .ok (.getfield 15, 3) := by decide +kernel
theorem dX0_drawInto_13 : decode cX0_drawInto 13 = .ok (.if_icmp .gt 91, 3) := by decide +kernel
theorem dX0_drawInto_16 : decode cX0_drawInto 16 = .ok (.iload 4, 2) := by decide +kernel
theorem dX0_drawInto_18 : decode cX0_drawInto 18 = .ok (.aload_n 0, 1) := by decide +kernel
theorem dX0_drawInto_19 : decode cX0_drawInto 19 = .ok (.getfield 15, 3) := by decide +kernel
theorem dX0_drawInto_22 : decode cX0_drawInto 22 = .ok (.if_icmp .ge 13, 3) := by decide +kernel
theorem dX0_drawInto_25 : decode cX0_drawInto 25 = .ok (.aload_n 0, 1) := by decide +kernel
theorem dX0_drawInto_26 : decode cX0_drawInto 26 = .ok (.getfield 9, 3) := by decide +kernel
theorem dX0_drawInto_29 : decode cX0_drawInto 29 = .ok (.iload 4, 2) := by decide +kernel
theorem dX0_drawInto_31 : decode cX0_drawInto 31 = .ok (.caload, 1) := by decide +kernel
theorem dX0_drawInto_32 : decode cX0_drawInto 32 = .ok (.goto 5, 3) := by decide +kernel
theorem dX0_drawInto_35 : decode cX0_drawInto 35 = .ok (.bipush 59, 2) := by decide +kernel
theorem dX0_drawInto_37 : decode cX0_drawInto 37 = .ok (.istore 5, 2) := by decide +kernel
theorem dX0_drawInto_39 : decode cX0_drawInto 39 = .ok (.iload 5, 2) := by decide +kernel
theorem dX0_drawInto_41 : decode cX0_drawInto 41 = .ok (.invokestatic 19, 3) := by decide +kernel
theorem dX0_drawInto_44 : decode cX0_drawInto 44 = .ok (.ifCond .eq 17, 3) := by decide +kernel
theorem dX0_drawInto_47 : decode cX0_drawInto 47 = .ok (.iload_n 3, 1) := by decide +kernel
theorem dX0_drawInto_48 : decode cX0_drawInto 48 = .ok (.bipush 10, 2) := by decide +kernel
theorem dX0_drawInto_50 : decode cX0_drawInto 50 = .ok (.imul, 1) := by decide +kernel
theorem dX0_drawInto_51 : decode cX0_drawInto 51 = .ok (.iload 5, 2) := by decide +kernel
theorem dX0_drawInto_53 : decode cX0_drawInto 53 = .ok (.bipush 48, 2) := by decide +kernel
theorem dX0_drawInto_55 : decode cX0_drawInto 55 = .ok (.isub, 1) := by decide +kernel
theorem dX0_drawInto_56 : decode cX0_drawInto 56 = .ok (.iadd, 1) := by decide +kernel
theorem dX0_drawInto_57 : decode cX0_drawInto 57 = .ok (.istore_n 3, 1) := by decide +kernel
theorem dX0_drawInto_58 : decode cX0_drawInto 58 = .ok (.goto 40, 3) := by decide +kernel
theorem dX0_drawInto_61 : decode cX0_drawInto 61 = .ok (.aload_n 1, 1) := by decide +kernel
theorem dX0_drawInto_62 : decode cX0_drawInto 62 = .ok (.iload_n 3, 1) := by decide +kernel
theorem dX0_drawInto_63 : decode cX0_drawInto 63 = .ok (.invokevirtual 27, 3) := by decide +kernel
theorem dX0_drawInto_66 : decode cX0_drawInto 66 = .ok (.ifCond .ne 5, 3) := by decide +kernel
theorem dX0_drawInto_69 : decode cX0_drawInto 69 = .ok (.iconst 0, 1) := by decide +kernel
theorem dX0_drawInto_70 : decode cX0_drawInto 70 = .ok (.ireturn, 1) := by decide +kernel
theorem dX0_drawInto_71 : decode cX0_drawInto 71 = .ok (.iload 5, 2) := by decide +kernel
theorem dX0_drawInto_73 : decode cX0_drawInto 73 = .ok (.bipush 62, 2) := by decide +kernel
theorem dX0_drawInto_75 : decode cX0_drawInto 75 = .ok (.if_icmp .ne 8, 3) := by decide +kernel
theorem dX0_drawInto_78 : decode cX0_drawInto 78 = .ok (.iload_n 3, 1) := by decide +kernel
theorem dX0_drawInto_79 : decode cX0_drawInto 79 = .ok (.istore_n 2, 1) := by decide +kernel
theorem dX0_drawInto_80 : decode cX0_drawInto 80 = .ok (.goto 16, 3) := by decide +kernel
theorem dX0_drawInto_83 : decode cX0_drawInto 83 = .ok (.aload_n 1, 1) := by decide +kernel
theorem dX0_drawInto_84 : decode cX0_drawInto 84 = .ok (.getfield 33, 3) := by decide +kernel
theorem dX0_drawInto_87 : decode cX0_drawInto 87 = .ok (.iload_n 2, 1) := by decide +kernel
theorem dX0_drawInto_88 : decode cX0_drawInto 88 = .ok (.dup2, 1) := by decide +kernel
theorem dX0_drawInto_89 : decode cX0_drawInto 89 = .ok (.iaload, 1) := by decide +kernel
theorem dX0_drawInto_90 : decode cX0_drawInto 90 = .ok (.iload_n 3, 1) := by decide +kernel
theorem dX0_drawInto_91 : decode cX0_drawInto 91 = .ok (.invokestatic 37, 3) := by decide +kernel
theorem dX0_drawInto_94 : decode cX0_drawInto 94 = .ok (.ior, 1) := by decide +kernel
theorem dX0_drawInto_95 : decode cX0_drawInto 95 = .ok (.iastore, 1) := by decide +kernel
theorem dX0_drawInto_96 : decode cX0_drawInto 96 = .ok (.iconst 0, 1) := by decide +kernel
theorem dX0_drawInto_97 : decode cX0_drawInto 97 = .ok (.istore_n 3, 1) := by decide +kernel
theorem dX0_drawInto_98 : decode cX0_drawInto 98 = .ok (.iinc 4 1, 3) := by decide +kernel
theorem dX0_drawInto_101 : decode cX0_drawInto 101 = .ok (.goto (-94), 3) := by decide +kernel
theorem dX0_drawInto_104 : decode cX0_drawInto 104 = .ok (.iconst 1, 1) := by decide +kernel
theorem dX0_drawInto_105 : decode cX0_drawInto 105 = .ok (.ireturn, 1) := by decide +kernel
theorem dX1_init_0 : decode cX1_init 0 = .ok (.aload_n 0, 1) := by decide +kernel
theorem dX1_init_1 : decode cX1_init 1 = .ok (.invokespecial 3, 3) := by decide +kernel
theorem dX1_init_4 : decode cX1_init 4 = .ok (.aload_n 0, 1) := by decide +kernel
theorem dX1_init_5 : decode cX1_init 5 = .ok (.bipush 14, 2) := by decide +kernel
theorem dX1_init_7 : decode cX1_init 7 = .ok (.newarray .int, 2) := by decide +kernel
theorem dX1_init_9 : decode cX1_init 9 = .ok (.putfield 9, 3) := by decide +kernel
theorem dX1_init_12 : decode cX1_init 12 = .ok (.aload_n 0, 1) := by decide +kernel
theorem dX1_init_13 : decode cX1_init 13 = .ok (.bipush 14, 2) := by decide +kernel
theorem dX1_init_15 : decode cX1_init 15 = .ok (.newarray .int, 2) := by decide +kernel
theorem dX1_init_17 : decode cX1_init 17 = .ok (.putfield 15, 3) := by decide +kernel
theorem dX1_init_20 : decode cX1_init 20 = .ok (.aload_n 0, 1) := by decide +kernel
theorem dX1_init_21 : decode cX1_init 21 = .ok (.bipush 14, 2) := by decide +kernel
theorem dX1_init_23 : decode cX1_init 23 = .ok (.newarray .int, 2) := by decide +kernel
theorem dX1_init_25 : decode cX1_init 25 = .ok (.putfield 18, 3) := by decide +kernel
theorem dX1_init_28 : decode cX1_init 28 = .ok (.return_, 1) := by decide +kernel
theorem dX1_become_0 : decode cX1_become 0 = .ok (.aload_n 0, 1) := by decide +kernel
theorem dX1_become_1 : decode cX1_become 1 = .ok (.aload_n 1, 1) := by decide +kernel
theorem dX1_become_2 : decode cX1_become 2 = .ok (.getfield 21, 3) := by decide +kernel
theorem dX1_become_5 : decode cX1_become 5 = .ok (.putfield 21, 3) := by decide +kernel
theorem dX1_become_8 : decode cX1_become 8 = .ok (.aload_n 1, 1) := by decide +kernel
theorem dX1_become_9 : decode cX1_become 9 = .ok (.getfield 9, 3) := by decide +kernel
theorem dX1_become_12 : decode cX1_become 12 = .ok (.iconst 0, 1) := by decide +kernel
theorem dX1_become_13 : decode cX1_become 13 = .ok (.aload_n 0, 1) := by decide +kernel
theorem dX1_become_14 : decode cX1_become 14 = .ok (.getfield 9, 3) := by decide +kernel
theorem dX1_become_17 : decode cX1_become 17 = .ok (.iconst 0, 1) := by decide +kernel
theorem dX1_become_18 : decode cX1_become 18 = .ok (.bipush 14, 2) := by decide +kernel
theorem dX1_become_20 : decode cX1_become 20 = .ok (.invokestatic 25, 3) := by decide +kernel
theorem dX1_become_23 : decode cX1_become 23 = .ok (.aload_n 1, 1) := by decide +kernel
theorem dX1_become_24 : decode cX1_become 24 = .ok (.getfield 15, 3) := by decide +kernel
theorem dX1_become_27 : decode cX1_become 27 = .ok (.iconst 0, 1) := by decide +kernel
theorem dX1_become_28 : decode cX1_become 28 = .ok (.aload_n 0, 1) := by decide +kernel
theorem dX1_become_29 : decode cX1_become 29 = .ok (.getfield 15, 3) := by decide +kernel
theorem dX1_become_32 : decode cX1_become 32 = .ok (.iconst 0, 1) := by decide +kernel
theorem dX1_become_33 : decode cX1_become 33 = .ok (.bipush 14, 2) := by decide +kernel
theorem dX1_become_35 : decode cX1_become 35 = .ok (.invokestatic 25, 3) := by decide +kernel
theorem dX1_become_38 : decode cX1_become 38 = .ok (.aload_n 1, 1) := by decide +kernel
theorem dX1_become_39 : decode cX1_become 39 = .ok (.getfield 18, 3) := by decide +kernel
theorem dX1_become_42 : decode cX1_become 42 = .ok (.iconst 0, 1) := by decide +kernel
theorem dX1_become_43 : decode cX1_become 43 = .ok (.aload_n 0, 1) := by decide +kernel
theorem dX1_become_44 : decode cX1_become 44 = .ok (.getfield 18, 3) := by decide +kernel
theorem dX1_become_47 : decode cX1_become 47 = .ok (.iconst 0, 1) := by decide +kernel
theorem dX1_become_48 : decode cX1_become 48 = .ok (.bipush 14, 2) := by decide +kernel
theorem dX1_become_50 : decode cX1_become 50 = .ok (.invokestatic 25, 3) := by decide +kernel
theorem dX1_become_53 : decode cX1_become 53 = .ok (.return_, 1) := by decide +kernel
theorem dX1_has_0 : decode cX1_has 0 = .ok (.iload_n 1, 1) := by decide +kernel
theorem dX1_has_1 : decode cX1_has 1 = .ok (.ifCond .lt 15, 3) := by decide +kernel
theorem dX1_has_4 : decode cX1_has 4 = .ok (.iload_n 1, 1) := by decide +kernel
theorem dX1_has_5 : decode cX1_has 5 = .ok (.aload_n 0, 1) := by decide +kernel
theorem dX1_has_6 : decode cX1_has 6 = .ok (.getfield 21, 3) := by decide +kernel
theorem dX1_has_9 : decode cX1_has 9 = .ok (.if_icmp .ge 7, 3) := by decide +kernel
theorem dX1_has_12 : decode cX1_has 12 = .ok (.iconst 1, 1) := by decide +kernel
theorem dX1_has_13 : decode cX1_has 13 = .ok (.goto 4, 3) := by decide +kernel
theorem dX1_has_16 : decode cX1_has 16 = .ok (.iconst 0, 1) := by decide +kernel
theorem dX1_has_17 : decode cX1_has 17 = .ok (.ireturn, 1) := by decide +kernel
set_option maxRecDepth 20000 in
theorem ggX1_all_X6_bit : GoodIn wsX1_all wsX6_bit := goodIn_r _ [4] (by decide +kernel) (by decide +kernel)
set_option maxRecDepth 20000 in
theorem gX1_all_X6_bit_n31 : GoodIn wsX1_all (wsX6_bit) := ggX1_all_X6_bit
theorem dX1_all_0 : decode cX1_all 0 = .ok (.aload_n 0, 1) := by decide +kernel
theorem dX1_all_1 : decode cX1_all 1 = .ok (.getfield 21, 3) := by decide +kernel
theorem dX1_all_4 : decode cX1_all 4 = .ok (.invokestatic 31, 3) := by decide +kernel
theorem dX1_all_7 : decode cX1_all 7 = .ok (.iconst 1, 1) := by decide +kernel
theorem dX1_all_8 : decode cX1_all 8 = .ok (.isub, 1) := by decide +kernel
theorem dX1_all_9 : decode cX1_all 9 = .ok (.ireturn, 1) := by decide +kernel
set_option maxRecDepth 20000 in
theorem ggX1_hasAll_X1_all : GoodIn wsX1_hasAll wsX1_all := goodIn_r _ [5, 6, 7, 8, 9, 10, 11, 12, 13] (by decide +kernel) (by decide +kernel)
set_option maxRecDepth 20000 in
theorem gX1_hasAll_X1_all : GoodIn wsX1_hasAll (wsV RX1 35 RX1 yX1_all wsX1_all) := goodIn_app (goodIn_of _ (by decide +kernel)) ggX1_hasAll_X1_all
theorem dX1_hasAll_0 : decode cX1_hasAll 0 = .ok (.iload_n 1, 1) := by decide +kernel
theorem dX1_hasAll_1 : decode cX1_hasAll 1 = .ok (.aload_n 0, 1) := by decide +kernel
theorem dX1_hasAll_2 : decode cX1_hasAll 2 = .ok (.invokevirtual 35, 3) := by decide +kernel
theorem dX1_hasAll_5 : decode cX1_hasAll 5 = .ok (.iconst (-1), 1) := by decide +kernel
theorem dX1_hasAll_6 : decode cX1_hasAll 6 = .ok (.ixor, 1) := by decide +kernel
theorem dX1_hasAll_7 : decode cX1_hasAll 7 = .ok (.iand, 1) := by decide +kernel
theorem dX1_hasAll_8 : decode cX1_hasAll 8 = .ok (.ifCond .ne 7, 3) := by decide +kernel
theorem dX1_hasAll_11 : decode cX1_hasAll 11 = .ok (.iconst 1, 1) := by decide +kernel
theorem dX1_hasAll_12 : decode cX1_hasAll 12 = .ok (.goto 4, 3) := by decide +kernel
theorem dX1_hasAll_15 : decode cX1_hasAll 15 = .ok (.iconst 0, 1) := by decide +kernel
theorem dX1_hasAll_16 : decode cX1_hasAll 16 = .ok (.ireturn, 1) := by decide +kernel
set_option maxRecDepth 20000 in
theorem ggX1_leads_X1_has : GoodIn wsX1_leads wsX1_has := goodIn_r _ [6, 7, 11, 12, 13, 14] (by decide +kernel) (by decide +kernel)
set_option maxRecDepth 20000 in
theorem gX1_leads_X1_has : GoodIn wsX1_leads (wsV RX1 39 RX1 yX1_has wsX1_has) := goodIn_app (goodIn_of _ (by decide +kernel)) ggX1_leads_X1_has
set_option maxRecDepth 20000 in
theorem ggX1_leads_X6_contains : GoodIn wsX1_leads wsX6_contains := goodIn_r _ [10] (by decide +kernel) (by decide +kernel)
set_option maxRecDepth 20000 in
theorem gX1_leads_X6_contains_n43 : GoodIn wsX1_leads (wsX6_contains) := ggX1_leads_X6_contains
theorem dX1_leads_0 : decode cX1_leads 0 = .ok (.aload_n 0, 1) := by decide +kernel
theorem dX1_leads_1 : decode cX1_leads 1 = .ok (.iload_n 1, 1) := by decide +kernel
theorem dX1_leads_2 : decode cX1_leads 2 = .ok (.invokevirtual 39, 3) := by decide +kernel
theorem dX1_leads_5 : decode cX1_leads 5 = .ok (.ifCond .eq 28, 3) := by decide +kernel
theorem dX1_leads_8 : decode cX1_leads 8 = .ok (.aload_n 0, 1) := by decide +kernel
theorem dX1_leads_9 : decode cX1_leads 9 = .ok (.iload_n 2, 1) := by decide +kernel
theorem dX1_leads_10 : decode cX1_leads 10 = .ok (.invokevirtual 39, 3) := by decide +kernel
theorem dX1_leads_13 : decode cX1_leads 13 = .ok (.ifCond .eq 20, 3) := by decide +kernel
theorem dX1_leads_16 : decode cX1_leads 16 = .ok (.aload_n 0, 1) := by decide +kernel
theorem dX1_leads_17 : decode cX1_leads 17 = .ok (.getfield 18, 3) := by decide +kernel
theorem dX1_leads_20 : decode cX1_leads 20 = .ok (.iload_n 1, 1) := by decide +kernel
theorem dX1_leads_21 : decode cX1_leads 21 = .ok (.iaload, 1) := by decide +kernel
theorem dX1_leads_22 : decode cX1_leads 22 = .ok (.iload_n 2, 1) := by decide +kernel
theorem dX1_leads_23 : decode cX1_leads 23 = .ok (.invokestatic 43, 3) := by decide +kernel
theorem dX1_leads_26 : decode cX1_leads 26 = .ok (.ifCond .eq 7, 3) := by decide +kernel
theorem dX1_leads_29 : decode cX1_leads 29 = .ok (.iconst 1, 1) := by decide +kernel
theorem dX1_leads_30 : decode cX1_leads 30 = .ok (.goto 4, 3) := by decide +kernel
theorem dX1_leads_33 : decode cX1_leads 33 = .ok (.iconst 0, 1) := by decide +kernel
theorem dX1_leads_34 : decode cX1_leads 34 = .ok (.ireturn, 1) := by decide +kernel
set_option maxRecDepth 20000 in
theorem ggX1_arrowCount_J6_bitCount_0f7a4 : GoodIn wsX1_arrowCount wsJ6_bitCount_0f7a4 := goodIn_r _ [6, 7, 8, 9] (by decide +kernel) (by decide +kernel)
set_option maxRecDepth 20000 in
theorem gX1_arrowCount_J6_bitCount_0f7a4 : GoodIn wsX1_arrowCount (va_wsS RX1 47 yJ6_bitCount_0f7a4 wsJ6_bitCount_0f7a4) := goodIn_app (goodIn_of _ (by decide +kernel)) ggX1_arrowCount_J6_bitCount_0f7a4
theorem dX1_arrowCount_0 : decode cX1_arrowCount 0 = .ok (.iconst 0, 1) := by decide +kernel
theorem dX1_arrowCount_1 : decode cX1_arrowCount 1 = .ok (.istore_n 1, 1) := by decide +kernel
theorem dX1_arrowCount_2 : decode cX1_arrowCount 2 = .ok (.iconst 0, 1) := by decide +kernel
theorem dX1_arrowCount_3 : decode cX1_arrowCount 3 = .ok (.istore_n 2, 1) := by decide +kernel
theorem dX1_arrowCount_4 : decode cX1_arrowCount 4 = .ok (.iload_n 2, 1) := by decide +kernel
theorem dX1_arrowCount_5 : decode cX1_arrowCount 5 = .ok (.aload_n 0, 1) := by decide +kernel
theorem dX1_arrowCount_6 : decode cX1_arrowCount 6 = .ok (.getfield 21, 3) := by decide +kernel
theorem dX1_arrowCount_9 : decode cX1_arrowCount 9 = .ok (.if_icmp .ge 21, 3) := by decide +kernel
theorem dX1_arrowCount_12 : decode cX1_arrowCount 12 = .ok (.iload_n 1, 1) := by decide +kernel
theorem dX1_arrowCount_13 : decode cX1_arrowCount 13 = .ok (.aload_n 0, 1) := by decide +kernel
theorem dX1_arrowCount_14 : decode cX1_arrowCount 14 = .ok (.getfield 18, 3) := by decide +kernel
theorem dX1_arrowCount_17 : decode cX1_arrowCount 17 = .ok (.iload_n 2, 1) := by decide +kernel
theorem dX1_arrowCount_18 : decode cX1_arrowCount 18 = .ok (.iaload, 1) := by decide +kernel
theorem dX1_arrowCount_19 : decode cX1_arrowCount 19 = .ok (.invokestatic 47, 3) := by decide +kernel
theorem dX1_arrowCount_22 : decode cX1_arrowCount 22 = .ok (.iadd, 1) := by decide +kernel
theorem dX1_arrowCount_23 : decode cX1_arrowCount 23 = .ok (.istore_n 1, 1) := by decide +kernel
theorem dX1_arrowCount_24 : decode cX1_arrowCount 24 = .ok (.iinc 2 1, 3) := by decide +kernel
theorem dX1_arrowCount_27 : decode cX1_arrowCount 27 = .ok (.goto (-23), 3) := by decide +kernel
theorem dX1_arrowCount_30 : decode cX1_arrowCount 30 = .ok (.iload_n 1, 1) := by decide +kernel
theorem dX1_arrowCount_31 : decode cX1_arrowCount 31 = .ok (.ireturn, 1) := by decide +kernel
set_option maxRecDepth 20000 in
theorem ggX1_lowestArrow_X1_leads : GoodIn wsX1_lowestArrow wsX1_leads := goodIn_r _ [6, 7, 8, 9, 10, 5, 11, 1, 12, 13, 14, 15, 16, 17, 18] (by decide +kernel) (by decide +kernel)
set_option maxRecDepth 20000 in
theorem gX1_lowestArrow_X1_leads : GoodIn wsX1_lowestArrow (wsV RX1 52 RX1 yX1_leads wsX1_leads) := goodIn_app (goodIn_of _ (by decide +kernel)) ggX1_lowestArrow_X1_leads
theorem dX1_lowestArrow_0 : decode cX1_lowestArrow 0 = .ok (.iconst 0, 1) := by decide +kernel
theorem dX1_lowestArrow_1 : decode cX1_lowestArrow 1 = .ok (.istore_n 2, 1) := by decide +kernel
theorem dX1_lowestArrow_2 : decode cX1_lowestArrow 2 = .ok (.iload_n 2, 1) := by decide +kernel
theorem dX1_lowestArrow_3 : decode cX1_lowestArrow 3 = .ok (.aload_n 0, 1) := by decide +kernel
theorem dX1_lowestArrow_4 : decode cX1_lowestArrow 4 = .ok (.getfield 21, 3) := by decide +kernel
theorem dX1_lowestArrow_7 : decode cX1_lowestArrow 7 = .ok (.if_icmp .ge 20, 3) := by decide +kernel
theorem dX1_lowestArrow_10 : decode cX1_lowestArrow 10 = .ok (.aload_n 0, 1) := by decide +kernel
theorem dX1_lowestArrow_11 : decode cX1_lowestArrow 11 = .ok (.iload_n 1, 1) := by decide +kernel
theorem dX1_lowestArrow_12 : decode cX1_lowestArrow 12 = .ok (.iload_n 2, 1) := by decide +kernel
theorem dX1_lowestArrow_13 : decode cX1_lowestArrow 13 = .ok (.invokevirtual 52, 3) := by decide +kernel
theorem dX1_lowestArrow_16 : decode cX1_lowestArrow 16 = .ok (.ifCond .eq 5, 3) := by decide +kernel
theorem dX1_lowestArrow_19 : decode cX1_lowestArrow 19 = .ok (.iload_n 2, 1) := by decide +kernel
theorem dX1_lowestArrow_20 : decode cX1_lowestArrow 20 = .ok (.ireturn, 1) := by decide +kernel
theorem dX1_lowestArrow_21 : decode cX1_lowestArrow 21 = .ok (.iinc 2 1, 3) := by decide +kernel
theorem dX1_lowestArrow_24 : decode cX1_lowestArrow 24 = .ok (.goto (-22), 3) := by decide +kernel
theorem dX1_lowestArrow_27 : decode cX1_lowestArrow 27 = .ok (.bipush 14, 2) := by decide +kernel
theorem dX1_lowestArrow_29 : decode cX1_lowestArrow 29 = .ok (.ireturn, 1) := by decide +kernel
set_option maxRecDepth 20000 in
theorem ggX1_owned_X6_bit : GoodIn wsX1_owned wsX6_bit := goodIn_r _ [5] (by decide +kernel) (by decide +kernel)
set_option maxRecDepth 20000 in
theorem gX1_owned_X6_bit_n31 : GoodIn wsX1_owned (wsX6_bit) := ggX1_owned_X6_bit
theorem dX1_owned_0 : decode cX1_owned 0 = .ok (.iconst 0, 1) := by decide +kernel
theorem dX1_owned_1 : decode cX1_owned 1 = .ok (.istore_n 2, 1) := by decide +kernel
theorem dX1_owned_2 : decode cX1_owned 2 = .ok (.iconst 0, 1) := by decide +kernel
theorem dX1_owned_3 : decode cX1_owned 3 = .ok (.istore_n 3, 1) := by decide +kernel
theorem dX1_owned_4 : decode cX1_owned 4 = .ok (.iload_n 3, 1) := by decide +kernel
theorem dX1_owned_5 : decode cX1_owned 5 = .ok (.aload_n 0, 1) := by decide +kernel
theorem dX1_owned_6 : decode cX1_owned 6 = .ok (.getfield 21, 3) := by decide +kernel
theorem dX1_owned_9 : decode cX1_owned 9 = .ok (.if_icmp .ge 26, 3) := by decide +kernel
theorem dX1_owned_12 : decode cX1_owned 12 = .ok (.aload_n 0, 1) := by decide +kernel
theorem dX1_owned_13 : decode cX1_owned 13 = .ok (.getfield 9, 3) := by decide +kernel
theorem dX1_owned_16 : decode cX1_owned 16 = .ok (.iload_n 3, 1) := by decide +kernel
theorem dX1_owned_17 : decode cX1_owned 17 = .ok (.iaload, 1) := by decide +kernel
theorem dX1_owned_18 : decode cX1_owned 18 = .ok (.iload_n 1, 1) := by decide +kernel
theorem dX1_owned_19 : decode cX1_owned 19 = .ok (.if_icmp .ne 10, 3) := by decide +kernel
theorem dX1_owned_22 : decode cX1_owned 22 = .ok (.iload_n 2, 1) := by decide +kernel
theorem dX1_owned_23 : decode cX1_owned 23 = .ok (.iload_n 3, 1) := by decide +kernel
theorem dX1_owned_24 : decode cX1_owned 24 = .ok (.invokestatic 31, 3) := by decide +kernel
theorem dX1_owned_27 : decode cX1_owned 27 = .ok (.ior, 1) := by decide +kernel
theorem dX1_owned_28 : decode cX1_owned 28 = .ok (.istore_n 2, 1) := by decide +kernel
theorem dX1_owned_29 : decode cX1_owned 29 = .ok (.iinc 3 1, 3) := by decide +kernel
theorem dX1_owned_32 : decode cX1_owned 32 = .ok (.goto (-28), 3) := by decide +kernel
theorem dX1_owned_35 : decode cX1_owned 35 = .ok (.iload_n 2, 1) := by decide +kernel
theorem dX1_owned_36 : decode cX1_owned 36 = .ok (.ireturn, 1) := by decide +kernel
set_option maxRecDepth 20000 in
theorem ggX1_withoutArrows_X6_bit : GoodIn wsX1_withoutArrows wsX6_bit := goodIn_r _ [5] (by decide +kernel) (by decide +kernel)
set_option maxRecDepth 20000 in
theorem gX1_withoutArrows_X6_bit_n31 : GoodIn wsX1_withoutArrows (wsX6_bit) := ggX1_withoutArrows_X6_bit
theorem dX1_withoutArrows_0 : decode cX1_withoutArrows 0 = .ok (.iconst 0, 1) := by decide +kernel
theorem dX1_withoutArrows_1 : decode cX1_withoutArrows 1 = .ok (.istore_n 1, 1) := by decide +kernel
theorem dX1_withoutArrows_2 : decode cX1_withoutArrows 2 = .ok (.iconst 0, 1) := by decide +kernel
theorem dX1_withoutArrows_3 : decode cX1_withoutArrows 3 = .ok (.istore_n 2, 1) := by decide +kernel
theorem dX1_withoutArrows_4 : decode cX1_withoutArrows 4 = .ok (.iload_n 2, 1) := by decide +kernel
theorem dX1_withoutArrows_5 : decode cX1_withoutArrows 5 = .ok (.aload_n 0, 1) := by decide +kernel
theorem dX1_withoutArrows_6 : decode cX1_withoutArrows 6 = .ok (.getfield 21, 3) := by decide +kernel
theorem dX1_withoutArrows_9 : decode cX1_withoutArrows 9 = .ok (.if_icmp .ge 25, 3) := by decide +kernel
theorem dX1_withoutArrows_12 : decode cX1_withoutArrows 12 = .ok (.aload_n 0, 1) := by decide +kernel
theorem dX1_withoutArrows_13 : decode cX1_withoutArrows 13 = .ok (.getfield 18, 3) := by decide +kernel
theorem dX1_withoutArrows_16 : decode cX1_withoutArrows 16 = .ok (.iload_n 2, 1) := by decide +kernel
theorem dX1_withoutArrows_17 : decode cX1_withoutArrows 17 = .ok (.iaload, 1) := by decide +kernel
theorem dX1_withoutArrows_18 : decode cX1_withoutArrows 18 = .ok (.ifCond .ne 10, 3) := by decide +kernel
theorem dX1_withoutArrows_21 : decode cX1_withoutArrows 21 = .ok (.iload_n 1, 1) := by decide +kernel
theorem dX1_withoutArrows_22 : decode cX1_withoutArrows 22 = .ok (.iload_n 2, 1) := by decide +kernel
theorem dX1_withoutArrows_23 : decode cX1_withoutArrows 23 = .ok (.invokestatic 31, 3) := by decide +kernel
theorem dX1_withoutArrows_26 : decode cX1_withoutArrows 26 = .ok (.ior, 1) := by decide +kernel
theorem dX1_withoutArrows_27 : decode cX1_withoutArrows 27 = .ok (.istore_n 1, 1) := by decide +kernel
theorem dX1_withoutArrows_28 : decode cX1_withoutArrows 28 = .ok (.iinc 2 1, 3) := by decide +kernel
theorem dX1_withoutArrows_31 : decode cX1_withoutArrows 31 = .ok (.goto (-27), 3) := by decide +kernel
theorem dX1_withoutArrows_34 : decode cX1_withoutArrows 34 = .ok (.iload_n 1, 1) := by decide +kernel
theorem dX1_withoutArrows_35 : decode cX1_withoutArrows 35 = .ok (.ireturn, 1) := by decide +kernel
theorem dX1_hasColour_0 : decode cX1_hasColour 0 = .ok (.iconst 0, 1) := by decide +kernel
theorem dX1_hasColour_1 : decode cX1_hasColour 1 = .ok (.istore_n 2, 1) := by decide +kernel
theorem dX1_hasColour_2 : decode cX1_hasColour 2 = .ok (.iload_n 2, 1) := by decide +kernel
theorem dX1_hasColour_3 : decode cX1_hasColour 3 = .ok (.aload_n 0, 1) := by decide +kernel
theorem dX1_hasColour_4 : decode cX1_hasColour 4 = .ok (.getfield 21, 3) := by decide +kernel
theorem dX1_hasColour_7 : decode cX1_hasColour 7 = .ok (.if_icmp .ge 21, 3) := by decide +kernel
theorem dX1_hasColour_10 : decode cX1_hasColour 10 = .ok (.aload_n 0, 1) := by decide +kernel
theorem dX1_hasColour_11 : decode cX1_hasColour 11 = .ok (.getfield 15, 3) := by decide +kernel
theorem dX1_hasColour_14 : decode cX1_hasColour 14 = .ok (.iload_n 2, 1) := by decide +kernel
theorem dX1_hasColour_15 : decode cX1_hasColour 15 = .ok (.iaload, 1) := by decide +kernel
theorem dX1_hasColour_16 : decode cX1_hasColour 16 = .ok (.iload_n 1, 1) := by decide +kernel
theorem dX1_hasColour_17 : decode cX1_hasColour 17 = .ok (.if_icmp .ne 5, 3) := by decide +kernel
theorem dX1_hasColour_20 : decode cX1_hasColour 20 = .ok (.iconst 1, 1) := by decide +kernel
theorem dX1_hasColour_21 : decode cX1_hasColour 21 = .ok (.ireturn, 1) := by decide +kernel
theorem dX1_hasColour_22 : decode cX1_hasColour 22 = .ok (.iinc 2 1, 3) := by decide +kernel
theorem dX1_hasColour_25 : decode cX1_hasColour 25 = .ok (.goto (-23), 3) := by decide +kernel
theorem dX1_hasColour_28 : decode cX1_hasColour 28 = .ok (.iconst 0, 1) := by decide +kernel
theorem dX1_hasColour_29 : decode cX1_hasColour 29 = .ok (.ireturn, 1) := by decide +kernel
theorem dX1_leastColour_0 : decode cX1_leastColour 0 = .ok (.bipush (-5), 2) := by decide +kernel
theorem dX1_leastColour_2 : decode cX1_leastColour 2 = .ok (.istore_n 1, 1) := by decide +kernel
theorem dX1_leastColour_3 : decode cX1_leastColour 3 = .ok (.iconst 0, 1) := by decide +kernel
theorem dX1_leastColour_4 : decode cX1_leastColour 4 = .ok (.istore_n 2, 1) := by decide +kernel
theorem dX1_leastColour_5 : decode cX1_leastColour 5 = .ok (.iload_n 2, 1) := by decide +kernel
theorem dX1_leastColour_6 : decode cX1_leastColour 6 = .ok (.aload_n 0, 1) := by decide +kernel
theorem dX1_leastColour_7 : decode cX1_leastColour 7 = .ok (.getfield 21, 3) := by decide +kernel
theorem dX1_leastColour_10 : decode cX1_leastColour 10 = .ok (.if_icmp .ge 32, 3) := by decide +kernel
theorem dX1_leastColour_13 : decode cX1_leastColour 13 = .ok (.iload_n 1, 1) := by decide +kernel
theorem dX1_leastColour_14 : decode cX1_leastColour 14 = .ok (.bipush (-5), 2) := by decide +kernel
theorem dX1_leastColour_16 : decode cX1_leastColour 16 = .ok (.if_icmp .eq 13, 3) := by decide +kernel
theorem dX1_leastColour_19 : decode cX1_leastColour 19 = .ok (.aload_n 0, 1) := by decide +kernel
theorem dX1_leastColour_20 : decode cX1_leastColour 20 = .ok (.getfield 15, 3) := by decide +kernel
theorem dX1_leastColour_23 : decode cX1_leastColour 23 = .ok (.iload_n 2, 1) := by decide +kernel
theorem dX1_leastColour_24 : decode cX1_leastColour 24 = .ok (.iaload, 1) := by decide +kernel
theorem dX1_leastColour_25 : decode cX1_leastColour 25 = .ok (.iload_n 1, 1) := by decide +kernel
theorem dX1_leastColour_26 : decode cX1_leastColour 26 = .ok (.if_icmp .ge 10, 3) := by decide +kernel
theorem dX1_leastColour_29 : decode cX1_leastColour 29 = .ok (.aload_n 0, 1) := by decide +kernel
theorem dX1_leastColour_30 : decode cX1_leastColour 30 = .ok (.getfield 15, 3) := by decide +kernel
theorem dX1_leastColour_33 : decode cX1_leastColour 33 = .ok (.iload_n 2, 1) := by decide +kernel
theorem dX1_leastColour_34 : decode cX1_leastColour 34 = .ok (.iaload, 1) := by decide +kernel
theorem dX1_leastColour_35 : decode cX1_leastColour 35 = .ok (.istore_n 1, 1) := by decide +kernel
theorem dX1_leastColour_36 : decode cX1_leastColour 36 = .ok (.iinc 2 1, 3) := by decide +kernel
theorem dX1_leastColour_39 : decode cX1_leastColour 39 = .ok (.goto (-34), 3) := by decide +kernel
theorem dX1_leastColour_42 : decode cX1_leastColour 42 = .ok (.iload_n 1, 1) := by decide +kernel
theorem dX1_leastColour_43 : decode cX1_leastColour 43 = .ok (.ireturn, 1) := by decide +kernel
theorem dX1_exchange_0 : decode cX1_exchange 0 = .ok (.iconst 0, 1) := by decide +kernel
theorem dX1_exchange_1 : decode cX1_exchange 1 = .ok (.istore_n 1, 1) := by decide +kernel
theorem dX1_exchange_2 : decode cX1_exchange 2 = .ok (.iload_n 1, 1) := by decide +kernel
theorem dX1_exchange_3 : decode cX1_exchange 3 = .ok (.aload_n 0, 1) := by decide +kernel
theorem dX1_exchange_4 : decode cX1_exchange 4 = .ok (.getfield 21, 3) := by decide +kernel
theorem dX1_exchange_7 : decode cX1_exchange 7 = .ok (.if_icmp .ge 33, 3) := by decide +kernel
theorem dX1_exchange_10 : decode cX1_exchange 10 = .ok (.aload_n 0, 1) := by decide +kernel
theorem dX1_exchange_11 : decode cX1_exchange 11 = .ok (.getfield 9, 3) := by decide +kernel
theorem dX1_exchange_14 : decode cX1_exchange 14 = .ok (.iload_n 1, 1) := by decide +kernel
theorem dX1_exchange_15 : decode cX1_exchange 15 = .ok (.iconst 1, 1) := by decide +kernel
theorem dX1_exchange_16 : decode cX1_exchange 16 = .ok (.aload_n 0, 1) := by decide +kernel
theorem dX1_exchange_17 : decode cX1_exchange 17 = .ok (.getfield 9, 3) := by decide +kernel
theorem dX1_exchange_20 : decode cX1_exchange 20 = .ok (.iload_n 1, 1) := by decide +kernel
theorem dX1_exchange_21 : decode cX1_exchange 21 = .ok (.iaload, 1) := by decide +kernel
theorem dX1_exchange_22 : decode cX1_exchange 22 = .ok (.isub, 1) := by decide +kernel
theorem dX1_exchange_23 : decode cX1_exchange 23 = .ok (.iastore, 1) := by decide +kernel
theorem dX1_exchange_24 : decode cX1_exchange 24 = .ok (.aload_n 0, 1) := by decide +kernel
theorem dX1_exchange_25 : decode cX1_exchange 25 = .ok (.getfield 15, 3) := by decide +kernel
theorem dX1_exchange_28 : decode cX1_exchange 28 = .ok (.iload_n 1, 1) := by decide +kernel
theorem dX1_exchange_29 : decode cX1_exchange 29 = .ok (.dup2, 1) := by decide +kernel
theorem dX1_exchange_30 : decode cX1_exchange 30 = .ok (.iaload, 1) := by decide +kernel
theorem dX1_exchange_31 : decode cX1_exchange 31 = .ok (.iconst 1, 1) := by decide +kernel
theorem dX1_exchange_32 : decode cX1_exchange 32 = .ok (.iadd, 1) := by decide +kernel
theorem dX1_exchange_33 : decode cX1_exchange 33 = .ok (.iastore, 1) := by decide +kernel
theorem dX1_exchange_34 : decode cX1_exchange 34 = .ok (.iinc 1 1, 3) := by decide +kernel
theorem dX1_exchange_37 : decode cX1_exchange 37 = .ok (.goto (-35), 3) := by decide +kernel
theorem dX1_exchange_40 : decode cX1_exchange 40 = .ok (.return_, 1) := by decide +kernel
set_option maxRecDepth 20000 in
theorem ggX1_sources_X6_bit : GoodIn wsX1_sources wsX6_bit := goodIn_r _ [5] (by decide +kernel) (by decide +kernel)
set_option maxRecDepth 20000 in
theorem gX1_sources_X6_bit_n31 : GoodIn wsX1_sources (wsX6_bit) := ggX1_sources_X6_bit
theorem dX1_sources_0 : decode cX1_sources 0 = .ok (.iconst 0, 1) := by decide +kernel
theorem dX1_sources_1 : decode cX1_sources 1 = .ok (.istore_n 2, 1) := by decide +kernel
theorem dX1_sources_2 : decode cX1_sources 2 = .ok (.iconst 0, 1) := by decide +kernel
theorem dX1_sources_3 : decode cX1_sources 3 = .ok (.istore_n 3, 1) := by decide +kernel
theorem dX1_sources_4 : decode cX1_sources 4 = .ok (.iload_n 3, 1) := by decide +kernel
theorem dX1_sources_5 : decode cX1_sources 5 = .ok (.aload_n 0, 1) := by decide +kernel
theorem dX1_sources_6 : decode cX1_sources 6 = .ok (.getfield 21, 3) := by decide +kernel
theorem dX1_sources_9 : decode cX1_sources 9 = .ok (.if_icmp .ge 27, 3) := by decide +kernel
theorem dX1_sources_12 : decode cX1_sources 12 = .ok (.aload_n 0, 1) := by decide +kernel
theorem dX1_sources_13 : decode cX1_sources 13 = .ok (.getfield 18, 3) := by decide +kernel
theorem dX1_sources_16 : decode cX1_sources 16 = .ok (.iload_n 3, 1) := by decide +kernel
theorem dX1_sources_17 : decode cX1_sources 17 = .ok (.iaload, 1) := by decide +kernel
theorem dX1_sources_18 : decode cX1_sources 18 = .ok (.iload_n 1, 1) := by decide +kernel
theorem dX1_sources_19 : decode cX1_sources 19 = .ok (.iand, 1) := by decide +kernel
theorem dX1_sources_20 : decode cX1_sources 20 = .ok (.ifCond .eq 10, 3) := by decide +kernel
theorem dX1_sources_23 : decode cX1_sources 23 = .ok (.iload_n 2, 1) := by decide +kernel
theorem dX1_sources_24 : decode cX1_sources 24 = .ok (.iload_n 3, 1) := by decide +kernel
theorem dX1_sources_25 : decode cX1_sources 25 = .ok (.invokestatic 31, 3) := by decide +kernel
theorem dX1_sources_28 : decode cX1_sources 28 = .ok (.ior, 1) := by decide +kernel
theorem dX1_sources_29 : decode cX1_sources 29 = .ok (.istore_n 2, 1) := by decide +kernel
theorem dX1_sources_30 : decode cX1_sources 30 = .ok (.iinc 3 1, 3) := by decide +kernel
theorem dX1_sources_33 : decode cX1_sources 33 = .ok (.goto (-29), 3) := by decide +kernel
theorem dX1_sources_36 : decode cX1_sources 36 = .ok (.iload_n 2, 1) := by decide +kernel
theorem dX1_sources_37 : decode cX1_sources 37 = .ok (.ireturn, 1) := by decide +kernel
set_option maxRecDepth 20000 in
theorem ggX1_targets_X6_contains : GoodIn wsX1_targets wsX6_contains := goodIn_r _ [5] (by decide +kernel) (by decide +kernel)
set_option maxRecDepth 20000 in
theorem gX1_targets_X6_contains_n43 : GoodIn wsX1_targets (wsX6_contains) := ggX1_targets_X6_contains
theorem dX1_targets_0 : decode cX1_targets 0 = .ok (.iconst 0, 1) := by decide +kernel
theorem dX1_targets_1 : decode cX1_targets 1 = .ok (.istore_n 2, 1) := by decide +kernel
theorem dX1_targets_2 : decode cX1_targets 2 = .ok (.iconst 0, 1) := by decide +kernel
theorem dX1_targets_3 : decode cX1_targets 3 = .ok (.istore_n 3, 1) := by decide +kernel
theorem dX1_targets_4 : decode cX1_targets 4 = .ok (.iload_n 3, 1) := by decide +kernel
theorem dX1_targets_5 : decode cX1_targets 5 = .ok (.aload_n 0, 1) := by decide +kernel
theorem dX1_targets_6 : decode cX1_targets 6 = .ok (.getfield 21, 3) := by decide +kernel
theorem dX1_targets_9 : decode cX1_targets 9 = .ok (.if_icmp .ge 26, 3) := by decide +kernel
theorem dX1_targets_12 : decode cX1_targets 12 = .ok (.iload_n 1, 1) := by decide +kernel
theorem dX1_targets_13 : decode cX1_targets 13 = .ok (.iload_n 3, 1) := by decide +kernel
theorem dX1_targets_14 : decode cX1_targets 14 = .ok (.invokestatic 43, 3) := by decide +kernel
theorem dX1_targets_17 : decode cX1_targets 17 = .ok (.ifCond .eq 12, 3) := by decide +kernel
theorem dX1_targets_20 : decode cX1_targets 20 = .ok (.iload_n 2, 1) := by decide +kernel
theorem dX1_targets_21 : decode cX1_targets 21 = .ok (.aload_n 0, 1) := by decide +kernel
theorem dX1_targets_22 : decode cX1_targets 22 = .ok (.getfield 18, 3) := by decide +kernel
theorem dX1_targets_25 : decode cX1_targets 25 = .ok (.iload_n 3, 1) := by decide +kernel
theorem dX1_targets_26 : decode cX1_targets 26 = .ok (.iaload, 1) := by decide +kernel
theorem dX1_targets_27 : decode cX1_targets 27 = .ok (.ior, 1) := by decide +kernel
theorem dX1_targets_28 : decode cX1_targets 28 = .ok (.istore_n 2, 1) := by decide +kernel
theorem dX1_targets_29 : decode cX1_targets 29 = .ok (.iinc 3 1, 3) := by decide +kernel
theorem dX1_targets_32 : decode cX1_targets 32 = .ok (.goto (-28), 3) := by decide +kernel
theorem dX1_targets_35 : decode cX1_targets 35 = .ok (.iload_n 2, 1) := by decide +kernel
theorem dX1_targets_36 : decode cX1_targets 36 = .ok (.ireturn, 1) := by decide +kernel
set_option maxRecDepth 20000 in
theorem ggX1_forcedNext_X6_bit : GoodIn wsX1_forcedNext wsX6_bit := goodIn_r _ [6] (by decide +kernel) (by decide +kernel)
set_option maxRecDepth 20000 in
theorem gX1_forcedNext_X6_bit_n31 : GoodIn wsX1_forcedNext (wsX6_bit) := ggX1_forcedNext_X6_bit
theorem dX1_forcedNext_0 : decode cX1_forcedNext 0 = .ok (.iload_n 2, 1) := by decide +kernel
theorem dX1_forcedNext_1 : decode cX1_forcedNext 1 = .ok (.istore_n 3, 1) := by decide +kernel
theorem dX1_forcedNext_2 : decode cX1_forcedNext 2 = .ok (.iconst 0, 1) := by decide +kernel
theorem dX1_forcedNext_3 : decode cX1_forcedNext 3 = .ok (.istore 4, 2) := by decide +kernel
theorem dX1_forcedNext_5 : decode cX1_forcedNext 5 = .ok (.iload 4, 2) := by decide +kernel
theorem dX1_forcedNext_7 : decode cX1_forcedNext 7 = .ok (.aload_n 0, 1) := by decide +kernel
theorem dX1_forcedNext_8 : decode cX1_forcedNext 8 = .ok (.getfield 21, 3) := by decide +kernel
theorem dX1_forcedNext_11 : decode cX1_forcedNext 11 = .ok (.if_icmp .ge 78, 3) := by decide +kernel
theorem dX1_forcedNext_14 : decode cX1_forcedNext 14 = .ok (.aload_n 0, 1) := by decide +kernel
theorem dX1_forcedNext_15 : decode cX1_forcedNext 15 = .ok (.getfield 18, 3) := by decide +kernel
theorem dX1_forcedNext_18 : decode cX1_forcedNext 18 = .ok (.iload 4, 2) := by decide +kernel
theorem dX1_forcedNext_20 : decode cX1_forcedNext 20 = .ok (.iaload, 1) := by decide +kernel
theorem dX1_forcedNext_21 : decode cX1_forcedNext 21 = .ok (.iload_n 2, 1) := by decide +kernel
theorem dX1_forcedNext_22 : decode cX1_forcedNext 22 = .ok (.iand, 1) := by decide +kernel
theorem dX1_forcedNext_23 : decode cX1_forcedNext 23 = .ok (.ifCond .eq 7, 3) := by decide +kernel
theorem dX1_forcedNext_26 : decode cX1_forcedNext 26 = .ok (.iconst 1, 1) := by decide +kernel
theorem dX1_forcedNext_27 : decode cX1_forcedNext 27 = .ok (.goto 4, 3) := by decide +kernel
theorem dX1_forcedNext_30 : decode cX1_forcedNext 30 = .ok (.iconst 0, 1) := by decide +kernel
theorem dX1_forcedNext_31 : decode cX1_forcedNext 31 = .ok (.istore 5, 2) := by decide +kernel
theorem dX1_forcedNext_33 : decode cX1_forcedNext 33 = .ok (.aload_n 0, 1) := by decide +kernel
theorem dX1_forcedNext_34 : decode cX1_forcedNext 34 = .ok (.getfield 18, 3) := by decide +kernel
theorem dX1_forcedNext_37 : decode cX1_forcedNext 37 = .ok (.iload 4, 2) := by decide +kernel
theorem dX1_forcedNext_39 : decode cX1_forcedNext 39 = .ok (.iaload, 1) := by decide +kernel
theorem dX1_forcedNext_40 : decode cX1_forcedNext 40 = .ok (.iload_n 2, 1) := by decide +kernel
theorem dX1_forcedNext_41 : decode cX1_forcedNext 41 = .ok (.iconst (-1), 1) := by decide +kernel
theorem dX1_forcedNext_42 : decode cX1_forcedNext 42 = .ok (.ixor, 1) := by decide +kernel
theorem dX1_forcedNext_43 : decode cX1_forcedNext 43 = .ok (.iand, 1) := by decide +kernel
theorem dX1_forcedNext_44 : decode cX1_forcedNext 44 = .ok (.ifCond .ne 7, 3) := by decide +kernel
theorem dX1_forcedNext_47 : decode cX1_forcedNext 47 = .ok (.iconst 1, 1) := by decide +kernel
theorem dX1_forcedNext_48 : decode cX1_forcedNext 48 = .ok (.goto 4, 3) := by decide +kernel
theorem dX1_forcedNext_51 : decode cX1_forcedNext 51 = .ok (.iconst 0, 1) := by decide +kernel
theorem dX1_forcedNext_52 : decode cX1_forcedNext 52 = .ok (.istore 6, 2) := by decide +kernel
theorem dX1_forcedNext_54 : decode cX1_forcedNext 54 = .ok (.iload 5, 2) := by decide +kernel
theorem dX1_forcedNext_56 : decode cX1_forcedNext 56 = .ok (.ifCond .eq 27, 3) := by decide +kernel
theorem dX1_forcedNext_59 : decode cX1_forcedNext 59 = .ok (.aload_n 0, 1) := by decide +kernel
theorem dX1_forcedNext_60 : decode cX1_forcedNext 60 = .ok (.getfield 9, 3) := by decide +kernel
theorem dX1_forcedNext_63 : decode cX1_forcedNext 63 = .ok (.iload 4, 2) := by decide +kernel
theorem dX1_forcedNext_65 : decode cX1_forcedNext 65 = .ok (.iaload, 1) := by decide +kernel
theorem dX1_forcedNext_66 : decode cX1_forcedNext 66 = .ok (.iload_n 1, 1) := by decide +kernel
theorem dX1_forcedNext_67 : decode cX1_forcedNext 67 = .ok (.if_icmp .eq 8, 3) := by decide +kernel
theorem dX1_forcedNext_70 : decode cX1_forcedNext 70 = .ok (.iload 6, 2) := by decide +kernel
theorem dX1_forcedNext_72 : decode cX1_forcedNext 72 = .ok (.ifCond .eq 11, 3) := by decide +kernel
theorem dX1_forcedNext_75 : decode cX1_forcedNext 75 = .ok (.iload_n 3, 1) := by decide +kernel
theorem dX1_forcedNext_76 : decode cX1_forcedNext 76 = .ok (.iload 4, 2) := by decide +kernel
theorem dX1_forcedNext_78 : decode cX1_forcedNext 78 = .ok (.invokestatic 31, 3) := by decide +kernel
theorem dX1_forcedNext_81 : decode cX1_forcedNext 81 = .ok (.ior, 1) := by decide +kernel
theorem dX1_forcedNext_82 : decode cX1_forcedNext 82 = .ok (.istore_n 3, 1) := by decide +kernel
theorem dX1_forcedNext_83 : decode cX1_forcedNext 83 = .ok (.iinc 4 1, 3) := by decide +kernel
theorem dX1_forcedNext_86 : decode cX1_forcedNext 86 = .ok (.goto (-81), 3) := by decide +kernel
theorem dX1_forcedNext_89 : decode cX1_forcedNext 89 = .ok (.iload_n 3, 1) := by decide +kernel
theorem dX1_forcedNext_90 : decode cX1_forcedNext 90 = .ok (.ireturn, 1) := by decide +kernel
set_option maxRecDepth 20000 in
theorem ggX1_isTrap_X6_contains : GoodIn wsX1_isTrap wsX6_contains := goodIn_r _ [6] (by decide +kernel) (by decide +kernel)
set_option maxRecDepth 20000 in
theorem gX1_isTrap_X6_contains_n43 : GoodIn wsX1_isTrap (wsX6_contains) := ggX1_isTrap_X6_contains
theorem dX1_isTrap_0 : decode cX1_isTrap 0 = .ok (.iconst 0, 1) := by decide +kernel
theorem dX1_isTrap_1 : decode cX1_isTrap 1 = .ok (.istore_n 3, 1) := by decide +kernel
theorem dX1_isTrap_2 : decode cX1_isTrap 2 = .ok (.iload_n 3, 1) := by decide +kernel
theorem dX1_isTrap_3 : decode cX1_isTrap 3 = .ok (.aload_n 0, 1) := by decide +kernel
theorem dX1_isTrap_4 : decode cX1_isTrap 4 = .ok (.getfield 21, 3) := by decide +kernel
theorem dX1_isTrap_7 : decode cX1_isTrap 7 = .ok (.if_icmp .ge 89, 3) := by decide +kernel
theorem dX1_isTrap_10 : decode cX1_isTrap 10 = .ok (.aload_n 0, 1) := by decide +kernel
theorem dX1_isTrap_11 : decode cX1_isTrap 11 = .ok (.getfield 18, 3) := by decide +kernel
theorem dX1_isTrap_14 : decode cX1_isTrap 14 = .ok (.iload_n 3, 1) := by decide +kernel
theorem dX1_isTrap_15 : decode cX1_isTrap 15 = .ok (.iaload, 1) := by decide +kernel
theorem dX1_isTrap_16 : decode cX1_isTrap 16 = .ok (.iload_n 2, 1) := by decide +kernel
theorem dX1_isTrap_17 : decode cX1_isTrap 17 = .ok (.iconst (-1), 1) := by decide +kernel
theorem dX1_isTrap_18 : decode cX1_isTrap 18 = .ok (.ixor, 1) := by decide +kernel
theorem dX1_isTrap_19 : decode cX1_isTrap 19 = .ok (.iand, 1) := by decide +kernel
theorem dX1_isTrap_20 : decode cX1_isTrap 20 = .ok (.ifCond .eq 7, 3) := by decide +kernel
theorem dX1_isTrap_23 : decode cX1_isTrap 23 = .ok (.iconst 1, 1) := by decide +kernel
theorem dX1_isTrap_24 : decode cX1_isTrap 24 = .ok (.goto 4, 3) := by decide +kernel
theorem dX1_isTrap_27 : decode cX1_isTrap 27 = .ok (.iconst 0, 1) := by decide +kernel
theorem dX1_isTrap_28 : decode cX1_isTrap 28 = .ok (.istore 4, 2) := by decide +kernel
theorem dX1_isTrap_30 : decode cX1_isTrap 30 = .ok (.aload_n 0, 1) := by decide +kernel
theorem dX1_isTrap_31 : decode cX1_isTrap 31 = .ok (.getfield 18, 3) := by decide +kernel
theorem dX1_isTrap_34 : decode cX1_isTrap 34 = .ok (.iload_n 3, 1) := by decide +kernel
theorem dX1_isTrap_35 : decode cX1_isTrap 35 = .ok (.iaload, 1) := by decide +kernel
theorem dX1_isTrap_36 : decode cX1_isTrap 36 = .ok (.iload_n 2, 1) := by decide +kernel
theorem dX1_isTrap_37 : decode cX1_isTrap 37 = .ok (.iand, 1) := by decide +kernel
theorem dX1_isTrap_38 : decode cX1_isTrap 38 = .ok (.ifCond .eq 7, 3) := by decide +kernel
theorem dX1_isTrap_41 : decode cX1_isTrap 41 = .ok (.iconst 1, 1) := by decide +kernel
theorem dX1_isTrap_42 : decode cX1_isTrap 42 = .ok (.goto 4, 3) := by decide +kernel
theorem dX1_isTrap_45 : decode cX1_isTrap 45 = .ok (.iconst 0, 1) := by decide +kernel
theorem dX1_isTrap_46 : decode cX1_isTrap 46 = .ok (.istore 5, 2) := by decide +kernel
theorem dX1_isTrap_48 : decode cX1_isTrap 48 = .ok (.aload_n 0, 1) := by decide +kernel
theorem dX1_isTrap_49 : decode cX1_isTrap 49 = .ok (.getfield 9, 3) := by decide +kernel
theorem dX1_isTrap_52 : decode cX1_isTrap 52 = .ok (.iload_n 3, 1) := by decide +kernel
theorem dX1_isTrap_53 : decode cX1_isTrap 53 = .ok (.iaload, 1) := by decide +kernel
theorem dX1_isTrap_54 : decode cX1_isTrap 54 = .ok (.iload_n 1, 1) := by decide +kernel
theorem dX1_isTrap_55 : decode cX1_isTrap 55 = .ok (.if_icmp .ne 8, 3) := by decide +kernel
theorem dX1_isTrap_58 : decode cX1_isTrap 58 = .ok (.iload 4, 2) := by decide +kernel
theorem dX1_isTrap_60 : decode cX1_isTrap 60 = .ok (.goto 13, 3) := by decide +kernel
theorem dX1_isTrap_63 : decode cX1_isTrap 63 = .ok (.iload 5, 2) := by decide +kernel
theorem dX1_isTrap_65 : decode cX1_isTrap 65 = .ok (.ifCond .ne 7, 3) := by decide +kernel
theorem dX1_isTrap_68 : decode cX1_isTrap 68 = .ok (.iconst 1, 1) := by decide +kernel
theorem dX1_isTrap_69 : decode cX1_isTrap 69 = .ok (.goto 4, 3) := by decide +kernel
theorem dX1_isTrap_72 : decode cX1_isTrap 72 = .ok (.iconst 0, 1) := by decide +kernel
theorem dX1_isTrap_73 : decode cX1_isTrap 73 = .ok (.istore 6, 2) := by decide +kernel
theorem dX1_isTrap_75 : decode cX1_isTrap 75 = .ok (.iload_n 2, 1) := by decide +kernel
theorem dX1_isTrap_76 : decode cX1_isTrap 76 = .ok (.iload_n 3, 1) := by decide +kernel
theorem dX1_isTrap_77 : decode cX1_isTrap 77 = .ok (.invokestatic 43, 3) := by decide +kernel
theorem dX1_isTrap_80 : decode cX1_isTrap 80 = .ok (.ifCond .eq 10, 3) := by decide +kernel
theorem dX1_isTrap_83 : decode cX1_isTrap 83 = .ok (.iload 6, 2) := by decide +kernel
theorem dX1_isTrap_85 : decode cX1_isTrap 85 = .ok (.ifCond .eq 5, 3) := by decide +kernel
theorem dX1_isTrap_88 : decode cX1_isTrap 88 = .ok (.iconst 0, 1) := by decide +kernel
theorem dX1_isTrap_89 : decode cX1_isTrap 89 = .ok (.ireturn, 1) := by decide +kernel
theorem dX1_isTrap_90 : decode cX1_isTrap 90 = .ok (.iinc 3 1, 3) := by decide +kernel
theorem dX1_isTrap_93 : decode cX1_isTrap 93 = .ok (.goto (-91), 3) := by decide +kernel
theorem dX1_isTrap_96 : decode cX1_isTrap 96 = .ok (.iconst 1, 1) := by decide +kernel
theorem dX1_isTrap_97 : decode cX1_isTrap 97 = .ok (.ireturn, 1) := by decide +kernel
set_option maxRecDepth 20000 in
theorem ggX1_reached_X1_targets : GoodIn wsX1_reached wsX1_targets := goodIn_r _ [6, 1, 7, 8, 9, 10, 11, 12, 13, 14] (by decide +kernel) (by decide +kernel)
set_option maxRecDepth 20000 in
theorem gX1_reached_X1_targets : GoodIn wsX1_reached (wsV RX1 55 RX1 yX1_targets wsX1_targets) := goodIn_app (goodIn_of _ (by decide +kernel)) ggX1_reached_X1_targets
theorem dX1_reached_0 : decode cX1_reached 0 = .ok (.iconst 0, 1) := by decide +kernel
theorem dX1_reached_1 : decode cX1_reached 1 = .ok (.istore_n 3, 1) := by decide +kernel
theorem dX1_reached_2 : decode cX1_reached 2 = .ok (.iconst 1, 1) := by decide +kernel
theorem dX1_reached_3 : decode cX1_reached 3 = .ok (.istore 4, 2) := by decide +kernel
theorem dX1_reached_5 : decode cX1_reached 5 = .ok (.iload 4, 2) := by decide +kernel
theorem dX1_reached_7 : decode cX1_reached 7 = .ok (.aload_n 0, 1) := by decide +kernel
theorem dX1_reached_8 : decode cX1_reached 8 = .ok (.getfield 21, 3) := by decide +kernel
theorem dX1_reached_11 : decode cX1_reached 11 = .ok (.if_icmp .gt 21, 3) := by decide +kernel
theorem dX1_reached_14 : decode cX1_reached 14 = .ok (.iload_n 3, 1) := by decide +kernel
theorem dX1_reached_15 : decode cX1_reached 15 = .ok (.aload_n 0, 1) := by decide +kernel
theorem dX1_reached_16 : decode cX1_reached 16 = .ok (.iload_n 1, 1) := by decide +kernel
theorem dX1_reached_17 : decode cX1_reached 17 = .ok (.iload_n 3, 1) := by decide +kernel
theorem dX1_reached_18 : decode cX1_reached 18 = .ok (.ior, 1) := by decide +kernel
theorem dX1_reached_19 : decode cX1_reached 19 = .ok (.invokevirtual 55, 3) := by decide +kernel
theorem dX1_reached_22 : decode cX1_reached 22 = .ok (.iload_n 2, 1) := by decide +kernel
theorem dX1_reached_23 : decode cX1_reached 23 = .ok (.iand, 1) := by decide +kernel
theorem dX1_reached_24 : decode cX1_reached 24 = .ok (.ior, 1) := by decide +kernel
theorem dX1_reached_25 : decode cX1_reached 25 = .ok (.istore_n 3, 1) := by decide +kernel
theorem dX1_reached_26 : decode cX1_reached 26 = .ok (.iinc 4 1, 3) := by decide +kernel
theorem dX1_reached_29 : decode cX1_reached 29 = .ok (.goto (-24), 3) := by decide +kernel
theorem dX1_reached_32 : decode cX1_reached 32 = .ok (.iload_n 3, 1) := by decide +kernel
theorem dX1_reached_33 : decode cX1_reached 33 = .ok (.ireturn, 1) := by decide +kernel
set_option maxRecDepth 20000 in
theorem ggX1_reaching_X1_sources : GoodIn wsX1_reaching wsX1_sources := goodIn_r _ [6, 1, 7, 8, 9, 10, 11, 12, 13, 14] (by decide +kernel) (by decide +kernel)
set_option maxRecDepth 20000 in
theorem gX1_reaching_X1_sources : GoodIn wsX1_reaching (wsV RX1 58 RX1 yX1_sources wsX1_sources) := goodIn_app (goodIn_of _ (by decide +kernel)) ggX1_reaching_X1_sources
theorem dX1_reaching_0 : decode cX1_reaching 0 = .ok (.iconst 0, 1) := by decide +kernel
theorem dX1_reaching_1 : decode cX1_reaching 1 = .ok (.istore_n 3, 1) := by decide +kernel
theorem dX1_reaching_2 : decode cX1_reaching 2 = .ok (.iconst 1, 1) := by decide +kernel
theorem dX1_reaching_3 : decode cX1_reaching 3 = .ok (.istore 4, 2) := by decide +kernel
theorem dX1_reaching_5 : decode cX1_reaching 5 = .ok (.iload 4, 2) := by decide +kernel
theorem dX1_reaching_7 : decode cX1_reaching 7 = .ok (.aload_n 0, 1) := by decide +kernel
theorem dX1_reaching_8 : decode cX1_reaching 8 = .ok (.getfield 21, 3) := by decide +kernel
theorem dX1_reaching_11 : decode cX1_reaching 11 = .ok (.if_icmp .gt 21, 3) := by decide +kernel
theorem dX1_reaching_14 : decode cX1_reaching 14 = .ok (.iload_n 3, 1) := by decide +kernel
theorem dX1_reaching_15 : decode cX1_reaching 15 = .ok (.aload_n 0, 1) := by decide +kernel
theorem dX1_reaching_16 : decode cX1_reaching 16 = .ok (.iload_n 1, 1) := by decide +kernel
theorem dX1_reaching_17 : decode cX1_reaching 17 = .ok (.iload_n 3, 1) := by decide +kernel
theorem dX1_reaching_18 : decode cX1_reaching 18 = .ok (.ior, 1) := by decide +kernel
theorem dX1_reaching_19 : decode cX1_reaching 19 = .ok (.invokevirtual 58, 3) := by decide +kernel
theorem dX1_reaching_22 : decode cX1_reaching 22 = .ok (.iload_n 2, 1) := by decide +kernel
theorem dX1_reaching_23 : decode cX1_reaching 23 = .ok (.iand, 1) := by decide +kernel
theorem dX1_reaching_24 : decode cX1_reaching 24 = .ok (.ior, 1) := by decide +kernel
theorem dX1_reaching_25 : decode cX1_reaching 25 = .ok (.istore_n 3, 1) := by decide +kernel
theorem dX1_reaching_26 : decode cX1_reaching 26 = .ok (.iinc 4 1, 3) := by decide +kernel
theorem dX1_reaching_29 : decode cX1_reaching 29 = .ok (.goto (-24), 3) := by decide +kernel
theorem dX1_reaching_32 : decode cX1_reaching 32 = .ok (.iload_n 3, 1) := by decide +kernel
theorem dX1_reaching_33 : decode cX1_reaching 33 = .ok (.ireturn, 1) := by decide +kernel
set_option maxRecDepth 20000 in
theorem ggX1_notLess_X6_bit : GoodIn wsX1_notLess wsX6_bit := goodIn_r _ [5] (by decide +kernel) (by decide +kernel)
set_option maxRecDepth 20000 in
theorem gX1_notLess_X6_bit_n31 : GoodIn wsX1_notLess (wsX6_bit) := ggX1_notLess_X6_bit
theorem dX1_notLess_0 : decode cX1_notLess 0 = .ok (.iconst 0, 1) := by decide +kernel
theorem dX1_notLess_1 : decode cX1_notLess 1 = .ok (.istore_n 2, 1) := by decide +kernel
theorem dX1_notLess_2 : decode cX1_notLess 2 = .ok (.iconst 0, 1) := by decide +kernel
theorem dX1_notLess_3 : decode cX1_notLess 3 = .ok (.istore_n 3, 1) := by decide +kernel
theorem dX1_notLess_4 : decode cX1_notLess 4 = .ok (.iload_n 3, 1) := by decide +kernel
theorem dX1_notLess_5 : decode cX1_notLess 5 = .ok (.aload_n 0, 1) := by decide +kernel
theorem dX1_notLess_6 : decode cX1_notLess 6 = .ok (.getfield 21, 3) := by decide +kernel
theorem dX1_notLess_9 : decode cX1_notLess 9 = .ok (.if_icmp .ge 31, 3) := by decide +kernel
theorem dX1_notLess_12 : decode cX1_notLess 12 = .ok (.aload_n 0, 1) := by decide +kernel
theorem dX1_notLess_13 : decode cX1_notLess 13 = .ok (.getfield 15, 3) := by decide +kernel
theorem dX1_notLess_16 : decode cX1_notLess 16 = .ok (.iload_n 3, 1) := by decide +kernel
theorem dX1_notLess_17 : decode cX1_notLess 17 = .ok (.iaload, 1) := by decide +kernel
theorem dX1_notLess_18 : decode cX1_notLess 18 = .ok (.aload_n 0, 1) := by decide +kernel
theorem dX1_notLess_19 : decode cX1_notLess 19 = .ok (.getfield 15, 3) := by decide +kernel
theorem dX1_notLess_22 : decode cX1_notLess 22 = .ok (.iload_n 1, 1) := by decide +kernel
theorem dX1_notLess_23 : decode cX1_notLess 23 = .ok (.iaload, 1) := by decide +kernel
theorem dX1_notLess_24 : decode cX1_notLess 24 = .ok (.if_icmp .lt 10, 3) := by decide +kernel
theorem dX1_notLess_27 : decode cX1_notLess 27 = .ok (.iload_n 2, 1) := by decide +kernel
theorem dX1_notLess_28 : decode cX1_notLess 28 = .ok (.iload_n 3, 1) := by decide +kernel
theorem dX1_notLess_29 : decode cX1_notLess 29 = .ok (.invokestatic 31, 3) := by decide +kernel
theorem dX1_notLess_32 : decode cX1_notLess 32 = .ok (.ior, 1) := by decide +kernel
theorem dX1_notLess_33 : decode cX1_notLess 33 = .ok (.istore_n 2, 1) := by decide +kernel
theorem dX1_notLess_34 : decode cX1_notLess 34 = .ok (.iinc 3 1, 3) := by decide +kernel
theorem dX1_notLess_37 : decode cX1_notLess 37 = .ok (.goto (-33), 3) := by decide +kernel
theorem dX1_notLess_40 : decode cX1_notLess 40 = .ok (.iload_n 2, 1) := by decide +kernel
theorem dX1_notLess_41 : decode cX1_notLess 41 = .ok (.ireturn, 1) := by decide +kernel
set_option maxRecDepth 20000 in
theorem ggX1_ringPlaces_X1_notLess : GoodIn wsX1_ringPlaces wsX1_notLess := goodIn_r _ [5, 6, 7, 8, 9, 10, 30, 31, 32, 33] (by decide +kernel) (by decide +kernel)
set_option maxRecDepth 20000 in
theorem gX1_ringPlaces_X1_notLess : GoodIn wsX1_ringPlaces (wsV RX1 61 RX1 yX1_notLess wsX1_notLess) := goodIn_app (goodIn_of _ (by decide +kernel)) ggX1_ringPlaces_X1_notLess
set_option maxRecDepth 20000 in
theorem ggX1_ringPlaces_X6_bit : GoodIn wsX1_ringPlaces wsX6_bit := goodIn_r _ [10] (by decide +kernel) (by decide +kernel)
set_option maxRecDepth 20000 in
theorem gX1_ringPlaces_X6_bit_n31 : GoodIn wsX1_ringPlaces (wsX6_bit) := ggX1_ringPlaces_X6_bit
set_option maxRecDepth 20000 in
theorem ggX1_ringPlaces_X1_reached : GoodIn wsX1_ringPlaces wsX1_reached := goodIn_r _ [14, 6, 15, 16, 17, 4, 18, 19, 20, 9, 21, 30, 31, 32, 33] (by decide +kernel) (by decide +kernel)
set_option maxRecDepth 20000 in
theorem gX1_ringPlaces_X1_reached : GoodIn wsX1_ringPlaces (wsV RX1 64 RX1 yX1_reached wsX1_reached) := goodIn_app (goodIn_of _ (by decide +kernel)) ggX1_ringPlaces_X1_reached
set_option maxRecDepth 20000 in
theorem ggX1_ringPlaces_X1_reaching : GoodIn wsX1_ringPlaces wsX1_reaching := goodIn_r _ [25, 6, 26, 27, 28, 4, 29, 19, 8, 9, 10, 30, 31, 32, 33] (by decide +kernel) (by decide +kernel)
set_option maxRecDepth 20000 in
theorem gX1_ringPlaces_X1_reaching : GoodIn wsX1_ringPlaces (wsV RX1 68 RX1 yX1_reaching wsX1_reaching) := goodIn_app (goodIn_of _ (by decide +kernel)) ggX1_ringPlaces_X1_reaching
set_option maxRecDepth 20000 in
theorem ggX1_ringPlaces_X6_contains : GoodIn wsX1_ringPlaces wsX6_contains := goodIn_r _ [21] (by decide +kernel) (by decide +kernel)
set_option maxRecDepth 20000 in
theorem gX1_ringPlaces_X6_contains_n43 : GoodIn wsX1_ringPlaces (wsX6_contains) := ggX1_ringPlaces_X6_contains
theorem dX1_ringPlaces_0 : decode cX1_ringPlaces 0 = .ok (.aload_n 0, 1) := by decide +kernel
theorem dX1_ringPlaces_1 : decode cX1_ringPlaces 1 = .ok (.iload_n 1, 1) := by decide +kernel
theorem dX1_ringPlaces_2 : decode cX1_ringPlaces 2 = .ok (.invokevirtual 61, 3) := by decide +kernel
theorem dX1_ringPlaces_5 : decode cX1_ringPlaces 5 = .ok (.istore_n 2, 1) := by decide +kernel
theorem dX1_ringPlaces_6 : decode cX1_ringPlaces 6 = .ok (.aload_n 0, 1) := by decide +kernel
theorem dX1_ringPlaces_7 : decode cX1_ringPlaces 7 = .ok (.iload_n 1, 1) := by decide +kernel
theorem dX1_ringPlaces_8 : decode cX1_ringPlaces 8 = .ok (.invokestatic 31, 3) := by decide +kernel
theorem dX1_ringPlaces_11 : decode cX1_ringPlaces 11 = .ok (.iload_n 2, 1) := by decide +kernel
theorem dX1_ringPlaces_12 : decode cX1_ringPlaces 12 = .ok (.invokevirtual 64, 3) := by decide +kernel
theorem dX1_ringPlaces_15 : decode cX1_ringPlaces 15 = .ok (.aload_n 0, 1) := by decide +kernel
theorem dX1_ringPlaces_16 : decode cX1_ringPlaces 16 = .ok (.iload_n 1, 1) := by decide +kernel
theorem dX1_ringPlaces_17 : decode cX1_ringPlaces 17 = .ok (.invokestatic 31, 3) := by decide +kernel
theorem dX1_ringPlaces_20 : decode cX1_ringPlaces 20 = .ok (.iload_n 2, 1) := by decide +kernel
theorem dX1_ringPlaces_21 : decode cX1_ringPlaces 21 = .ok (.invokevirtual 68, 3) := by decide +kernel
theorem dX1_ringPlaces_24 : decode cX1_ringPlaces 24 = .ok (.iand, 1) := by decide +kernel
theorem dX1_ringPlaces_25 : decode cX1_ringPlaces 25 = .ok (.istore_n 3, 1) := by decide +kernel
theorem dX1_ringPlaces_26 : decode cX1_ringPlaces 26 = .ok (.iload_n 3, 1) := by decide +kernel
theorem dX1_ringPlaces_27 : decode cX1_ringPlaces 27 = .ok (.iload_n 1, 1) := by decide +kernel
theorem dX1_ringPlaces_28 : decode cX1_ringPlaces 28 = .ok (.invokestatic 43, 3) := by decide +kernel
theorem dX1_ringPlaces_31 : decode cX1_ringPlaces 31 = .ok (.ifCond .eq 7, 3) := by decide +kernel
theorem dX1_ringPlaces_34 : decode cX1_ringPlaces 34 = .ok (.iload_n 3, 1) := by decide +kernel
theorem dX1_ringPlaces_35 : decode cX1_ringPlaces 35 = .ok (.goto 4, 3) := by decide +kernel
theorem dX1_ringPlaces_38 : decode cX1_ringPlaces 38 = .ok (.iconst 0, 1) := by decide +kernel
theorem dX1_ringPlaces_39 : decode cX1_ringPlaces 39 = .ok (.ireturn, 1) := by decide +kernel
theorem dX1_isBadColour_0 : decode cX1_isBadColour 0 = .ok (.iload_n 2, 1) := by decide +kernel
theorem dX1_isBadColour_1 : decode cX1_isBadColour 1 = .ok (.iconst 2, 1) := by decide +kernel
theorem dX1_isBadColour_2 : decode cX1_isBadColour 2 = .ok (.irem, 1) := by decide +kernel
theorem dX1_isBadColour_3 : decode cX1_isBadColour 3 = .ok (.iload_n 1, 1) := by decide +kernel
theorem dX1_isBadColour_4 : decode cX1_isBadColour 4 = .ok (.if_icmp .eq 7, 3) := by decide +kernel
theorem dX1_isBadColour_7 : decode cX1_isBadColour 7 = .ok (.iconst 1, 1) := by decide +kernel
theorem dX1_isBadColour_8 : decode cX1_isBadColour 8 = .ok (.goto 4, 3) := by decide +kernel
theorem dX1_isBadColour_11 : decode cX1_isBadColour 11 = .ok (.iconst 0, 1) := by decide +kernel
theorem dX1_isBadColour_12 : decode cX1_isBadColour 12 = .ok (.ireturn, 1) := by decide +kernel
set_option maxRecDepth 20000 in
theorem ggX1_badRingPlaces_X1_isBadColour : GoodIn wsX1_badRingPlaces wsX1_isBadColour := goodIn_r _ [7] (by decide +kernel) (by decide +kernel)
set_option maxRecDepth 20000 in
theorem gX1_badRingPlaces_X1_isBadColour : GoodIn wsX1_badRingPlaces (wsV RX1 71 RX1 yX1_isBadColour wsX1_isBadColour) := goodIn_app (goodIn_of _ (by decide +kernel)) ggX1_badRingPlaces_X1_isBadColour
set_option maxRecDepth 20000 in
theorem ggX1_badRingPlaces_X1_ringPlaces : GoodIn wsX1_badRingPlaces wsX1_ringPlaces := goodIn_r _ [11, 12, 13, 14, 6, 15, 1, 2, 16, 17, 18, 19, 20, 21, 22, 23, 24, 25, 26, 27, 28, 29, 30, 31, 32, 33, 34, 35, 36, 37, 38, 39, 40, 41] (by decide +kernel) (by decide +kernel)
set_option maxRecDepth 20000 in
theorem gX1_badRingPlaces_X1_ringPlaces : GoodIn wsX1_badRingPlaces (wsV RX1 74 RX1 yX1_ringPlaces wsX1_ringPlaces) := goodIn_app (goodIn_of _ (by decide +kernel)) ggX1_badRingPlaces_X1_ringPlaces
theorem dX1_badRingPlaces_0 : decode cX1_badRingPlaces 0 = .ok (.iconst 0, 1) := by decide +kernel
theorem dX1_badRingPlaces_1 : decode cX1_badRingPlaces 1 = .ok (.istore_n 2, 1) := by decide +kernel
theorem dX1_badRingPlaces_2 : decode cX1_badRingPlaces 2 = .ok (.iconst 0, 1) := by decide +kernel
theorem dX1_badRingPlaces_3 : decode cX1_badRingPlaces 3 = .ok (.istore_n 3, 1) := by decide +kernel
theorem dX1_badRingPlaces_4 : decode cX1_badRingPlaces 4 = .ok (.iload_n 3, 1) := by decide +kernel
theorem dX1_badRingPlaces_5 : decode cX1_badRingPlaces 5 = .ok (.aload_n 0, 1) := by decide +kernel
theorem dX1_badRingPlaces_6 : decode cX1_badRingPlaces 6 = .ok (.getfield 21, 3) := by decide +kernel
theorem dX1_badRingPlaces_9 : decode cX1_badRingPlaces 9 = .ok (.if_icmp .ge 31, 3) := by decide +kernel
theorem dX1_badRingPlaces_12 : decode cX1_badRingPlaces 12 = .ok (.aload_n 0, 1) := by decide +kernel
theorem dX1_badRingPlaces_13 : decode cX1_badRingPlaces 13 = .ok (.iload_n 1, 1) := by decide +kernel
theorem dX1_badRingPlaces_14 : decode cX1_badRingPlaces 14 = .ok (.aload_n 0, 1) := by decide +kernel
theorem dX1_badRingPlaces_15 : decode cX1_badRingPlaces 15 = .ok (.getfield 15, 3) := by decide +kernel
theorem dX1_badRingPlaces_18 : decode cX1_badRingPlaces 18 = .ok (.iload_n 3, 1) := by decide +kernel
theorem dX1_badRingPlaces_19 : decode cX1_badRingPlaces 19 = .ok (.iaload, 1) := by decide +kernel
theorem dX1_badRingPlaces_20 : decode cX1_badRingPlaces 20 = .ok (.invokevirtual 71, 3) := by decide +kernel
theorem dX1_badRingPlaces_23 : decode cX1_badRingPlaces 23 = .ok (.ifCond .eq 11, 3) := by decide +kernel
theorem dX1_badRingPlaces_26 : decode cX1_badRingPlaces 26 = .ok (.iload_n 2, 1) := by decide +kernel
theorem dX1_badRingPlaces_27 : decode cX1_badRingPlaces 27 = .ok (.aload_n 0, 1) := by decide +kernel
theorem dX1_badRingPlaces_28 : decode cX1_badRingPlaces 28 = .ok (.iload_n 3, 1) := by decide +kernel
theorem dX1_badRingPlaces_29 : decode cX1_badRingPlaces 29 = .ok (.invokevirtual 74, 3) := by decide +kernel
theorem dX1_badRingPlaces_32 : decode cX1_badRingPlaces 32 = .ok (.ior, 1) := by decide +kernel
theorem dX1_badRingPlaces_33 : decode cX1_badRingPlaces 33 = .ok (.istore_n 2, 1) := by decide +kernel
theorem dX1_badRingPlaces_34 : decode cX1_badRingPlaces 34 = .ok (.iinc 3 1, 3) := by decide +kernel
theorem dX1_badRingPlaces_37 : decode cX1_badRingPlaces 37 = .ok (.goto (-33), 3) := by decide +kernel
theorem dX1_badRingPlaces_40 : decode cX1_badRingPlaces 40 = .ok (.iload_n 2, 1) := by decide +kernel
theorem dX1_badRingPlaces_41 : decode cX1_badRingPlaces 41 = .ok (.ireturn, 1) := by decide +kernel
set_option maxRecDepth 20000 in
theorem ggX1_leastBadColour_X1_isBadColour : GoodIn wsX1_leastBadColour wsX1_isBadColour := goodIn_r _ [7] (by decide +kernel) (by decide +kernel)
set_option maxRecDepth 20000 in
theorem gX1_leastBadColour_X1_isBadColour : GoodIn wsX1_leastBadColour (wsV RX1 71 RX1 yX1_isBadColour wsX1_isBadColour) := goodIn_app (goodIn_of _ (by decide +kernel)) ggX1_leastBadColour_X1_isBadColour
set_option maxRecDepth 20000 in
theorem ggX1_leastBadColour_X1_ringPlaces : GoodIn wsX1_leastBadColour wsX1_ringPlaces := goodIn_r _ [11, 12, 13, 14, 6, 15, 1, 2, 16, 17, 18, 19, 20, 21, 22, 23, 24, 25, 26, 27, 28, 29, 30, 31, 32, 33, 34, 35, 36, 37, 38, 39, 40, 41] (by decide +kernel) (by decide +kernel)
set_option maxRecDepth 20000 in
theorem gX1_leastBadColour_X1_ringPlaces : GoodIn wsX1_leastBadColour (wsV RX1 74 RX1 yX1_ringPlaces wsX1_ringPlaces) := goodIn_app (goodIn_of _ (by decide +kernel)) ggX1_leastBadColour_X1_ringPlaces
theorem dX1_leastBadColour_0 : decode cX1_leastBadColour 0 = .ok (.bipush (-5), 2) := by decide +kernel
theorem dX1_leastBadColour_2 : decode cX1_leastBadColour 2 = .ok (.istore_n 2, 1) := by decide +kernel
theorem dX1_leastBadColour_3 : decode cX1_leastBadColour 3 = .ok (.iconst 0, 1) := by decide +kernel
theorem dX1_leastBadColour_4 : decode cX1_leastBadColour 4 = .ok (.istore_n 3, 1) := by decide +kernel
theorem dX1_leastBadColour_5 : decode cX1_leastBadColour 5 = .ok (.iload_n 3, 1) := by decide +kernel
theorem dX1_leastBadColour_6 : decode cX1_leastBadColour 6 = .ok (.aload_n 0, 1) := by decide +kernel
theorem dX1_leastBadColour_7 : decode cX1_leastBadColour 7 = .ok (.getfield 21, 3) := by decide +kernel
theorem dX1_leastBadColour_10 : decode cX1_leastBadColour 10 = .ok (.if_icmp .ge 66, 3) := by decide +kernel
theorem dX1_leastBadColour_13 : decode cX1_leastBadColour 13 = .ok (.iload_n 2, 1) := by decide +kernel
theorem dX1_leastBadColour_14 : decode cX1_leastBadColour 14 = .ok (.bipush (-5), 2) := by decide +kernel
theorem dX1_leastBadColour_16 : decode cX1_leastBadColour 16 = .ok (.if_icmp .eq 13, 3) := by decide +kernel
theorem dX1_leastBadColour_19 : decode cX1_leastBadColour 19 = .ok (.aload_n 0, 1) := by decide +kernel
theorem dX1_leastBadColour_20 : decode cX1_leastBadColour 20 = .ok (.getfield 15, 3) := by decide +kernel
theorem dX1_leastBadColour_23 : decode cX1_leastBadColour 23 = .ok (.iload_n 3, 1) := by decide +kernel
theorem dX1_leastBadColour_24 : decode cX1_leastBadColour 24 = .ok (.iaload, 1) := by decide +kernel
theorem dX1_leastBadColour_25 : decode cX1_leastBadColour 25 = .ok (.iload_n 2, 1) := by decide +kernel
theorem dX1_leastBadColour_26 : decode cX1_leastBadColour 26 = .ok (.if_icmp .ge 7, 3) := by decide +kernel
theorem dX1_leastBadColour_29 : decode cX1_leastBadColour 29 = .ok (.iconst 1, 1) := by decide +kernel
theorem dX1_leastBadColour_30 : decode cX1_leastBadColour 30 = .ok (.goto 4, 3) := by decide +kernel
theorem dX1_leastBadColour_33 : decode cX1_leastBadColour 33 = .ok (.iconst 0, 1) := by decide +kernel
theorem dX1_leastBadColour_34 : decode cX1_leastBadColour 34 = .ok (.istore 4, 2) := by decide +kernel
theorem dX1_leastBadColour_36 : decode cX1_leastBadColour 36 = .ok (.iload 4, 2) := by decide +kernel
theorem dX1_leastBadColour_38 : decode cX1_leastBadColour 38 = .ok (.ifCond .eq 32, 3) := by decide +kernel
theorem dX1_leastBadColour_41 : decode cX1_leastBadColour 41 = .ok (.aload_n 0, 1) := by decide +kernel
theorem dX1_leastBadColour_42 : decode cX1_leastBadColour 42 = .ok (.iload_n 1, 1) := by decide +kernel
theorem dX1_leastBadColour_43 : decode cX1_leastBadColour 43 = .ok (.aload_n 0, 1) := by decide +kernel
theorem dX1_leastBadColour_44 : decode cX1_leastBadColour 44 = .ok (.getfield 15, 3) := by decide +kernel
theorem dX1_leastBadColour_47 : decode cX1_leastBadColour 47 = .ok (.iload_n 3, 1) := by decide +kernel
theorem dX1_leastBadColour_48 : decode cX1_leastBadColour 48 = .ok (.iaload, 1) := by decide +kernel
theorem dX1_leastBadColour_49 : decode cX1_leastBadColour 49 = .ok (.invokevirtual 71, 3) := by decide +kernel
theorem dX1_leastBadColour_52 : decode cX1_leastBadColour 52 = .ok (.ifCond .eq 18, 3) := by decide +kernel
theorem dX1_leastBadColour_55 : decode cX1_leastBadColour 55 = .ok (.aload_n 0, 1) := by decide +kernel
theorem dX1_leastBadColour_56 : decode cX1_leastBadColour 56 = .ok (.iload_n 3, 1) := by decide +kernel
theorem dX1_leastBadColour_57 : decode cX1_leastBadColour 57 = .ok (.invokevirtual 74, 3) := by decide +kernel
theorem dX1_leastBadColour_60 : decode cX1_leastBadColour 60 = .ok (.ifCond .eq 10, 3) := by decide +kernel
theorem dX1_leastBadColour_63 : decode cX1_leastBadColour 63 = .ok (.aload_n 0, 1) := by decide +kernel
theorem dX1_leastBadColour_64 : decode cX1_leastBadColour 64 = .ok (.getfield 15, 3) := by decide +kernel
theorem dX1_leastBadColour_67 : decode cX1_leastBadColour 67 = .ok (.iload_n 3, 1) := by decide +kernel
theorem dX1_leastBadColour_68 : decode cX1_leastBadColour 68 = .ok (.iaload, 1) := by decide +kernel
theorem dX1_leastBadColour_69 : decode cX1_leastBadColour 69 = .ok (.istore_n 2, 1) := by decide +kernel
theorem dX1_leastBadColour_70 : decode cX1_leastBadColour 70 = .ok (.iinc 3 1, 3) := by decide +kernel
theorem dX1_leastBadColour_73 : decode cX1_leastBadColour 73 = .ok (.goto (-68), 3) := by decide +kernel
theorem dX1_leastBadColour_76 : decode cX1_leastBadColour 76 = .ok (.iload_n 2, 1) := by decide +kernel
theorem dX1_leastBadColour_77 : decode cX1_leastBadColour 77 = .ok (.ireturn, 1) := by decide +kernel
set_option maxRecDepth 20000 in
theorem ggX1_shortestBadRing_X1_isBadColour : GoodIn wsX1_shortestBadRing wsX1_isBadColour := goodIn_r _ [7] (by decide +kernel) (by decide +kernel)
set_option maxRecDepth 20000 in
theorem gX1_shortestBadRing_X1_isBadColour : GoodIn wsX1_shortestBadRing (wsV RX1 71 RX1 yX1_isBadColour wsX1_isBadColour) := goodIn_app (goodIn_of _ (by decide +kernel)) ggX1_shortestBadRing_X1_isBadColour
set_option maxRecDepth 20000 in
theorem ggX1_shortestBadRing_X1_shortestRing : GoodIn wsX1_shortestBadRing wsX1_shortestRing := goodIn_r _ [11, 1, 12, 13, 14, 6, 15, 2, 16, 17, 18, 19, 20, 21, 22, 23, 24, 25, 26, 27, 28, 29] (by decide +kernel) (by decide +kernel)
set_option maxRecDepth 20000 in
theorem gX1_shortestBadRing_X1_shortestRing : GoodIn wsX1_shortestBadRing (wsV RX1 77 RX1 yX1_shortestRing wsX1_shortestRing) := goodIn_app (goodIn_of _ (by decide +kernel)) ggX1_shortestBadRing_X1_shortestRing
theorem dX1_shortestBadRing_0 : decode cX1_shortestBadRing 0 = .ok (.bipush (-5), 2) := by decide +kernel
theorem dX1_shortestBadRing_2 : decode cX1_shortestBadRing 2 = .ok (.istore_n 2, 1) := by decide +kernel
theorem dX1_shortestBadRing_3 : decode cX1_shortestBadRing 3 = .ok (.iconst 0, 1) := by decide +kernel
theorem dX1_shortestBadRing_4 : decode cX1_shortestBadRing 4 = .ok (.istore_n 3, 1) := by decide +kernel
theorem dX1_shortestBadRing_5 : decode cX1_shortestBadRing 5 = .ok (.iload_n 3, 1) := by decide +kernel
theorem dX1_shortestBadRing_6 : decode cX1_shortestBadRing 6 = .ok (.aload_n 0, 1) := by decide +kernel
theorem dX1_shortestBadRing_7 : decode cX1_shortestBadRing 7 = .ok (.getfield 21, 3) := by decide +kernel
theorem dX1_shortestBadRing_10 : decode cX1_shortestBadRing 10 = .ok (.if_icmp .ge 52, 3) := by decide +kernel
theorem dX1_shortestBadRing_13 : decode cX1_shortestBadRing 13 = .ok (.aload_n 0, 1) := by decide +kernel
theorem dX1_shortestBadRing_14 : decode cX1_shortestBadRing 14 = .ok (.iload_n 1, 1) := by decide +kernel
theorem dX1_shortestBadRing_15 : decode cX1_shortestBadRing 15 = .ok (.aload_n 0, 1) := by decide +kernel
theorem dX1_shortestBadRing_16 : decode cX1_shortestBadRing 16 = .ok (.getfield 15, 3) := by decide +kernel
theorem dX1_shortestBadRing_19 : decode cX1_shortestBadRing 19 = .ok (.iload_n 3, 1) := by decide +kernel
theorem dX1_shortestBadRing_20 : decode cX1_shortestBadRing 20 = .ok (.iaload, 1) := by decide +kernel
theorem dX1_shortestBadRing_21 : decode cX1_shortestBadRing 21 = .ok (.invokevirtual 71, 3) := by decide +kernel
theorem dX1_shortestBadRing_24 : decode cX1_shortestBadRing 24 = .ok (.ifCond .eq 32, 3) := by decide +kernel
theorem dX1_shortestBadRing_27 : decode cX1_shortestBadRing 27 = .ok (.aload_n 0, 1) := by decide +kernel
theorem dX1_shortestBadRing_28 : decode cX1_shortestBadRing 28 = .ok (.iload_n 3, 1) := by decide +kernel
theorem dX1_shortestBadRing_29 : decode cX1_shortestBadRing 29 = .ok (.invokevirtual 77, 3) := by decide +kernel
theorem dX1_shortestBadRing_32 : decode cX1_shortestBadRing 32 = .ok (.istore 4, 2) := by decide +kernel
theorem dX1_shortestBadRing_34 : decode cX1_shortestBadRing 34 = .ok (.iload 4, 2) := by decide +kernel
theorem dX1_shortestBadRing_36 : decode cX1_shortestBadRing 36 = .ok (.bipush (-5), 2) := by decide +kernel
theorem dX1_shortestBadRing_38 : decode cX1_shortestBadRing 38 = .ok (.if_icmp .eq 18, 3) := by decide +kernel
theorem dX1_shortestBadRing_41 : decode cX1_shortestBadRing 41 = .ok (.iload_n 2, 1) := by decide +kernel
theorem dX1_shortestBadRing_42 : decode cX1_shortestBadRing 42 = .ok (.bipush (-5), 2) := by decide +kernel
theorem dX1_shortestBadRing_44 : decode cX1_shortestBadRing 44 = .ok (.if_icmp .eq 9, 3) := by decide +kernel
theorem dX1_shortestBadRing_47 : decode cX1_shortestBadRing 47 = .ok (.iload 4, 2) := by decide +kernel
theorem dX1_shortestBadRing_49 : decode cX1_shortestBadRing 49 = .ok (.iload_n 2, 1) := by decide +kernel
theorem dX1_shortestBadRing_50 : decode cX1_shortestBadRing 50 = .ok (.if_icmp .ge 6, 3) := by decide +kernel
theorem dX1_shortestBadRing_53 : decode cX1_shortestBadRing 53 = .ok (.iload 4, 2) := by decide +kernel
theorem dX1_shortestBadRing_55 : decode cX1_shortestBadRing 55 = .ok (.istore_n 2, 1) := by decide +kernel
theorem dX1_shortestBadRing_56 : decode cX1_shortestBadRing 56 = .ok (.iinc 3 1, 3) := by decide +kernel
theorem dX1_shortestBadRing_59 : decode cX1_shortestBadRing 59 = .ok (.goto (-54), 3) := by decide +kernel
theorem dX1_shortestBadRing_62 : decode cX1_shortestBadRing 62 = .ok (.iload_n 2, 1) := by decide +kernel
theorem dX1_shortestBadRing_63 : decode cX1_shortestBadRing 63 = .ok (.ireturn, 1) := by decide +kernel
set_option maxRecDepth 20000 in
theorem ggX1_shortestRing_X1_notLess : GoodIn wsX1_shortestRing wsX1_notLess := goodIn_r _ [6, 1, 7, 8, 9, 10, 18, 19, 20, 21] (by decide +kernel) (by decide +kernel)
set_option maxRecDepth 20000 in
theorem gX1_shortestRing_X1_notLess : GoodIn wsX1_shortestRing (wsV RX1 61 RX1 yX1_notLess wsX1_notLess) := goodIn_app (goodIn_of _ (by decide +kernel)) ggX1_shortestRing_X1_notLess
set_option maxRecDepth 20000 in
theorem ggX1_shortestRing_X6_bit : GoodIn wsX1_shortestRing wsX6_bit := goodIn_r _ [10] (by decide +kernel) (by decide +kernel)
set_option maxRecDepth 20000 in
theorem gX1_shortestRing_X6_bit_n31 : GoodIn wsX1_shortestRing (wsX6_bit) := ggX1_shortestRing_X6_bit
set_option maxRecDepth 20000 in
theorem ggX1_shortestRing_X1_targets : GoodIn wsX1_shortestRing wsX1_targets := goodIn_r _ [14, 1, 15, 16, 9, 17, 18, 19, 20, 21] (by decide +kernel) (by decide +kernel)
set_option maxRecDepth 20000 in
theorem gX1_shortestRing_X1_targets : GoodIn wsX1_shortestRing (wsV RX1 55 RX1 yX1_targets wsX1_targets) := goodIn_app (goodIn_of _ (by decide +kernel)) ggX1_shortestRing_X1_targets
set_option maxRecDepth 20000 in
theorem ggX1_shortestRing_X6_contains : GoodIn wsX1_shortestRing wsX6_contains := goodIn_r _ [17] (by decide +kernel) (by decide +kernel)
set_option maxRecDepth 20000 in
theorem gX1_shortestRing_X6_contains_n43 : GoodIn wsX1_shortestRing (wsX6_contains) := ggX1_shortestRing_X6_contains
theorem dX1_shortestRing_0 : decode cX1_shortestRing 0 = .ok (.aload_n 0, 1) := by decide +kernel
theorem dX1_shortestRing_1 : decode cX1_shortestRing 1 = .ok (.iload_n 1, 1) := by decide +kernel
theorem dX1_shortestRing_2 : decode cX1_shortestRing 2 = .ok (.invokevirtual 61, 3) := by decide +kernel
theorem dX1_shortestRing_5 : decode cX1_shortestRing 5 = .ok (.istore_n 2, 1) := by decide +kernel
theorem dX1_shortestRing_6 : decode cX1_shortestRing 6 = .ok (.iload_n 1, 1) := by decide +kernel
theorem dX1_shortestRing_7 : decode cX1_shortestRing 7 = .ok (.invokestatic 31, 3) := by decide +kernel
theorem dX1_shortestRing_10 : decode cX1_shortestRing 10 = .ok (.istore_n 3, 1) := by decide +kernel
theorem dX1_shortestRing_11 : decode cX1_shortestRing 11 = .ok (.iconst 1, 1) := by decide +kernel
theorem dX1_shortestRing_12 : decode cX1_shortestRing 12 = .ok (.istore 4, 2) := by decide +kernel
theorem dX1_shortestRing_14 : decode cX1_shortestRing 14 = .ok (.iload 4, 2) := by decide +kernel
theorem dX1_shortestRing_16 : decode cX1_shortestRing 16 = .ok (.aload_n 0, 1) := by decide +kernel
theorem dX1_shortestRing_17 : decode cX1_shortestRing 17 = .ok (.getfield 21, 3) := by decide +kernel
theorem dX1_shortestRing_20 : decode cX1_shortestRing 20 = .ok (.if_icmp .gt 28, 3) := by decide +kernel
theorem dX1_shortestRing_23 : decode cX1_shortestRing 23 = .ok (.aload_n 0, 1) := by decide +kernel
theorem dX1_shortestRing_24 : decode cX1_shortestRing 24 = .ok (.iload_n 3, 1) := by decide +kernel
theorem dX1_shortestRing_25 : decode cX1_shortestRing 25 = .ok (.invokevirtual 55, 3) := by decide +kernel
theorem dX1_shortestRing_28 : decode cX1_shortestRing 28 = .ok (.iload_n 2, 1) := by decide +kernel
theorem dX1_shortestRing_29 : decode cX1_shortestRing 29 = .ok (.iand, 1) := by decide +kernel
theorem dX1_shortestRing_30 : decode cX1_shortestRing 30 = .ok (.istore_n 3, 1) := by decide +kernel
theorem dX1_shortestRing_31 : decode cX1_shortestRing 31 = .ok (.iload_n 3, 1) := by decide +kernel
theorem dX1_shortestRing_32 : decode cX1_shortestRing 32 = .ok (.iload_n 1, 1) := by decide +kernel
theorem dX1_shortestRing_33 : decode cX1_shortestRing 33 = .ok (.invokestatic 43, 3) := by decide +kernel
theorem dX1_shortestRing_36 : decode cX1_shortestRing 36 = .ok (.ifCond .eq 6, 3) := by decide +kernel
theorem dX1_shortestRing_39 : decode cX1_shortestRing 39 = .ok (.iload 4, 2) := by decide +kernel
theorem dX1_shortestRing_41 : decode cX1_shortestRing 41 = .ok (.ireturn, 1) := by decide +kernel
theorem dX1_shortestRing_42 : decode cX1_shortestRing 42 = .ok (.iinc 4 1, 3) := by decide +kernel
theorem dX1_shortestRing_45 : decode cX1_shortestRing 45 = .ok (.goto (-31), 3) := by decide +kernel
theorem dX1_shortestRing_48 : decode cX1_shortestRing 48 = .ok (.bipush (-5), 2) := by decide +kernel
theorem dX1_shortestRing_50 : decode cX1_shortestRing 50 = .ok (.ireturn, 1) := by decide +kernel
set_option maxRecDepth 20000 in
theorem ggX2_init_X4_init : GoodIn wsX2_init wsX4_init := goodIn_r _ [9, 10, 2, 3, 11, 12, 13, 14, 15, 16, 17, 18, 19, 20, 21, 22, 23, 30, 31, 32, 33, 26, 27, 28, 29] (by decide +kernel) (by decide +kernel)
set_option maxRecDepth 20000 in
theorem gX2_init_X4_init_n17 : GoodIn wsX2_init (wsX4_init) := ggX2_init_X4_init
theorem dX2_init_0 : decode cX2_init 0 = .ok (.aload_n 0, 1) := by decide +kernel
theorem dX2_init_1 : decode cX2_init 1 = .ok (.invokespecial 3, 3) := by decide +kernel
theorem dX2_init_4 : decode cX2_init 4 = .ok (.aload_n 0, 1) := by decide +kernel
theorem dX2_init_5 : decode cX2_init 5 = .ok (.iconst 4, 1) := by decide +kernel
theorem dX2_init_6 : decode cX2_init 6 = .ok (.anewarray 9, 3) := by decide +kernel
theorem dX2_init_9 : decode cX2_init 9 = .ok (.putfield 11, 3) := by decide +kernel
theorem dX2_init_12 : decode cX2_init 12 = .ok (.iconst 0, 1) := by decide +kernel
theorem dX2_init_13 : decode cX2_init 13 = .ok (.istore_n 1, 1) := by decide +kernel
theorem dX2_init_14 : decode cX2_init 14 = .ok (.iload_n 1, 1) := by decide +kernel
theorem dX2_init_15 : decode cX2_init 15 = .ok (.iconst 4, 1) := by decide +kernel
theorem dX2_init_16 : decode cX2_init 16 = .ok (.if_icmp .ge 22, 3) := by decide +kernel
theorem dX2_init_19 : decode cX2_init 19 = .ok (.aload_n 0, 1) := by decide +kernel
theorem dX2_init_20 : decode cX2_init 20 = .ok (.getfield 11, 3) := by decide +kernel
theorem dX2_init_23 : decode cX2_init 23 = .ok (.iload_n 1, 1) := by decide +kernel
theorem dX2_init_24 : decode cX2_init 24 = .ok (.new 9, 3) := by decide +kernel
theorem dX2_init_27 : decode cX2_init 27 = .ok (.dup, 1) := by decide +kernel
theorem dX2_init_28 : decode cX2_init 28 = .ok (.invokespecial 17, 3) := by decide +kernel
theorem dX2_init_31 : decode cX2_init 31 = .ok (.aastore, 1) := by decide +kernel
theorem dX2_init_32 : decode cX2_init 32 = .ok (.iinc 1 1, 3) := by decide +kernel
theorem dX2_init_35 : decode cX2_init 35 = .ok (.goto (-21), 3) := by decide +kernel
theorem dX2_init_38 : decode cX2_init 38 = .ok (.return_, 1) := by decide +kernel
set_option maxRecDepth 20000 in
theorem ggX2_remember_X2_dropOldest : GoodIn wsX2_remember wsX2_dropOldest := goodIn_r _ [7, 2, 1, 31, 32] (by decide +kernel) (by decide +kernel)
set_option maxRecDepth 20000 in
theorem gX2_remember_X2_dropOldest : GoodIn wsX2_remember (wsV RX2 22 RX2 yX2_dropOldest wsX2_dropOldest) := goodIn_app (goodIn_of _ (by decide +kernel)) ggX2_remember_X2_dropOldest
set_option maxRecDepth 20000 in
theorem ggX2_remember_X4_become : GoodIn wsX2_remember wsX4_become := goodIn_r _ [12, 13, 14, 15, 16, 17, 18, 19, 20, 21, 22, 23, 24, 25, 26, 27, 28, 29, 30, 33, 34, 35, 36, 37, 38, 39, 40] (by decide +kernel) (by decide +kernel)
set_option maxRecDepth 20000 in
theorem gX2_remember_X4_become : GoodIn wsX2_remember (wsV RX2 25 RX4 yX4_become wsX4_become) := goodIn_app (goodIn_of _ (by decide +kernel)) ggX2_remember_X4_become
theorem dX2_remember_0 : decode cX2_remember 0 = .ok (.aload_n 0, 1) := by decide +kernel
theorem dX2_remember_1 : decode cX2_remember 1 = .ok (.getfield 18, 3) := by decide +kernel
theorem dX2_remember_4 : decode cX2_remember 4 = .ok (.iconst 4, 1) := by decide +kernel
theorem dX2_remember_5 : decode cX2_remember 5 = .ok (.if_icmp .ne 7, 3) := by decide +kernel
theorem dX2_remember_8 : decode cX2_remember 8 = .ok (.aload_n 0, 1) := by decide +kernel
theorem dX2_remember_9 : decode cX2_remember 9 = .ok (.invokevirtual 22, 3) := by decide +kernel
theorem dX2_remember_12 : decode cX2_remember 12 = .ok (.aload_n 0, 1) := by decide +kernel
theorem dX2_remember_13 : decode cX2_remember 13 = .ok (.getfield 11, 3) := by decide +kernel
theorem dX2_remember_16 : decode cX2_remember 16 = .ok (.aload_n 0, 1) := by decide +kernel
theorem dX2_remember_17 : decode cX2_remember 17 = .ok (.getfield 18, 3) := by decide +kernel
theorem dX2_remember_20 : decode cX2_remember 20 = .ok (.aaload, 1) := by decide +kernel
theorem dX2_remember_21 : decode cX2_remember 21 = .ok (.aload_n 1, 1) := by decide +kernel
theorem dX2_remember_22 : decode cX2_remember 22 = .ok (.invokevirtual 25, 3) := by decide +kernel
theorem dX2_remember_25 : decode cX2_remember 25 = .ok (.aload_n 0, 1) := by decide +kernel
theorem dX2_remember_26 : decode cX2_remember 26 = .ok (.dup, 1) := by decide +kernel
theorem dX2_remember_27 : decode cX2_remember 27 = .ok (.getfield 18, 3) := by decide +kernel
theorem dX2_remember_30 : decode cX2_remember 30 = .ok (.iconst 1, 1) := by decide +kernel
theorem dX2_remember_31 : decode cX2_remember 31 = .ok (.iadd, 1) := by decide +kernel
theorem dX2_remember_32 : decode cX2_remember 32 = .ok (.putfield 18, 3) := by decide +kernel
theorem dX2_remember_35 : decode cX2_remember 35 = .ok (.return_, 1) := by decide +kernel
theorem dX2_dropOldest_0 : decode cX2_dropOldest 0 = .ok (.aload_n 0, 1) := by decide +kernel
theorem dX2_dropOldest_1 : decode cX2_dropOldest 1 = .ok (.getfield 11, 3) := by decide +kernel
theorem dX2_dropOldest_4 : decode cX2_dropOldest 4 = .ok (.iconst 0, 1) := by decide +kernel
theorem dX2_dropOldest_5 : decode cX2_dropOldest 5 = .ok (.aaload, 1) := by decide +kernel
theorem dX2_dropOldest_6 : decode cX2_dropOldest 6 = .ok (.astore_n 1, 1) := by decide +kernel
theorem dX2_dropOldest_7 : decode cX2_dropOldest 7 = .ok (.iconst 1, 1) := by decide +kernel
theorem dX2_dropOldest_8 : decode cX2_dropOldest 8 = .ok (.istore_n 2, 1) := by decide +kernel
theorem dX2_dropOldest_9 : decode cX2_dropOldest 9 = .ok (.iload_n 2, 1) := by decide +kernel
theorem dX2_dropOldest_10 : decode cX2_dropOldest 10 = .ok (.iconst 4, 1) := by decide +kernel
theorem dX2_dropOldest_11 : decode cX2_dropOldest 11 = .ok (.if_icmp .ge 23, 3) := by decide +kernel
theorem dX2_dropOldest_14 : decode cX2_dropOldest 14 = .ok (.aload_n 0, 1) := by decide +kernel
theorem dX2_dropOldest_15 : decode cX2_dropOldest 15 = .ok (.getfield 11, 3) := by decide +kernel
theorem dX2_dropOldest_18 : decode cX2_dropOldest 18 = .ok (.iload_n 2, 1) := by decide +kernel
theorem dX2_dropOldest_19 : decode cX2_dropOldest 19 = .ok (.iconst 1, 1) := by decide +kernel
theorem dX2_dropOldest_20 : decode cX2_dropOldest 20 = .ok (.isub, 1) := by decide +kernel
theorem dX2_dropOldest_21 : decode cX2_dropOldest 21 = .ok (.aload_n 0, 1) := by decide +kernel
theorem dX2_dropOldest_22 : decode cX2_dropOldest 22 = .ok (.getfield 11, 3) := by decide +kernel
theorem dX2_dropOldest_25 : decode cX2_dropOldest 25 = .ok (.iload_n 2, 1) := by decide +kernel
theorem dX2_dropOldest_26 : decode cX2_dropOldest 26 = .ok (.aaload, 1) := by decide +kernel
theorem dX2_dropOldest_27 : decode cX2_dropOldest 27 = .ok (.aastore, 1) := by decide +kernel
theorem dX2_dropOldest_28 : decode cX2_dropOldest 28 = .ok (.iinc 2 1, 3) := by decide +kernel
theorem dX2_dropOldest_31 : decode cX2_dropOldest 31 = .ok (.goto (-22), 3) := by decide +kernel
theorem dX2_dropOldest_34 : decode cX2_dropOldest 34 = .ok (.aload_n 0, 1) := by decide +kernel
theorem dX2_dropOldest_35 : decode cX2_dropOldest 35 = .ok (.getfield 11, 3) := by decide +kernel
theorem dX2_dropOldest_38 : decode cX2_dropOldest 38 = .ok (.iconst 3, 1) := by decide +kernel
theorem dX2_dropOldest_39 : decode cX2_dropOldest 39 = .ok (.aload_n 1, 1) := by decide +kernel
theorem dX2_dropOldest_40 : decode cX2_dropOldest 40 = .ok (.aastore, 1) := by decide +kernel
theorem dX2_dropOldest_41 : decode cX2_dropOldest 41 = .ok (.aload_n 0, 1) := by decide +kernel
theorem dX2_dropOldest_42 : decode cX2_dropOldest 42 = .ok (.dup, 1) := by decide +kernel
theorem dX2_dropOldest_43 : decode cX2_dropOldest 43 = .ok (.getfield 18, 3) := by decide +kernel
theorem dX2_dropOldest_46 : decode cX2_dropOldest 46 = .ok (.iconst 1, 1) := by decide +kernel
theorem dX2_dropOldest_47 : decode cX2_dropOldest 47 = .ok (.isub, 1) := by decide +kernel
theorem dX2_dropOldest_48 : decode cX2_dropOldest 48 = .ok (.putfield 18, 3) := by decide +kernel
theorem dX2_dropOldest_51 : decode cX2_dropOldest 51 = .ok (.return_, 1) := by decide +kernel
set_option maxRecDepth 20000 in
theorem ggX2_takeInto_X4_become : GoodIn wsX2_takeInto wsX4_become := goodIn_r _ [7, 8, 9, 10, 11, 12, 13, 14, 15, 16, 17, 18, 19, 20, 21, 22, 23, 24, 25, 28, 29, 30, 31, 32, 33, 34, 35] (by decide +kernel) (by decide +kernel)
set_option maxRecDepth 20000 in
theorem gX2_takeInto_X4_become : GoodIn wsX2_takeInto (wsV RX2 25 RX4 yX4_become wsX4_become) := goodIn_app (goodIn_of _ (by decide +kernel)) ggX2_takeInto_X4_become
theorem dX2_takeInto_0 : decode cX2_takeInto 0 = .ok (.aload_n 0, 1) := by decide +kernel
theorem dX2_takeInto_1 : decode cX2_takeInto 1 = .ok (.getfield 18, 3) := by decide +kernel
theorem dX2_takeInto_4 : decode cX2_takeInto 4 = .ok (.ifCond .ne 5, 3) := by decide +kernel
theorem dX2_takeInto_7 : decode cX2_takeInto 7 = .ok (.iconst 0, 1) := by decide +kernel
theorem dX2_takeInto_8 : decode cX2_takeInto 8 = .ok (.ireturn, 1) := by decide +kernel
theorem dX2_takeInto_9 : decode cX2_takeInto 9 = .ok (.aload_n 0, 1) := by decide +kernel
theorem dX2_takeInto_10 : decode cX2_takeInto 10 = .ok (.dup, 1) := by decide +kernel
theorem dX2_takeInto_11 : decode cX2_takeInto 11 = .ok (.getfield 18, 3) := by decide +kernel
theorem dX2_takeInto_14 : decode cX2_takeInto 14 = .ok (.iconst 1, 1) := by decide +kernel
theorem dX2_takeInto_15 : decode cX2_takeInto 15 = .ok (.isub, 1) := by decide +kernel
theorem dX2_takeInto_16 : decode cX2_takeInto 16 = .ok (.putfield 18, 3) := by decide +kernel
theorem dX2_takeInto_19 : decode cX2_takeInto 19 = .ok (.aload_n 1, 1) := by decide +kernel
theorem dX2_takeInto_20 : decode cX2_takeInto 20 = .ok (.aload_n 0, 1) := by decide +kernel
theorem dX2_takeInto_21 : decode cX2_takeInto 21 = .ok (.getfield 11, 3) := by decide +kernel
theorem dX2_takeInto_24 : decode cX2_takeInto 24 = .ok (.aload_n 0, 1) := by decide +kernel
theorem dX2_takeInto_25 : decode cX2_takeInto 25 = .ok (.getfield 18, 3) := by decide +kernel
theorem dX2_takeInto_28 : decode cX2_takeInto 28 = .ok (.aaload, 1) := by decide +kernel
theorem dX2_takeInto_29 : decode cX2_takeInto 29 = .ok (.invokevirtual 25, 3) := by decide +kernel
theorem dX2_takeInto_32 : decode cX2_takeInto 32 = .ok (.iconst 1, 1) := by decide +kernel
theorem dX2_takeInto_33 : decode cX2_takeInto 33 = .ok (.ireturn, 1) := by decide +kernel
theorem dX3_init_0 : decode cX3_init 0 = .ok (.aload_n 0, 1) := by decide +kernel
theorem dX3_init_1 : decode cX3_init 1 = .ok (.invokespecial 5, 3) := by decide +kernel
theorem dX3_init_4 : decode cX3_init 4 = .ok (.aload_n 0, 1) := by decide +kernel
theorem dX3_init_5 : decode cX3_init 5 = .ok (.iconst 4, 1) := by decide +kernel
theorem dX3_init_6 : decode cX3_init 6 = .ok (.newarray .int, 2) := by decide +kernel
theorem dX3_init_8 : decode cX3_init 8 = .ok (.putfield 11, 3) := by decide +kernel
theorem dX3_init_11 : decode cX3_init 11 = .ok (.aload_n 0, 1) := by decide +kernel
theorem dX3_init_12 : decode cX3_init 12 = .ok (.bipush 14, 2) := by decide +kernel
theorem dX3_init_14 : decode cX3_init 14 = .ok (.newarray .int, 2) := by decide +kernel
theorem dX3_init_16 : decode cX3_init 16 = .ok (.putfield 15, 3) := by decide +kernel
theorem dX3_init_19 : decode cX3_init 19 = .ok (.return_, 1) := by decide +kernel
set_option maxRecDepth 20000 in
theorem ggX3_find_X3_raise : GoodIn wsX3_find wsX3_raise := goodIn_r _ [11, 2, 3, 12, 13, 14, 10, 15, 16, 17, 18, 19, 20, 21, 22, 23, 24, 25, 26, 27, 28, 29, 30, 31, 32, 4, 1, 36, 37, 38, 39, 33, 34, 35] (by decide +kernel) (by decide +kernel)
set_option maxRecDepth 20000 in
theorem gX3_find_X3_raise : GoodIn wsX3_find (wsV RX3 31 RX3 yX3_raise wsX3_raise) := goodIn_app (goodIn_of _ (by decide +kernel)) ggX3_find_X3_raise
theorem dX3_find_0 : decode cX3_find 0 = .ok (.iconst 0, 1) := by decide +kernel
theorem dX3_find_1 : decode cX3_find 1 = .ok (.istore_n 2, 1) := by decide +kernel
theorem dX3_find_2 : decode cX3_find 2 = .ok (.iload_n 2, 1) := by decide +kernel
theorem dX3_find_3 : decode cX3_find 3 = .ok (.iconst 4, 1) := by decide +kernel
theorem dX3_find_4 : decode cX3_find 4 = .ok (.if_icmp .ge 16, 3) := by decide +kernel
theorem dX3_find_7 : decode cX3_find 7 = .ok (.aload_n 0, 1) := by decide +kernel
theorem dX3_find_8 : decode cX3_find 8 = .ok (.getfield 11, 3) := by decide +kernel
theorem dX3_find_11 : decode cX3_find 11 = .ok (.iload_n 2, 1) := by decide +kernel
theorem dX3_find_12 : decode cX3_find 12 = .ok (.iconst 0, 1) := by decide +kernel
theorem dX3_find_13 : decode cX3_find 13 = .ok (.iastore, 1) := by decide +kernel
theorem dX3_find_14 : decode cX3_find 14 = .ok (.iinc 2 1, 3) := by decide +kernel
theorem dX3_find_17 : decode cX3_find 17 = .ok (.goto (-15), 3) := by decide +kernel
theorem dX3_find_20 : decode cX3_find 20 = .ok (.iconst 0, 1) := by decide +kernel
theorem dX3_find_21 : decode cX3_find 21 = .ok (.istore_n 2, 1) := by decide +kernel
theorem dX3_find_22 : decode cX3_find 22 = .ok (.iload_n 2, 1) := by decide +kernel
theorem dX3_find_23 : decode cX3_find 23 = .ok (.aload_n 1, 1) := by decide +kernel
theorem dX3_find_24 : decode cX3_find 24 = .ok (.getfield 18, 3) := by decide +kernel
theorem dX3_find_27 : decode cX3_find 27 = .ok (.if_icmp .ge 45, 3) := by decide +kernel
theorem dX3_find_30 : decode cX3_find 30 = .ok (.aload_n 0, 1) := by decide +kernel
theorem dX3_find_31 : decode cX3_find 31 = .ok (.getfield 15, 3) := by decide +kernel
theorem dX3_find_34 : decode cX3_find 34 = .ok (.iload_n 2, 1) := by decide +kernel
theorem dX3_find_35 : decode cX3_find 35 = .ok (.iconst 0, 1) := by decide +kernel
theorem dX3_find_36 : decode cX3_find 36 = .ok (.iastore, 1) := by decide +kernel
theorem dX3_find_37 : decode cX3_find 37 = .ok (.aload_n 1, 1) := by decide +kernel
theorem dX3_find_38 : decode cX3_find 38 = .ok (.getfield 24, 3) := by decide +kernel
theorem dX3_find_41 : decode cX3_find 41 = .ok (.iload_n 2, 1) := by decide +kernel
theorem dX3_find_42 : decode cX3_find 42 = .ok (.iaload, 1) := by decide +kernel
theorem dX3_find_43 : decode cX3_find 43 = .ok (.iconst 2, 1) := by decide +kernel
theorem dX3_find_44 : decode cX3_find 44 = .ok (.irem, 1) := by decide +kernel
theorem dX3_find_45 : decode cX3_find 45 = .ok (.iconst 1, 1) := by decide +kernel
theorem dX3_find_46 : decode cX3_find 46 = .ok (.if_icmp .ne 20, 3) := by decide +kernel
theorem dX3_find_49 : decode cX3_find 49 = .ok (.aload_n 0, 1) := by decide +kernel
theorem dX3_find_50 : decode cX3_find 50 = .ok (.getfield 11, 3) := by decide +kernel
theorem dX3_find_53 : decode cX3_find 53 = .ok (.aload_n 1, 1) := by decide +kernel
theorem dX3_find_54 : decode cX3_find 54 = .ok (.getfield 24, 3) := by decide +kernel
theorem dX3_find_57 : decode cX3_find 57 = .ok (.iload_n 2, 1) := by decide +kernel
theorem dX3_find_58 : decode cX3_find 58 = .ok (.iaload, 1) := by decide +kernel
theorem dX3_find_59 : decode cX3_find 59 = .ok (.iconst 2, 1) := by decide +kernel
theorem dX3_find_60 : decode cX3_find 60 = .ok (.idiv, 1) := by decide +kernel
theorem dX3_find_61 : decode cX3_find 61 = .ok (.dup2, 1) := by decide +kernel
theorem dX3_find_62 : decode cX3_find 62 = .ok (.iaload, 1) := by decide +kernel
theorem dX3_find_63 : decode cX3_find 63 = .ok (.iconst 1, 1) := by decide +kernel
theorem dX3_find_64 : decode cX3_find 64 = .ok (.iadd, 1) := by decide +kernel
theorem dX3_find_65 : decode cX3_find 65 = .ok (.iastore, 1) := by decide +kernel
theorem dX3_find_66 : decode cX3_find 66 = .ok (.iinc 2 1, 3) := by decide +kernel
theorem dX3_find_69 : decode cX3_find 69 = .ok (.goto (-47), 3) := by decide +kernel
theorem dX3_find_72 : decode cX3_find 72 = .ok (.aload_n 0, 1) := by decide +kernel
theorem dX3_find_73 : decode cX3_find 73 = .ok (.iconst 1, 1) := by decide +kernel
theorem dX3_find_74 : decode cX3_find 74 = .ok (.putfield 27, 3) := by decide +kernel
theorem dX3_find_77 : decode cX3_find 77 = .ok (.aload_n 0, 1) := by decide +kernel
theorem dX3_find_78 : decode cX3_find 78 = .ok (.getfield 27, 3) := by decide +kernel
theorem dX3_find_81 : decode cX3_find 81 = .ok (.ldc 30, 2) := by decide +kernel
theorem dX3_find_83 : decode cX3_find 83 = .ok (.if_icmp .ge 24, 3) := by decide +kernel
theorem dX3_find_86 : decode cX3_find 86 = .ok (.aload_n 0, 1) := by decide +kernel
theorem dX3_find_87 : decode cX3_find 87 = .ok (.aload_n 1, 1) := by decide +kernel
theorem dX3_find_88 : decode cX3_find 88 = .ok (.invokevirtual 31, 3) := by decide +kernel
theorem dX3_find_91 : decode cX3_find 91 = .ok (.ifCond .eq 16, 3) := by decide +kernel
theorem dX3_find_94 : decode cX3_find 94 = .ok (.aload_n 0, 1) := by decide +kernel
theorem dX3_find_95 : decode cX3_find 95 = .ok (.dup, 1) := by decide +kernel
theorem dX3_find_96 : decode cX3_find 96 = .ok (.getfield 27, 3) := by decide +kernel
theorem dX3_find_99 : decode cX3_find 99 = .ok (.iconst 1, 1) := by decide +kernel
theorem dX3_find_100 : decode cX3_find 100 = .ok (.iadd, 1) := by decide +kernel
theorem dX3_find_101 : decode cX3_find 101 = .ok (.putfield 27, 3) := by decide +kernel
theorem dX3_find_104 : decode cX3_find 104 = .ok (.goto (-27), 3) := by decide +kernel
theorem dX3_find_107 : decode cX3_find 107 = .ok (.return_, 1) := by decide +kernel
set_option maxRecDepth 20000 in
theorem ggX3_raise_X3_asked : GoodIn wsX3_raise wsX3_asked := goodIn_r _ [7, 8, 9, 1, 10, 11, 12, 13, 14, 15, 16, 17, 18, 19, 20, 21, 22, 23, 6, 24, 2, 25, 26, 27, 28, 29, 30, 31, 32, 33] (by decide +kernel) (by decide +kernel)
set_option maxRecDepth 20000 in
theorem gX3_raise_X3_asked : GoodIn wsX3_raise (wsV RX3 35 RX3 yX3_asked wsX3_asked) := goodIn_app (goodIn_of _ (by decide +kernel)) ggX3_raise_X3_asked
theorem dX3_raise_0 : decode cX3_raise 0 = .ok (.iconst 0, 1) := by decide +kernel
theorem dX3_raise_1 : decode cX3_raise 1 = .ok (.istore_n 2, 1) := by decide +kernel
theorem dX3_raise_2 : decode cX3_raise 2 = .ok (.iconst 0, 1) := by decide +kernel
theorem dX3_raise_3 : decode cX3_raise 3 = .ok (.istore_n 3, 1) := by decide +kernel
theorem dX3_raise_4 : decode cX3_raise 4 = .ok (.iload_n 3, 1) := by decide +kernel
theorem dX3_raise_5 : decode cX3_raise 5 = .ok (.aload_n 1, 1) := by decide +kernel
theorem dX3_raise_6 : decode cX3_raise 6 = .ok (.getfield 18, 3) := by decide +kernel
theorem dX3_raise_9 : decode cX3_raise 9 = .ok (.if_icmp .ge 38, 3) := by decide +kernel
theorem dX3_raise_12 : decode cX3_raise 12 = .ok (.aload_n 0, 1) := by decide +kernel
theorem dX3_raise_13 : decode cX3_raise 13 = .ok (.aload_n 1, 1) := by decide +kernel
theorem dX3_raise_14 : decode cX3_raise 14 = .ok (.iload_n 3, 1) := by decide +kernel
theorem dX3_raise_15 : decode cX3_raise 15 = .ok (.invokevirtual 35, 3) := by decide +kernel
theorem dX3_raise_18 : decode cX3_raise 18 = .ok (.istore 4, 2) := by decide +kernel
theorem dX3_raise_20 : decode cX3_raise 20 = .ok (.aload_n 0, 1) := by decide +kernel
theorem dX3_raise_21 : decode cX3_raise 21 = .ok (.getfield 15, 3) := by decide +kernel
theorem dX3_raise_24 : decode cX3_raise 24 = .ok (.iload_n 3, 1) := by decide +kernel
theorem dX3_raise_25 : decode cX3_raise 25 = .ok (.iaload, 1) := by decide +kernel
theorem dX3_raise_26 : decode cX3_raise 26 = .ok (.iload 4, 2) := by decide +kernel
theorem dX3_raise_28 : decode cX3_raise 28 = .ok (.if_icmp .ge 13, 3) := by decide +kernel
theorem dX3_raise_31 : decode cX3_raise 31 = .ok (.aload_n 0, 1) := by decide +kernel
theorem dX3_raise_32 : decode cX3_raise 32 = .ok (.getfield 15, 3) := by decide +kernel
theorem dX3_raise_35 : decode cX3_raise 35 = .ok (.iload_n 3, 1) := by decide +kernel
theorem dX3_raise_36 : decode cX3_raise 36 = .ok (.iload 4, 2) := by decide +kernel
theorem dX3_raise_38 : decode cX3_raise 38 = .ok (.iastore, 1) := by decide +kernel
theorem dX3_raise_39 : decode cX3_raise 39 = .ok (.iconst 1, 1) := by decide +kernel
theorem dX3_raise_40 : decode cX3_raise 40 = .ok (.istore_n 2, 1) := by decide +kernel
theorem dX3_raise_41 : decode cX3_raise 41 = .ok (.iinc 3 1, 3) := by decide +kernel
theorem dX3_raise_44 : decode cX3_raise 44 = .ok (.goto (-40), 3) := by decide +kernel
theorem dX3_raise_47 : decode cX3_raise 47 = .ok (.iload_n 2, 1) := by decide +kernel
theorem dX3_raise_48 : decode cX3_raise 48 = .ok (.ireturn, 1) := by decide +kernel
set_option maxRecDepth 20000 in
theorem ggX3_asked_X6_contains : GoodIn wsX3_asked wsX6_contains := goodIn_r _ [14] (by decide +kernel) (by decide +kernel)
set_option maxRecDepth 20000 in
theorem gX3_asked_X6_contains_n46 : GoodIn wsX3_asked (wsX6_contains) := ggX3_asked_X6_contains
set_option maxRecDepth 20000 in
theorem ggX3_asked_X3_wanted : GoodIn wsX3_asked wsX3_wanted := goodIn_r _ [19, 20, 2, 21, 22, 27, 28, 29, 23, 24, 25, 26] (by decide +kernel) (by decide +kernel)
set_option maxRecDepth 20000 in
theorem gX3_asked_X3_wanted : GoodIn wsX3_asked (wsV RX3 50 RX3 yX3_wanted wsX3_wanted) := goodIn_app (goodIn_of _ (by decide +kernel)) ggX3_asked_X3_wanted
theorem dX3_asked_0 : decode cX3_asked 0 = .ok (.aload_n 1, 1) := by decide +kernel
theorem dX3_asked_1 : decode cX3_asked 1 = .ok (.getfield 39, 3) := by decide +kernel
theorem dX3_asked_4 : decode cX3_asked 4 = .ok (.iload_n 2, 1) := by decide +kernel
theorem dX3_asked_5 : decode cX3_asked 5 = .ok (.iaload, 1) := by decide +kernel
theorem dX3_asked_6 : decode cX3_asked 6 = .ok (.ifCond .ne 7, 3) := by decide +kernel
theorem dX3_asked_9 : decode cX3_asked 9 = .ok (.iconst 1, 1) := by decide +kernel
theorem dX3_asked_10 : decode cX3_asked 10 = .ok (.goto 4, 3) := by decide +kernel
theorem dX3_asked_13 : decode cX3_asked 13 = .ok (.iconst 0, 1) := by decide +kernel
theorem dX3_asked_14 : decode cX3_asked 14 = .ok (.istore_n 3, 1) := by decide +kernel
theorem dX3_asked_15 : decode cX3_asked 15 = .ok (.iload_n 3, 1) := by decide +kernel
theorem dX3_asked_16 : decode cX3_asked 16 = .ok (.ifCond .eq 8, 3) := by decide +kernel
theorem dX3_asked_19 : decode cX3_asked 19 = .ok (.ldc 42, 2) := by decide +kernel
theorem dX3_asked_21 : decode cX3_asked 21 = .ok (.goto 4, 3) := by decide +kernel
theorem dX3_asked_24 : decode cX3_asked 24 = .ok (.iconst 0, 1) := by decide +kernel
theorem dX3_asked_25 : decode cX3_asked 25 = .ok (.istore 4, 2) := by decide +kernel
theorem dX3_asked_27 : decode cX3_asked 27 = .ok (.iconst 0, 1) := by decide +kernel
theorem dX3_asked_28 : decode cX3_asked 28 = .ok (.istore 5, 2) := by decide +kernel
theorem dX3_asked_30 : decode cX3_asked 30 = .ok (.iload 5, 2) := by decide +kernel
theorem dX3_asked_32 : decode cX3_asked 32 = .ok (.aload_n 1, 1) := by decide +kernel
theorem dX3_asked_33 : decode cX3_asked 33 = .ok (.getfield 18, 3) := by decide +kernel
theorem dX3_asked_36 : decode cX3_asked 36 = .ok (.if_icmp .ge 56, 3) := by decide +kernel
theorem dX3_asked_39 : decode cX3_asked 39 = .ok (.aload_n 1, 1) := by decide +kernel
theorem dX3_asked_40 : decode cX3_asked 40 = .ok (.getfield 43, 3) := by decide +kernel
theorem dX3_asked_43 : decode cX3_asked 43 = .ok (.iload_n 2, 1) := by decide +kernel
theorem dX3_asked_44 : decode cX3_asked 44 = .ok (.iaload, 1) := by decide +kernel
theorem dX3_asked_45 : decode cX3_asked 45 = .ok (.iload 5, 2) := by decide +kernel
theorem dX3_asked_47 : decode cX3_asked 47 = .ok (.invokestatic 46, 3) := by decide +kernel
theorem dX3_asked_50 : decode cX3_asked 50 = .ok (.ifCond .eq 36, 3) := by decide +kernel
theorem dX3_asked_53 : decode cX3_asked 53 = .ok (.aload_n 0, 1) := by decide +kernel
theorem dX3_asked_54 : decode cX3_asked 54 = .ok (.aload_n 1, 1) := by decide +kernel
theorem dX3_asked_55 : decode cX3_asked 55 = .ok (.iload_n 2, 1) := by decide +kernel
theorem dX3_asked_56 : decode cX3_asked 56 = .ok (.iload 5, 2) := by decide +kernel
theorem dX3_asked_58 : decode cX3_asked 58 = .ok (.invokevirtual 50, 3) := by decide +kernel
theorem dX3_asked_61 : decode cX3_asked 61 = .ok (.istore 6, 2) := by decide +kernel
theorem dX3_asked_63 : decode cX3_asked 63 = .ok (.iload_n 3, 1) := by decide +kernel
theorem dX3_asked_64 : decode cX3_asked 64 = .ok (.ifCond .eq 13, 3) := by decide +kernel
theorem dX3_asked_67 : decode cX3_asked 67 = .ok (.iload 4, 2) := by decide +kernel
theorem dX3_asked_69 : decode cX3_asked 69 = .ok (.iload 6, 2) := by decide +kernel
theorem dX3_asked_71 : decode cX3_asked 71 = .ok (.invokestatic 54, 3) := by decide +kernel
theorem dX3_asked_74 : decode cX3_asked 74 = .ok (.goto 10, 3) := by decide +kernel
theorem dX3_asked_77 : decode cX3_asked 77 = .ok (.iload 4, 2) := by decide +kernel
theorem dX3_asked_79 : decode cX3_asked 79 = .ok (.iload 6, 2) := by decide +kernel
theorem dX3_asked_81 : decode cX3_asked 81 = .ok (.invokestatic 60, 3) := by decide +kernel
theorem dX3_asked_84 : decode cX3_asked 84 = .ok (.istore 4, 2) := by decide +kernel
theorem dX3_asked_86 : decode cX3_asked 86 = .ok (.iinc 5 1, 3) := by decide +kernel
theorem dX3_asked_89 : decode cX3_asked 89 = .ok (.goto (-59), 3) := by decide +kernel
theorem dX3_asked_92 : decode cX3_asked 92 = .ok (.iload 4, 2) := by decide +kernel
theorem dX3_asked_94 : decode cX3_asked 94 = .ok (.ireturn, 1) := by decide +kernel
theorem dX3_wanted_0 : decode cX3_wanted 0 = .ok (.aload_n 0, 1) := by decide +kernel
theorem dX3_wanted_1 : decode cX3_wanted 1 = .ok (.getfield 15, 3) := by decide +kernel
theorem dX3_wanted_4 : decode cX3_wanted 4 = .ok (.iload_n 3, 1) := by decide +kernel
theorem dX3_wanted_5 : decode cX3_wanted 5 = .ok (.iaload, 1) := by decide +kernel
theorem dX3_wanted_6 : decode cX3_wanted 6 = .ok (.ldc 42, 2) := by decide +kernel
theorem dX3_wanted_8 : decode cX3_wanted 8 = .ok (.if_icmp .ne 6, 3) := by decide +kernel
theorem dX3_wanted_11 : decode cX3_wanted 11 = .ok (.ldc 42, 2) := by decide +kernel
theorem dX3_wanted_13 : decode cX3_wanted 13 = .ok (.ireturn, 1) := by decide +kernel
theorem dX3_wanted_14 : decode cX3_wanted 14 = .ok (.aload_n 1, 1) := by decide +kernel
theorem dX3_wanted_15 : decode cX3_wanted 15 = .ok (.getfield 24, 3) := by decide +kernel
theorem dX3_wanted_18 : decode cX3_wanted 18 = .ok (.iload_n 2, 1) := by decide +kernel
theorem dX3_wanted_19 : decode cX3_wanted 19 = .ok (.iaload, 1) := by decide +kernel
theorem dX3_wanted_20 : decode cX3_wanted 20 = .ok (.istore 4, 2) := by decide +kernel
theorem dX3_wanted_22 : decode cX3_wanted 22 = .ok (.iload 4, 2) := by decide +kernel
theorem dX3_wanted_24 : decode cX3_wanted 24 = .ok (.iconst 1, 1) := by decide +kernel
theorem dX3_wanted_25 : decode cX3_wanted 25 = .ok (.iadd, 1) := by decide +kernel
theorem dX3_wanted_26 : decode cX3_wanted 26 = .ok (.iconst 2, 1) := by decide +kernel
theorem dX3_wanted_27 : decode cX3_wanted 27 = .ok (.idiv, 1) := by decide +kernel
theorem dX3_wanted_28 : decode cX3_wanted 28 = .ok (.iconst 1, 1) := by decide +kernel
theorem dX3_wanted_29 : decode cX3_wanted 29 = .ok (.isub, 1) := by decide +kernel
theorem dX3_wanted_30 : decode cX3_wanted 30 = .ok (.istore 5, 2) := by decide +kernel
theorem dX3_wanted_32 : decode cX3_wanted 32 = .ok (.iconst 4, 1) := by decide +kernel
theorem dX3_wanted_33 : decode cX3_wanted 33 = .ok (.iconst 3, 1) := by decide +kernel
theorem dX3_wanted_34 : decode cX3_wanted 34 = .ok (.iload 5, 2) := by decide +kernel
theorem dX3_wanted_36 : decode cX3_wanted 36 = .ok (.isub, 1) := by decide +kernel
theorem dX3_wanted_37 : decode cX3_wanted 37 = .ok (.imul, 1) := by decide +kernel
theorem dX3_wanted_38 : decode cX3_wanted 38 = .ok (.istore 6, 2) := by decide +kernel
theorem dX3_wanted_40 : decode cX3_wanted 40 = .ok (.aload_n 0, 1) := by decide +kernel
theorem dX3_wanted_41 : decode cX3_wanted 41 = .ok (.getfield 15, 3) := by decide +kernel
theorem dX3_wanted_44 : decode cX3_wanted 44 = .ok (.iload_n 3, 1) := by decide +kernel
theorem dX3_wanted_45 : decode cX3_wanted 45 = .ok (.iaload, 1) := by decide +kernel
theorem dX3_wanted_46 : decode cX3_wanted 46 = .ok (.iload 6, 2) := by decide +kernel
theorem dX3_wanted_48 : decode cX3_wanted 48 = .ok (.ishr, 1) := by decide +kernel
theorem dX3_wanted_49 : decode cX3_wanted 49 = .ok (.iload 6, 2) := by decide +kernel
theorem dX3_wanted_51 : decode cX3_wanted 51 = .ok (.ishl, 1) := by decide +kernel
theorem dX3_wanted_52 : decode cX3_wanted 52 = .ok (.istore 7, 2) := by decide +kernel
theorem dX3_wanted_54 : decode cX3_wanted 54 = .ok (.iload 4, 2) := by decide +kernel
theorem dX3_wanted_56 : decode cX3_wanted 56 = .ok (.iconst 2, 1) := by decide +kernel
theorem dX3_wanted_57 : decode cX3_wanted 57 = .ok (.irem, 1) := by decide +kernel
theorem dX3_wanted_58 : decode cX3_wanted 58 = .ok (.ifCond .ne 6, 3) := by decide +kernel
theorem dX3_wanted_61 : decode cX3_wanted 61 = .ok (.iload 7, 2) := by decide +kernel
theorem dX3_wanted_63 : decode cX3_wanted 63 = .ok (.ireturn, 1) := by decide +kernel
theorem dX3_wanted_64 : decode cX3_wanted 64 = .ok (.iload 5, 2) := by decide +kernel
theorem dX3_wanted_66 : decode cX3_wanted 66 = .ok (.istore 8, 2) := by decide +kernel
theorem dX3_wanted_68 : decode cX3_wanted 68 = .ok (.iload 8, 2) := by decide +kernel
theorem dX3_wanted_70 : decode cX3_wanted 70 = .ok (.ifCond .lt 52, 3) := by decide +kernel
theorem dX3_wanted_73 : decode cX3_wanted 73 = .ok (.iload 7, 2) := by decide +kernel
theorem dX3_wanted_75 : decode cX3_wanted 75 = .ok (.iload 6, 2) := by decide +kernel
theorem dX3_wanted_77 : decode cX3_wanted 77 = .ok (.ishr, 1) := by decide +kernel
theorem dX3_wanted_78 : decode cX3_wanted 78 = .ok (.bipush 15, 2) := by decide +kernel
theorem dX3_wanted_80 : decode cX3_wanted 80 = .ok (.iand, 1) := by decide +kernel
theorem dX3_wanted_81 : decode cX3_wanted 81 = .ok (.istore 9, 2) := by decide +kernel
theorem dX3_wanted_83 : decode cX3_wanted 83 = .ok (.iload 9, 2) := by decide +kernel
theorem dX3_wanted_85 : decode cX3_wanted 85 = .ok (.aload_n 0, 1) := by decide +kernel
theorem dX3_wanted_86 : decode cX3_wanted 86 = .ok (.getfield 11, 3) := by decide +kernel
theorem dX3_wanted_89 : decode cX3_wanted 89 = .ok (.iload 8, 2) := by decide +kernel
theorem dX3_wanted_91 : decode cX3_wanted 91 = .ok (.iaload, 1) := by decide +kernel
theorem dX3_wanted_92 : decode cX3_wanted 92 = .ok (.if_icmp .ge 11, 3) := by decide +kernel
theorem dX3_wanted_95 : decode cX3_wanted 95 = .ok (.iload 7, 2) := by decide +kernel
theorem dX3_wanted_97 : decode cX3_wanted 97 = .ok (.iconst 1, 1) := by decide +kernel
theorem dX3_wanted_98 : decode cX3_wanted 98 = .ok (.iload 6, 2) := by decide +kernel
theorem dX3_wanted_100 : decode cX3_wanted 100 = .ok (.ishl, 1) := by decide +kernel
theorem dX3_wanted_101 : decode cX3_wanted 101 = .ok (.iadd, 1) := by decide +kernel
theorem dX3_wanted_102 : decode cX3_wanted 102 = .ok (.ireturn, 1) := by decide +kernel
theorem dX3_wanted_103 : decode cX3_wanted 103 = .ok (.iload 7, 2) := by decide +kernel
theorem dX3_wanted_105 : decode cX3_wanted 105 = .ok (.iload 9, 2) := by decide +kernel
theorem dX3_wanted_107 : decode cX3_wanted 107 = .ok (.iload 6, 2) := by decide +kernel
theorem dX3_wanted_109 : decode cX3_wanted 109 = .ok (.ishl, 1) := by decide +kernel
theorem dX3_wanted_110 : decode cX3_wanted 110 = .ok (.isub, 1) := by decide +kernel
theorem dX3_wanted_111 : decode cX3_wanted 111 = .ok (.istore 7, 2) := by decide +kernel
theorem dX3_wanted_113 : decode cX3_wanted 113 = .ok (.iinc 6 4, 3) := by decide +kernel
theorem dX3_wanted_116 : decode cX3_wanted 116 = .ok (.iinc 8 (-1), 3) := by decide +kernel
theorem dX3_wanted_119 : decode cX3_wanted 119 = .ok (.goto (-51), 3) := by decide +kernel
theorem dX3_wanted_122 : decode cX3_wanted 122 = .ok (.ldc 42, 2) := by decide +kernel
theorem dX3_wanted_124 : decode cX3_wanted 124 = .ok (.ireturn, 1) := by decide +kernel
theorem dX3_isLost_0 : decode cX3_isLost 0 = .ok (.aload_n 0, 1) := by decide +kernel
theorem dX3_isLost_1 : decode cX3_isLost 1 = .ok (.getfield 15, 3) := by decide +kernel
theorem dX3_isLost_4 : decode cX3_isLost 4 = .ok (.iload_n 1, 1) := by decide +kernel
theorem dX3_isLost_5 : decode cX3_isLost 5 = .ok (.iaload, 1) := by decide +kernel
theorem dX3_isLost_6 : decode cX3_isLost 6 = .ok (.ldc 42, 2) := by decide +kernel
theorem dX3_isLost_8 : decode cX3_isLost 8 = .ok (.if_icmp .ne 7, 3) := by decide +kernel
theorem dX3_isLost_11 : decode cX3_isLost 11 = .ok (.iconst 1, 1) := by decide +kernel
theorem dX3_isLost_12 : decode cX3_isLost 12 = .ok (.goto 4, 3) := by decide +kernel
theorem dX3_isLost_15 : decode cX3_isLost 15 = .ok (.iconst 0, 1) := by decide +kernel
theorem dX3_isLost_16 : decode cX3_isLost 16 = .ok (.ireturn, 1) := by decide +kernel
set_option maxRecDepth 20000 in
theorem ggX3_winner_X3_isLost : GoodIn wsX3_winner wsX3_isLost := goodIn_r _ [5, 6, 7, 8, 9, 10] (by decide +kernel) (by decide +kernel)
set_option maxRecDepth 20000 in
theorem gX3_winner_X3_isLost : GoodIn wsX3_winner (wsV RX3 63 RX3 yX3_isLost wsX3_isLost) := goodIn_app (goodIn_of _ (by decide +kernel)) ggX3_winner_X3_isLost
theorem dX3_winner_0 : decode cX3_winner 0 = .ok (.aload_n 0, 1) := by decide +kernel
theorem dX3_winner_1 : decode cX3_winner 1 = .ok (.iload_n 1, 1) := by decide +kernel
theorem dX3_winner_2 : decode cX3_winner 2 = .ok (.invokevirtual 63, 3) := by decide +kernel
theorem dX3_winner_5 : decode cX3_winner 5 = .ok (.ifCond .eq 7, 3) := by decide +kernel
theorem dX3_winner_8 : decode cX3_winner 8 = .ok (.iconst 1, 1) := by decide +kernel
theorem dX3_winner_9 : decode cX3_winner 9 = .ok (.goto 4, 3) := by decide +kernel
theorem dX3_winner_12 : decode cX3_winner 12 = .ok (.iconst 0, 1) := by decide +kernel
theorem dX3_winner_13 : decode cX3_winner 13 = .ok (.ireturn, 1) := by decide +kernel
theorem dX3_number_0 : decode cX3_number 0 = .ok (.aload_n 0, 1) := by decide +kernel
theorem dX3_number_1 : decode cX3_number 1 = .ok (.getfield 15, 3) := by decide +kernel
theorem dX3_number_4 : decode cX3_number 4 = .ok (.iload_n 1, 1) := by decide +kernel
theorem dX3_number_5 : decode cX3_number 5 = .ok (.iaload, 1) := by decide +kernel
theorem dX3_number_6 : decode cX3_number 6 = .ok (.iconst 4, 1) := by decide +kernel
theorem dX3_number_7 : decode cX3_number 7 = .ok (.iconst 3, 1) := by decide +kernel
theorem dX3_number_8 : decode cX3_number 8 = .ok (.iload_n 2, 1) := by decide +kernel
theorem dX3_number_9 : decode cX3_number 9 = .ok (.iconst 2, 1) := by decide +kernel
theorem dX3_number_10 : decode cX3_number 10 = .ok (.idiv, 1) := by decide +kernel
theorem dX3_number_11 : decode cX3_number 11 = .ok (.isub, 1) := by decide +kernel
theorem dX3_number_12 : decode cX3_number 12 = .ok (.imul, 1) := by decide +kernel
theorem dX3_number_13 : decode cX3_number 13 = .ok (.ishr, 1) := by decide +kernel
theorem dX3_number_14 : decode cX3_number 14 = .ok (.bipush 15, 2) := by decide +kernel
theorem dX3_number_16 : decode cX3_number 16 = .ok (.iand, 1) := by decide +kernel
theorem dX3_number_17 : decode cX3_number 17 = .ok (.ireturn, 1) := by decide +kernel
set_option maxRecDepth 20000 in
theorem ggX3_bestArrow_X1_leads : GoodIn wsX3_bestArrow wsX1_leads := goodIn_r _ [8, 9, 10, 11, 12, 7, 13, 14, 15, 16, 17, 26, 27, 28, 29] (by decide +kernel) (by decide +kernel)
set_option maxRecDepth 20000 in
theorem gX3_bestArrow_X1_leads : GoodIn wsX3_bestArrow (wsV RX3 67 RX1 yX1_leads wsX1_leads) := goodIn_app (goodIn_of _ (by decide +kernel)) ggX3_bestArrow_X1_leads
set_option maxRecDepth 20000 in
theorem ggX3_bestArrow_X3_wanted : GoodIn wsX3_bestArrow wsX3_wanted := goodIn_r _ [22, 23, 1, 24, 25, 30, 31, 32, 26, 27, 28, 29] (by decide +kernel) (by decide +kernel)
set_option maxRecDepth 20000 in
theorem gX3_bestArrow_X3_wanted : GoodIn wsX3_bestArrow (wsV RX3 50 RX3 yX3_wanted wsX3_wanted) := goodIn_app (goodIn_of _ (by decide +kernel)) ggX3_bestArrow_X3_wanted
theorem dX3_bestArrow_0 : decode cX3_bestArrow 0 = .ok (.bipush 14, 2) := by decide +kernel
theorem dX3_bestArrow_2 : decode cX3_bestArrow 2 = .ok (.istore_n 3, 1) := by decide +kernel
theorem dX3_bestArrow_3 : decode cX3_bestArrow 3 = .ok (.ldc 42, 2) := by decide +kernel
theorem dX3_bestArrow_5 : decode cX3_bestArrow 5 = .ok (.istore 4, 2) := by decide +kernel
theorem dX3_bestArrow_7 : decode cX3_bestArrow 7 = .ok (.iconst 0, 1) := by decide +kernel
theorem dX3_bestArrow_8 : decode cX3_bestArrow 8 = .ok (.istore 5, 2) := by decide +kernel
theorem dX3_bestArrow_10 : decode cX3_bestArrow 10 = .ok (.iload 5, 2) := by decide +kernel
theorem dX3_bestArrow_12 : decode cX3_bestArrow 12 = .ok (.aload_n 1, 1) := by decide +kernel
theorem dX3_bestArrow_13 : decode cX3_bestArrow 13 = .ok (.getfield 18, 3) := by decide +kernel
theorem dX3_bestArrow_16 : decode cX3_bestArrow 16 = .ok (.if_icmp .ge 48, 3) := by decide +kernel
theorem dX3_bestArrow_19 : decode cX3_bestArrow 19 = .ok (.aload_n 1, 1) := by decide +kernel
theorem dX3_bestArrow_20 : decode cX3_bestArrow 20 = .ok (.iload_n 2, 1) := by decide +kernel
theorem dX3_bestArrow_21 : decode cX3_bestArrow 21 = .ok (.iload 5, 2) := by decide +kernel
theorem dX3_bestArrow_23 : decode cX3_bestArrow 23 = .ok (.invokevirtual 67, 3) := by decide +kernel
theorem dX3_bestArrow_26 : decode cX3_bestArrow 26 = .ok (.ifCond .eq 14, 3) := by decide +kernel
theorem dX3_bestArrow_29 : decode cX3_bestArrow 29 = .ok (.aload_n 0, 1) := by decide +kernel
theorem dX3_bestArrow_30 : decode cX3_bestArrow 30 = .ok (.aload_n 1, 1) := by decide +kernel
theorem dX3_bestArrow_31 : decode cX3_bestArrow 31 = .ok (.iload_n 2, 1) := by decide +kernel
theorem dX3_bestArrow_32 : decode cX3_bestArrow 32 = .ok (.iload 5, 2) := by decide +kernel
theorem dX3_bestArrow_34 : decode cX3_bestArrow 34 = .ok (.invokevirtual 50, 3) := by decide +kernel
theorem dX3_bestArrow_37 : decode cX3_bestArrow 37 = .ok (.goto 5, 3) := by decide +kernel
theorem dX3_bestArrow_40 : decode cX3_bestArrow 40 = .ok (.ldc 42, 2) := by decide +kernel
theorem dX3_bestArrow_42 : decode cX3_bestArrow 42 = .ok (.istore 6, 2) := by decide +kernel
theorem dX3_bestArrow_44 : decode cX3_bestArrow 44 = .ok (.iload 6, 2) := by decide +kernel
theorem dX3_bestArrow_46 : decode cX3_bestArrow 46 = .ok (.iload 4, 2) := by decide +kernel
theorem dX3_bestArrow_48 : decode cX3_bestArrow 48 = .ok (.if_icmp .ge 10, 3) := by decide +kernel
theorem dX3_bestArrow_51 : decode cX3_bestArrow 51 = .ok (.iload 5, 2) := by decide +kernel
theorem dX3_bestArrow_53 : decode cX3_bestArrow 53 = .ok (.istore_n 3, 1) := by decide +kernel
theorem dX3_bestArrow_54 : decode cX3_bestArrow 54 = .ok (.iload 6, 2) := by decide +kernel
theorem dX3_bestArrow_56 : decode cX3_bestArrow 56 = .ok (.istore 4, 2) := by decide +kernel
theorem dX3_bestArrow_58 : decode cX3_bestArrow 58 = .ok (.iinc 5 1, 3) := by decide +kernel
theorem dX3_bestArrow_61 : decode cX3_bestArrow 61 = .ok (.goto (-51), 3) := by decide +kernel
theorem dX3_bestArrow_64 : decode cX3_bestArrow 64 = .ok (.aload_n 1, 1) := by decide +kernel
theorem dX3_bestArrow_65 : decode cX3_bestArrow 65 = .ok (.getfield 39, 3) := by decide +kernel
theorem dX3_bestArrow_68 : decode cX3_bestArrow 68 = .ok (.iload_n 2, 1) := by decide +kernel
theorem dX3_bestArrow_69 : decode cX3_bestArrow 69 = .ok (.iaload, 1) := by decide +kernel
theorem dX3_bestArrow_70 : decode cX3_bestArrow 70 = .ok (.ifCond .ne 7, 3) := by decide +kernel
theorem dX3_bestArrow_73 : decode cX3_bestArrow 73 = .ok (.iload_n 3, 1) := by decide +kernel
theorem dX3_bestArrow_74 : decode cX3_bestArrow 74 = .ok (.goto 5, 3) := by decide +kernel
theorem dX3_bestArrow_77 : decode cX3_bestArrow 77 = .ok (.bipush 14, 2) := by decide +kernel
theorem dX3_bestArrow_79 : decode cX3_bestArrow 79 = .ok (.ireturn, 1) := by decide +kernel
set_option maxRecDepth 20000 in
theorem ggX4_init_X1_init : GoodIn wsX4_init wsX1_init := goodIn_r _ [12, 13, 2, 3, 8, 14, 15, 16, 17, 18, 19, 20] (by decide +kernel) (by decide +kernel)
set_option maxRecDepth 20000 in
theorem gX4_init_X1_init_n11 : GoodIn wsX4_init (wsX1_init) := ggX4_init_X1_init
theorem dX4_init_0 : decode cX4_init 0 = .ok (.aload_n 0, 1) := by decide +kernel
theorem dX4_init_1 : decode cX4_init 1 = .ok (.invokespecial 3, 3) := by decide +kernel
theorem dX4_init_4 : decode cX4_init 4 = .ok (.aload_n 0, 1) := by decide +kernel
theorem dX4_init_5 : decode cX4_init 5 = .ok (.new 9, 3) := by decide +kernel
theorem dX4_init_8 : decode cX4_init 8 = .ok (.dup, 1) := by decide +kernel
theorem dX4_init_9 : decode cX4_init 9 = .ok (.invokespecial 11, 3) := by decide +kernel
theorem dX4_init_12 : decode cX4_init 12 = .ok (.putfield 12, 3) := by decide +kernel
theorem dX4_init_15 : decode cX4_init 15 = .ok (.aload_n 0, 1) := by decide +kernel
theorem dX4_init_16 : decode cX4_init 16 = .ok (.bipush 14, 2) := by decide +kernel
theorem dX4_init_18 : decode cX4_init 18 = .ok (.newarray .int, 2) := by decide +kernel
theorem dX4_init_20 : decode cX4_init 20 = .ok (.putfield 18, 3) := by decide +kernel
theorem dX4_init_23 : decode cX4_init 23 = .ok (.aload_n 0, 1) := by decide +kernel
theorem dX4_init_24 : decode cX4_init 24 = .ok (.bipush 14, 2) := by decide +kernel
theorem dX4_init_26 : decode cX4_init 26 = .ok (.putfield 22, 3) := by decide +kernel
theorem dX4_init_29 : decode cX4_init 29 = .ok (.return_, 1) := by decide +kernel
set_option maxRecDepth 20000 in
theorem ggX4_become_X1_become : GoodIn wsX4_become wsX1_become := goodIn_r _ [13, 14, 15, 16, 4, 5, 6, 17, 18, 23, 24, 25, 26] (by decide +kernel) (by decide +kernel)
set_option maxRecDepth 20000 in
theorem gX4_become_X1_become : GoodIn wsX4_become (wsV RX4 26 RX1 yX1_become wsX1_become) := goodIn_app (goodIn_of _ (by decide +kernel)) ggX4_become_X1_become
theorem dX4_become_0 : decode cX4_become 0 = .ok (.aload_n 0, 1) := by decide +kernel
theorem dX4_become_1 : decode cX4_become 1 = .ok (.getfield 12, 3) := by decide +kernel
theorem dX4_become_4 : decode cX4_become 4 = .ok (.aload_n 1, 1) := by decide +kernel
theorem dX4_become_5 : decode cX4_become 5 = .ok (.getfield 12, 3) := by decide +kernel
theorem dX4_become_8 : decode cX4_become 8 = .ok (.invokevirtual 26, 3) := by decide +kernel
theorem dX4_become_11 : decode cX4_become 11 = .ok (.aload_n 1, 1) := by decide +kernel
theorem dX4_become_12 : decode cX4_become 12 = .ok (.getfield 18, 3) := by decide +kernel
theorem dX4_become_15 : decode cX4_become 15 = .ok (.iconst 0, 1) := by decide +kernel
theorem dX4_become_16 : decode cX4_become 16 = .ok (.aload_n 0, 1) := by decide +kernel
theorem dX4_become_17 : decode cX4_become 17 = .ok (.getfield 18, 3) := by decide +kernel
theorem dX4_become_20 : decode cX4_become 20 = .ok (.iconst 0, 1) := by decide +kernel
theorem dX4_become_21 : decode cX4_become 21 = .ok (.bipush 14, 2) := by decide +kernel
theorem dX4_become_23 : decode cX4_become 23 = .ok (.invokestatic 30, 3) := by decide +kernel
theorem dX4_become_26 : decode cX4_become 26 = .ok (.aload_n 0, 1) := by decide +kernel
theorem dX4_become_27 : decode cX4_become 27 = .ok (.aload_n 1, 1) := by decide +kernel
theorem dX4_become_28 : decode cX4_become 28 = .ok (.getfield 22, 3) := by decide +kernel
theorem dX4_become_31 : decode cX4_become 31 = .ok (.putfield 22, 3) := by decide +kernel
theorem dX4_become_34 : decode cX4_become 34 = .ok (.aload_n 0, 1) := by decide +kernel
theorem dX4_become_35 : decode cX4_become 35 = .ok (.aload_n 1, 1) := by decide +kernel
theorem dX4_become_36 : decode cX4_become 36 = .ok (.getfield 36, 3) := by decide +kernel
theorem dX4_become_39 : decode cX4_become 39 = .ok (.putfield 36, 3) := by decide +kernel
theorem dX4_become_42 : decode cX4_become 42 = .ok (.return_, 1) := by decide +kernel
theorem dX4_append_0 : decode cX4_append 0 = .ok (.aload_n 0, 1) := by decide +kernel
theorem dX4_append_1 : decode cX4_append 1 = .ok (.getfield 12, 3) := by decide +kernel
theorem dX4_append_4 : decode cX4_append 4 = .ok (.getfield 39, 3) := by decide +kernel
theorem dX4_append_7 : decode cX4_append 7 = .ok (.istore_n 3, 1) := by decide +kernel
theorem dX4_append_8 : decode cX4_append 8 = .ok (.aload_n 0, 1) := by decide +kernel
theorem dX4_append_9 : decode cX4_append 9 = .ok (.getfield 12, 3) := by decide +kernel
theorem dX4_append_12 : decode cX4_append 12 = .ok (.getfield 42, 3) := by decide +kernel
theorem dX4_append_15 : decode cX4_append 15 = .ok (.iload_n 3, 1) := by decide +kernel
theorem dX4_append_16 : decode cX4_append 16 = .ok (.iload_n 1, 1) := by decide +kernel
theorem dX4_append_17 : decode cX4_append 17 = .ok (.iastore, 1) := by decide +kernel
theorem dX4_append_18 : decode cX4_append 18 = .ok (.aload_n 0, 1) := by decide +kernel
theorem dX4_append_19 : decode cX4_append 19 = .ok (.getfield 12, 3) := by decide +kernel
theorem dX4_append_22 : decode cX4_append 22 = .ok (.getfield 45, 3) := by decide +kernel
theorem dX4_append_25 : decode cX4_append 25 = .ok (.iload_n 3, 1) := by decide +kernel
theorem dX4_append_26 : decode cX4_append 26 = .ok (.iload_n 2, 1) := by decide +kernel
theorem dX4_append_27 : decode cX4_append 27 = .ok (.iastore, 1) := by decide +kernel
theorem dX4_append_28 : decode cX4_append 28 = .ok (.aload_n 0, 1) := by decide +kernel
theorem dX4_append_29 : decode cX4_append 29 = .ok (.getfield 12, 3) := by decide +kernel
theorem dX4_append_32 : decode cX4_append 32 = .ok (.getfield 48, 3) := by decide +kernel
theorem dX4_append_35 : decode cX4_append 35 = .ok (.iload_n 3, 1) := by decide +kernel
theorem dX4_append_36 : decode cX4_append 36 = .ok (.iconst 0, 1) := by decide +kernel
theorem dX4_append_37 : decode cX4_append 37 = .ok (.iastore, 1) := by decide +kernel
theorem dX4_append_38 : decode cX4_append 38 = .ok (.aload_n 0, 1) := by decide +kernel
theorem dX4_append_39 : decode cX4_append 39 = .ok (.getfield 18, 3) := by decide +kernel
theorem dX4_append_42 : decode cX4_append 42 = .ok (.iload_n 3, 1) := by decide +kernel
theorem dX4_append_43 : decode cX4_append 43 = .ok (.bipush 14, 2) := by decide +kernel
theorem dX4_append_45 : decode cX4_append 45 = .ok (.iastore, 1) := by decide +kernel
theorem dX4_append_46 : decode cX4_append 46 = .ok (.aload_n 0, 1) := by decide +kernel
theorem dX4_append_47 : decode cX4_append 47 = .ok (.getfield 12, 3) := by decide +kernel
theorem dX4_append_50 : decode cX4_append 50 = .ok (.dup, 1) := by decide +kernel
theorem dX4_append_51 : decode cX4_append 51 = .ok (.getfield 39, 3) := by decide +kernel
theorem dX4_append_54 : decode cX4_append 54 = .ok (.iconst 1, 1) := by decide +kernel
theorem dX4_append_55 : decode cX4_append 55 = .ok (.iadd, 1) := by decide +kernel
theorem dX4_append_56 : decode cX4_append 56 = .ok (.putfield 39, 3) := by decide +kernel
theorem dX4_append_59 : decode cX4_append 59 = .ok (.iload_n 3, 1) := by decide +kernel
theorem dX4_append_60 : decode cX4_append 60 = .ok (.ireturn, 1) := by decide +kernel
theorem dX4_choiceCount_0 : decode cX4_choiceCount 0 = .ok (.iconst 0, 1) := by decide +kernel
theorem dX4_choiceCount_1 : decode cX4_choiceCount 1 = .ok (.istore_n 1, 1) := by decide +kernel
theorem dX4_choiceCount_2 : decode cX4_choiceCount 2 = .ok (.iconst 0, 1) := by decide +kernel
theorem dX4_choiceCount_3 : decode cX4_choiceCount 3 = .ok (.istore_n 2, 1) := by decide +kernel
theorem dX4_choiceCount_4 : decode cX4_choiceCount 4 = .ok (.iload_n 2, 1) := by decide +kernel
theorem dX4_choiceCount_5 : decode cX4_choiceCount 5 = .ok (.aload_n 0, 1) := by decide +kernel
theorem dX4_choiceCount_6 : decode cX4_choiceCount 6 = .ok (.getfield 12, 3) := by decide +kernel
theorem dX4_choiceCount_9 : decode cX4_choiceCount 9 = .ok (.getfield 39, 3) := by decide +kernel
theorem dX4_choiceCount_12 : decode cX4_choiceCount 12 = .ok (.if_icmp .ge 28, 3) := by decide +kernel
theorem dX4_choiceCount_15 : decode cX4_choiceCount 15 = .ok (.iload_n 1, 1) := by decide +kernel
theorem dX4_choiceCount_16 : decode cX4_choiceCount 16 = .ok (.aload_n 0, 1) := by decide +kernel
theorem dX4_choiceCount_17 : decode cX4_choiceCount 17 = .ok (.getfield 18, 3) := by decide +kernel
theorem dX4_choiceCount_20 : decode cX4_choiceCount 20 = .ok (.iload_n 2, 1) := by decide +kernel
theorem dX4_choiceCount_21 : decode cX4_choiceCount 21 = .ok (.iaload, 1) := by decide +kernel
theorem dX4_choiceCount_22 : decode cX4_choiceCount 22 = .ok (.bipush 14, 2) := by decide +kernel
theorem dX4_choiceCount_24 : decode cX4_choiceCount 24 = .ok (.if_icmp .ne 7, 3) := by decide +kernel
theorem dX4_choiceCount_27 : decode cX4_choiceCount 27 = .ok (.iconst 0, 1) := by decide +kernel
theorem dX4_choiceCount_28 : decode cX4_choiceCount 28 = .ok (.goto 4, 3) := by decide +kernel
theorem dX4_choiceCount_31 : decode cX4_choiceCount 31 = .ok (.iconst 1, 1) := by decide +kernel
theorem dX4_choiceCount_32 : decode cX4_choiceCount 32 = .ok (.iadd, 1) := by decide +kernel
theorem dX4_choiceCount_33 : decode cX4_choiceCount 33 = .ok (.istore_n 1, 1) := by decide +kernel
theorem dX4_choiceCount_34 : decode cX4_choiceCount 34 = .ok (.iinc 2 1, 3) := by decide +kernel
theorem dX4_choiceCount_37 : decode cX4_choiceCount 37 = .ok (.goto (-33), 3) := by decide +kernel
theorem dX4_choiceCount_40 : decode cX4_choiceCount 40 = .ok (.iload_n 1, 1) := by decide +kernel
theorem dX4_choiceCount_41 : decode cX4_choiceCount 41 = .ok (.ireturn, 1) := by decide +kernel
theorem dX5_init_0 : decode cX5_init 0 = .ok (.aload_n 0, 1) := by decide +kernel
theorem dX5_init_1 : decode cX5_init 1 = .ok (.invokespecial 3, 3) := by decide +kernel
theorem dX5_init_4 : decode cX5_init 4 = .ok (.aload_n 0, 1) := by decide +kernel
theorem dX5_init_5 : decode cX5_init 5 = .ok (.bipush 14, 2) := by decide +kernel
theorem dX5_init_7 : decode cX5_init 7 = .ok (.newarray .int, 2) := by decide +kernel
theorem dX5_init_9 : decode cX5_init 9 = .ok (.putfield 9, 3) := by decide +kernel
theorem dX5_init_12 : decode cX5_init 12 = .ok (.return_, 1) := by decide +kernel
theorem dX5_wayFrom_0 : decode cX5_wayFrom 0 = .ok (.iload_n 1, 1) := by decide +kernel
theorem dX5_wayFrom_1 : decode cX5_wayFrom 1 = .ok (.ifCond .lt 18, 3) := by decide +kernel
theorem dX5_wayFrom_4 : decode cX5_wayFrom 4 = .ok (.iload_n 1, 1) := by decide +kernel
theorem dX5_wayFrom_5 : decode cX5_wayFrom 5 = .ok (.bipush 14, 2) := by decide +kernel
theorem dX5_wayFrom_7 : decode cX5_wayFrom 7 = .ok (.if_icmp .ge 12, 3) := by decide +kernel
theorem dX5_wayFrom_10 : decode cX5_wayFrom 10 = .ok (.aload_n 0, 1) := by decide +kernel
theorem dX5_wayFrom_11 : decode cX5_wayFrom 11 = .ok (.getfield 9, 3) := by decide +kernel
theorem dX5_wayFrom_14 : decode cX5_wayFrom 14 = .ok (.iload_n 1, 1) := by decide +kernel
theorem dX5_wayFrom_15 : decode cX5_wayFrom 15 = .ok (.iaload, 1) := by decide +kernel
theorem dX5_wayFrom_16 : decode cX5_wayFrom 16 = .ok (.goto 5, 3) := by decide +kernel
theorem dX5_wayFrom_19 : decode cX5_wayFrom 19 = .ok (.bipush 14, 2) := by decide +kernel
theorem dX5_wayFrom_21 : decode cX5_wayFrom 21 = .ok (.ireturn, 1) := by decide +kernel
set_option maxRecDepth 20000 in
theorem ggX5_follow_X6_bit : GoodIn wsX5_follow wsX6_bit := goodIn_r _ [6] (by decide +kernel) (by decide +kernel)
set_option maxRecDepth 20000 in
theorem gX5_follow_X6_bit_n15 : GoodIn wsX5_follow (wsX6_bit) := ggX5_follow_X6_bit
set_option maxRecDepth 20000 in
theorem ggX5_follow_X5_wayFrom : GoodIn wsX5_follow wsX5_wayFrom := goodIn_r _ [11, 12, 15, 16, 17, 18] (by decide +kernel) (by decide +kernel)
set_option maxRecDepth 20000 in
theorem gX5_follow_X5_wayFrom : GoodIn wsX5_follow (wsV RX5 30 RX5 yX5_wayFrom wsX5_wayFrom) := goodIn_app (goodIn_of _ (by decide +kernel)) ggX5_follow_X5_wayFrom
set_option maxRecDepth 20000 in
theorem ggX5_follow_X6_contains : GoodIn wsX5_follow wsX6_contains := goodIn_r _ [14] (by decide +kernel) (by decide +kernel)
set_option maxRecDepth 20000 in
theorem gX5_follow_X6_contains_n33 : GoodIn wsX5_follow (wsX6_contains) := ggX5_follow_X6_contains
theorem dX5_follow_0 : decode cX5_follow 0 = .ok (.iload_n 1, 1) := by decide +kernel
theorem dX5_follow_1 : decode cX5_follow 1 = .ok (.invokestatic 15, 3) := by decide +kernel
theorem dX5_follow_4 : decode cX5_follow 4 = .ok (.istore_n 2, 1) := by decide +kernel
theorem dX5_follow_5 : decode cX5_follow 5 = .ok (.aload_n 0, 1) := by decide +kernel
theorem dX5_follow_6 : decode cX5_follow 6 = .ok (.iconst 0, 1) := by decide +kernel
theorem dX5_follow_7 : decode cX5_follow 7 = .ok (.putfield 19, 3) := by decide +kernel
theorem dX5_follow_10 : decode cX5_follow 10 = .ok (.aload_n 0, 1) := by decide +kernel
theorem dX5_follow_11 : decode cX5_follow 11 = .ok (.iconst 0, 1) := by decide +kernel
theorem dX5_follow_12 : decode cX5_follow 12 = .ok (.putfield 23, 3) := by decide +kernel
theorem dX5_follow_15 : decode cX5_follow 15 = .ok (.aload_n 0, 1) := by decide +kernel
theorem dX5_follow_16 : decode cX5_follow 16 = .ok (.iload_n 1, 1) := by decide +kernel
theorem dX5_follow_17 : decode cX5_follow 17 = .ok (.putfield 27, 3) := by decide +kernel
theorem dX5_follow_20 : decode cX5_follow 20 = .ok (.aload_n 0, 1) := by decide +kernel
theorem dX5_follow_21 : decode cX5_follow 21 = .ok (.getfield 19, 3) := by decide +kernel
theorem dX5_follow_24 : decode cX5_follow 24 = .ok (.bipush 14, 2) := by decide +kernel
theorem dX5_follow_26 : decode cX5_follow 26 = .ok (.if_icmp .ge 70, 3) := by decide +kernel
theorem dX5_follow_29 : decode cX5_follow 29 = .ok (.aload_n 0, 1) := by decide +kernel
theorem dX5_follow_30 : decode cX5_follow 30 = .ok (.getfield 23, 3) := by decide +kernel
theorem dX5_follow_33 : decode cX5_follow 33 = .ok (.ifCond .ne 63, 3) := by decide +kernel
theorem dX5_follow_36 : decode cX5_follow 36 = .ok (.aload_n 0, 1) := by decide +kernel
theorem dX5_follow_37 : decode cX5_follow 37 = .ok (.aload_n 0, 1) := by decide +kernel
theorem dX5_follow_38 : decode cX5_follow 38 = .ok (.getfield 27, 3) := by decide +kernel
theorem dX5_follow_41 : decode cX5_follow 41 = .ok (.invokevirtual 30, 3) := by decide +kernel
theorem dX5_follow_44 : decode cX5_follow 44 = .ok (.bipush 14, 2) := by decide +kernel
theorem dX5_follow_46 : decode cX5_follow 46 = .ok (.if_icmp .eq 50, 3) := by decide +kernel
theorem dX5_follow_49 : decode cX5_follow 49 = .ok (.aload_n 0, 1) := by decide +kernel
theorem dX5_follow_50 : decode cX5_follow 50 = .ok (.aload_n 0, 1) := by decide +kernel
theorem dX5_follow_51 : decode cX5_follow 51 = .ok (.aload_n 0, 1) := by decide +kernel
theorem dX5_follow_52 : decode cX5_follow 52 = .ok (.getfield 27, 3) := by decide +kernel
theorem dX5_follow_55 : decode cX5_follow 55 = .ok (.invokevirtual 30, 3) := by decide +kernel
theorem dX5_follow_58 : decode cX5_follow 58 = .ok (.putfield 27, 3) := by decide +kernel
theorem dX5_follow_61 : decode cX5_follow 61 = .ok (.aload_n 0, 1) := by decide +kernel
theorem dX5_follow_62 : decode cX5_follow 62 = .ok (.dup, 1) := by decide +kernel
theorem dX5_follow_63 : decode cX5_follow 63 = .ok (.getfield 19, 3) := by decide +kernel
theorem dX5_follow_66 : decode cX5_follow 66 = .ok (.iconst 1, 1) := by decide +kernel
theorem dX5_follow_67 : decode cX5_follow 67 = .ok (.iadd, 1) := by decide +kernel
theorem dX5_follow_68 : decode cX5_follow 68 = .ok (.putfield 19, 3) := by decide +kernel
theorem dX5_follow_71 : decode cX5_follow 71 = .ok (.aload_n 0, 1) := by decide +kernel
theorem dX5_follow_72 : decode cX5_follow 72 = .ok (.iload_n 2, 1) := by decide +kernel
theorem dX5_follow_73 : decode cX5_follow 73 = .ok (.aload_n 0, 1) := by decide +kernel
theorem dX5_follow_74 : decode cX5_follow 74 = .ok (.getfield 27, 3) := by decide +kernel
theorem dX5_follow_77 : decode cX5_follow 77 = .ok (.invokestatic 33, 3) := by decide +kernel
theorem dX5_follow_80 : decode cX5_follow 80 = .ok (.putfield 23, 3) := by decide +kernel
theorem dX5_follow_83 : decode cX5_follow 83 = .ok (.iload_n 2, 1) := by decide +kernel
theorem dX5_follow_84 : decode cX5_follow 84 = .ok (.aload_n 0, 1) := by decide +kernel
theorem dX5_follow_85 : decode cX5_follow 85 = .ok (.getfield 27, 3) := by decide +kernel
theorem dX5_follow_88 : decode cX5_follow 88 = .ok (.invokestatic 15, 3) := by decide +kernel
theorem dX5_follow_91 : decode cX5_follow 91 = .ok (.ior, 1) := by decide +kernel
theorem dX5_follow_92 : decode cX5_follow 92 = .ok (.istore_n 2, 1) := by decide +kernel
theorem dX5_follow_93 : decode cX5_follow 93 = .ok (.goto (-73), 3) := by decide +kernel
theorem dX5_follow_96 : decode cX5_follow 96 = .ok (.return_, 1) := by decide +kernel
set_option maxRecDepth 20000 in
theorem ggX5_leastColourAgain_X5_wayFrom : GoodIn wsX5_leastColourAgain wsX5_wayFrom := goodIn_r _ [11, 12, 23, 24, 25, 26] (by decide +kernel) (by decide +kernel)
set_option maxRecDepth 20000 in
theorem gX5_leastColourAgain_X5_wayFrom : GoodIn wsX5_leastColourAgain (wsV RX5 30 RX5 yX5_wayFrom wsX5_wayFrom) := goodIn_app (goodIn_of _ (by decide +kernel)) ggX5_leastColourAgain_X5_wayFrom
set_option maxRecDepth 20000 in
theorem ggX5_leastColourAgain_X1_has : GoodIn wsX5_leastColourAgain wsX1_has := goodIn_r _ [17, 18, 19, 20, 21, 22] (by decide +kernel) (by decide +kernel)
set_option maxRecDepth 20000 in
theorem gX5_leastColourAgain_X1_has : GoodIn wsX5_leastColourAgain (wsV RX5 42 RX1 yX1_has wsX1_has) := goodIn_app (goodIn_of _ (by decide +kernel)) ggX5_leastColourAgain_X1_has
theorem dX5_leastColourAgain_0 : decode cX5_leastColourAgain 0 = .ok (.aload_n 1, 1) := by decide +kernel
theorem dX5_leastColourAgain_1 : decode cX5_leastColourAgain 1 = .ok (.getfield 37, 3) := by decide +kernel
theorem dX5_leastColourAgain_4 : decode cX5_leastColourAgain 4 = .ok (.aload_n 0, 1) := by decide +kernel
theorem dX5_leastColourAgain_5 : decode cX5_leastColourAgain 5 = .ok (.getfield 27, 3) := by decide +kernel
theorem dX5_leastColourAgain_8 : decode cX5_leastColourAgain 8 = .ok (.iaload, 1) := by decide +kernel
theorem dX5_leastColourAgain_9 : decode cX5_leastColourAgain 9 = .ok (.istore_n 2, 1) := by decide +kernel
theorem dX5_leastColourAgain_10 : decode cX5_leastColourAgain 10 = .ok (.aload_n 0, 1) := by decide +kernel
theorem dX5_leastColourAgain_11 : decode cX5_leastColourAgain 11 = .ok (.aload_n 0, 1) := by decide +kernel
theorem dX5_leastColourAgain_12 : decode cX5_leastColourAgain 12 = .ok (.getfield 27, 3) := by decide +kernel
theorem dX5_leastColourAgain_15 : decode cX5_leastColourAgain 15 = .ok (.invokevirtual 30, 3) := by decide +kernel
theorem dX5_leastColourAgain_18 : decode cX5_leastColourAgain 18 = .ok (.istore_n 3, 1) := by decide +kernel
theorem dX5_leastColourAgain_19 : decode cX5_leastColourAgain 19 = .ok (.iconst 0, 1) := by decide +kernel
theorem dX5_leastColourAgain_20 : decode cX5_leastColourAgain 20 = .ok (.istore 4, 2) := by decide +kernel
theorem dX5_leastColourAgain_22 : decode cX5_leastColourAgain 22 = .ok (.iload 4, 2) := by decide +kernel
theorem dX5_leastColourAgain_24 : decode cX5_leastColourAgain 24 = .ok (.bipush 14, 2) := by decide +kernel
theorem dX5_leastColourAgain_26 : decode cX5_leastColourAgain 26 = .ok (.if_icmp .ge 42, 3) := by decide +kernel
theorem dX5_leastColourAgain_29 : decode cX5_leastColourAgain 29 = .ok (.aload_n 1, 1) := by decide +kernel
theorem dX5_leastColourAgain_30 : decode cX5_leastColourAgain 30 = .ok (.iload_n 3, 1) := by decide +kernel
theorem dX5_leastColourAgain_31 : decode cX5_leastColourAgain 31 = .ok (.invokevirtual 42, 3) := by decide +kernel
theorem dX5_leastColourAgain_34 : decode cX5_leastColourAgain 34 = .ok (.ifCond .eq 34, 3) := by decide +kernel
theorem dX5_leastColourAgain_37 : decode cX5_leastColourAgain 37 = .ok (.iload_n 3, 1) := by decide +kernel
theorem dX5_leastColourAgain_38 : decode cX5_leastColourAgain 38 = .ok (.aload_n 0, 1) := by decide +kernel
theorem dX5_leastColourAgain_39 : decode cX5_leastColourAgain 39 = .ok (.getfield 27, 3) := by decide +kernel
theorem dX5_leastColourAgain_42 : decode cX5_leastColourAgain 42 = .ok (.if_icmp .eq 26, 3) := by decide +kernel
theorem dX5_leastColourAgain_45 : decode cX5_leastColourAgain 45 = .ok (.iload_n 2, 1) := by decide +kernel
theorem dX5_leastColourAgain_46 : decode cX5_leastColourAgain 46 = .ok (.aload_n 1, 1) := by decide +kernel
theorem dX5_leastColourAgain_47 : decode cX5_leastColourAgain 47 = .ok (.getfield 37, 3) := by decide +kernel
theorem dX5_leastColourAgain_50 : decode cX5_leastColourAgain 50 = .ok (.iload_n 3, 1) := by decide +kernel
theorem dX5_leastColourAgain_51 : decode cX5_leastColourAgain 51 = .ok (.iaload, 1) := by decide +kernel
theorem dX5_leastColourAgain_52 : decode cX5_leastColourAgain 52 = .ok (.invokestatic 46, 3) := by decide +kernel
theorem dX5_leastColourAgain_55 : decode cX5_leastColourAgain 55 = .ok (.istore_n 2, 1) := by decide +kernel
theorem dX5_leastColourAgain_56 : decode cX5_leastColourAgain 56 = .ok (.aload_n 0, 1) := by decide +kernel
theorem dX5_leastColourAgain_57 : decode cX5_leastColourAgain 57 = .ok (.iload_n 3, 1) := by decide +kernel
theorem dX5_leastColourAgain_58 : decode cX5_leastColourAgain 58 = .ok (.invokevirtual 30, 3) := by decide +kernel
theorem dX5_leastColourAgain_61 : decode cX5_leastColourAgain 61 = .ok (.istore_n 3, 1) := by decide +kernel
theorem dX5_leastColourAgain_62 : decode cX5_leastColourAgain 62 = .ok (.iinc 4 1, 3) := by decide +kernel
theorem dX5_leastColourAgain_65 : decode cX5_leastColourAgain 65 = .ok (.goto (-43), 3) := by decide +kernel
theorem dX5_leastColourAgain_68 : decode cX5_leastColourAgain 68 = .ok (.iload_n 2, 1) := by decide +kernel
theorem dX5_leastColourAgain_69 : decode cX5_leastColourAgain 69 = .ok (.ireturn, 1) := by decide +kernel
set_option maxRecDepth 20000 in
theorem ggX5_winner_X5_leastColourAgain : GoodIn wsX5_winner wsX5_leastColourAgain := goodIn_r _ [8, 9, 3, 10, 11, 12, 13, 14, 15, 16, 7, 17, 18, 19, 20, 21, 22, 23, 24, 29, 30, 31, 32, 25, 26, 27, 28] (by decide +kernel) (by decide +kernel)
set_option maxRecDepth 20000 in
theorem gX5_winner_X5_leastColourAgain : GoodIn wsX5_winner (wsV RX5 52 RX5 yX5_leastColourAgain wsX5_leastColourAgain) := goodIn_app (goodIn_of _ (by decide +kernel)) ggX5_winner_X5_leastColourAgain
theorem dX5_winner_0 : decode cX5_winner 0 = .ok (.aload_n 0, 1) := by decide +kernel
theorem dX5_winner_1 : decode cX5_winner 1 = .ok (.getfield 23, 3) := by decide +kernel
theorem dX5_winner_4 : decode cX5_winner 4 = .ok (.ifCond .eq 13, 3) := by decide +kernel
theorem dX5_winner_7 : decode cX5_winner 7 = .ok (.aload_n 0, 1) := by decide +kernel
theorem dX5_winner_8 : decode cX5_winner 8 = .ok (.aload_n 1, 1) := by decide +kernel
theorem dX5_winner_9 : decode cX5_winner 9 = .ok (.invokevirtual 52, 3) := by decide +kernel
theorem dX5_winner_12 : decode cX5_winner 12 = .ok (.iconst 2, 1) := by decide +kernel
theorem dX5_winner_13 : decode cX5_winner 13 = .ok (.irem, 1) := by decide +kernel
theorem dX5_winner_14 : decode cX5_winner 14 = .ok (.goto 14, 3) := by decide +kernel
theorem dX5_winner_17 : decode cX5_winner 17 = .ok (.iconst 1, 1) := by decide +kernel
theorem dX5_winner_18 : decode cX5_winner 18 = .ok (.aload_n 1, 1) := by decide +kernel
theorem dX5_winner_19 : decode cX5_winner 19 = .ok (.getfield 56, 3) := by decide +kernel
theorem dX5_winner_22 : decode cX5_winner 22 = .ok (.aload_n 0, 1) := by decide +kernel
theorem dX5_winner_23 : decode cX5_winner 23 = .ok (.getfield 27, 3) := by decide +kernel
theorem dX5_winner_26 : decode cX5_winner 26 = .ok (.iaload, 1) := by decide +kernel
theorem dX5_winner_27 : decode cX5_winner 27 = .ok (.isub, 1) := by decide +kernel
theorem dX5_winner_28 : decode cX5_winner 28 = .ok (.ireturn, 1) := by decide +kernel
set_option maxRecDepth 20000 in
theorem ggX6_init_X4_init : GoodIn wsX6_init wsX4_init := goodIn_r _ [31, 32, 2, 3, 33, 19, 20, 34, 35, 36, 37, 38, 39, 40, 41, 42, 43, 80, 81, 82, 83, 64, 65, 66, 67] (by decide +kernel) (by decide +kernel)
set_option maxRecDepth 20000 in
theorem gX6_init_X4_init_n11 : GoodIn wsX6_init (wsX4_init) := ggX6_init_X4_init
set_option maxRecDepth 20000 in
theorem ggX6_init_X2_init : GoodIn wsX6_init wsX2_init := goodIn_r _ [46, 47, 2, 3, 48, 49, 5, 6, 30, 31, 32, 33, 19, 20, 34, 35, 36, 37, 38, 39, 40, 41, 42, 43, 76, 77, 64, 65, 66, 67, 80, 81, 82, 83] (by decide +kernel) (by decide +kernel)
set_option maxRecDepth 20000 in
theorem gX6_init_X2_init : GoodIn wsX6_init (wsX2_init) := ggX6_init_X2_init
set_option maxRecDepth 20000 in
theorem ggX6_init_X0_init : GoodIn wsX6_init wsX0_init := goodIn_r _ [51, 52, 2, 3, 53, 54, 78, 79] (by decide +kernel) (by decide +kernel)
set_option maxRecDepth 20000 in
theorem gX6_init_X0_init_n32 : GoodIn wsX6_init (wsX0_init) := ggX6_init_X0_init
set_option maxRecDepth 20000 in
theorem ggX6_init_X1_init : GoodIn wsX6_init wsX1_init := goodIn_r _ [39, 40, 2, 3, 35, 41, 42, 43, 80, 81, 82, 83] (by decide +kernel) (by decide +kernel)
set_option maxRecDepth 20000 in
theorem gX6_init_X1_init_n39 : GoodIn wsX6_init (wsX1_init) := ggX6_init_X1_init
set_option maxRecDepth 20000 in
theorem ggX6_init_X3_init : GoodIn wsX6_init wsX3_init := goodIn_r _ [56, 57, 2, 3, 35, 58, 59, 84, 85, 86] (by decide +kernel) (by decide +kernel)
set_option maxRecDepth 20000 in
theorem gX6_init_X3_init_n46 : GoodIn wsX6_init (wsX3_init) := ggX6_init_X3_init
set_option maxRecDepth 20000 in
theorem ggX6_init_X5_init : GoodIn wsX6_init wsX5_init := goodIn_r _ [61, 62, 2, 3, 35, 63, 87, 88, 89, 90] (by decide +kernel) (by decide +kernel)
set_option maxRecDepth 20000 in
theorem gX6_init_X5_init_n53 : GoodIn wsX6_init (wsX5_init) := ggX6_init_X5_init
