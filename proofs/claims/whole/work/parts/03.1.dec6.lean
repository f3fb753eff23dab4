theorem dX6_init_0 : decode cX6_init 0 = .ok (.aload_n 0, 1) := by decide +kernel
theorem dX6_init_1 : decode cX6_init 1 = .ok (.invokespecial 3, 3) := by decide +kernel
theorem dX6_init_4 : decode cX6_init 4 = .ok (.aload_n 0, 1) := by decide +kernel
theorem dX6_init_5 : decode cX6_init 5 = .ok (.new 9, 3) := by decide +kernel
theorem dX6_init_8 : decode cX6_init 8 = .ok (.dup, 1) := by decide +kernel
theorem dX6_init_9 : decode cX6_init 9 = .ok (.invokespecial 11, 3) := by decide +kernel
theorem dX6_init_12 : decode cX6_init 12 = .ok (.putfield 12, 3) := by decide +kernel
theorem dX6_init_15 : decode cX6_init 15 = .ok (.aload_n 0, 1) := by decide +kernel
theorem dX6_init_16 : decode cX6_init 16 = .ok (.new 16, 3) := by decide +kernel
theorem dX6_init_19 : decode cX6_init 19 = .ok (.dup, 1) := by decide +kernel
theorem dX6_init_20 : decode cX6_init 20 = .ok (.invokespecial 18, 3) := by decide +kernel
theorem dX6_init_23 : decode cX6_init 23 = .ok (.putfield 19, 3) := by decide +kernel
theorem dX6_init_26 : decode cX6_init 26 = .ok (.aload_n 0, 1) := by decide +kernel
theorem dX6_init_27 : decode cX6_init 27 = .ok (.new 9, 3) := by decide +kernel
theorem dX6_init_30 : decode cX6_init 30 = .ok (.dup, 1) := by decide +kernel
theorem dX6_init_31 : decode cX6_init 31 = .ok (.invokespecial 11, 3) := by decide +kernel
theorem dX6_init_34 : decode cX6_init 34 = .ok (.putfield 23, 3) := by decide +kernel
theorem dX6_init_37 : decode cX6_init 37 = .ok (.aload_n 0, 1) := by decide +kernel
theorem dX6_init_38 : decode cX6_init 38 = .ok (.iconst 0, 1) := by decide +kernel
theorem dX6_init_39 : decode cX6_init 39 = .ok (.putfield 26, 3) := by decide +kernel
theorem dX6_init_42 : decode cX6_init 42 = .ok (.aload_n 0, 1) := by decide +kernel
theorem dX6_init_43 : decode cX6_init 43 = .ok (.new 30, 3) := by decide +kernel
theorem dX6_init_46 : decode cX6_init 46 = .ok (.dup, 1) := by decide +kernel
theorem dX6_init_47 : decode cX6_init 47 = .ok (.invokespecial 32, 3) := by decide +kernel
theorem dX6_init_50 : decode cX6_init 50 = .ok (.putfield 33, 3) := by decide +kernel
theorem dX6_init_53 : decode cX6_init 53 = .ok (.aload_n 0, 1) := by decide +kernel
theorem dX6_init_54 : decode cX6_init 54 = .ok (.new 37, 3) := by decide +kernel
theorem dX6_init_57 : decode cX6_init 57 = .ok (.dup, 1) := by decide +kernel
theorem dX6_init_58 : decode cX6_init 58 = .ok (.invokespecial 39, 3) := by decide +kernel
theorem dX6_init_61 : decode cX6_init 61 = .ok (.putfield 40, 3) := by decide +kernel
theorem dX6_init_64 : decode cX6_init 64 = .ok (.aload_n 0, 1) := by decide +kernel
theorem dX6_init_65 : decode cX6_init 65 = .ok (.new 44, 3) := by decide +kernel
theorem dX6_init_68 : decode cX6_init 68 = .ok (.dup, 1) := by decide +kernel
theorem dX6_init_69 : decode cX6_init 69 = .ok (.invokespecial 46, 3) := by decide +kernel
theorem dX6_init_72 : decode cX6_init 72 = .ok (.putfield 47, 3) := by decide +kernel
theorem dX6_init_75 : decode cX6_init 75 = .ok (.aload_n 0, 1) := by decide +kernel
theorem dX6_init_76 : decode cX6_init 76 = .ok (.new 51, 3) := by decide +kernel
theorem dX6_init_79 : decode cX6_init 79 = .ok (.dup, 1) := by decide +kernel
theorem dX6_init_80 : decode cX6_init 80 = .ok (.invokespecial 53, 3) := by decide +kernel
theorem dX6_init_83 : decode cX6_init 83 = .ok (.putfield 54, 3) := by decide +kernel
theorem dX6_init_86 : decode cX6_init 86 = .ok (.return_, 1) := by decide +kernel
set_option maxRecDepth 20000 in
theorem ggX6_addPlace_X6_isPlayer : GoodIn wsX6_addPlace wsX6_isPlayer := goodIn_r _ [8] (by decide +kernel) (by decide +kernel)
set_option maxRecDepth 20000 in
theorem gX6_addPlace_X6_isPlayer : GoodIn wsX6_addPlace (va_wsS RX6 58 yX6_isPlayer wsX6_isPlayer) := goodIn_app (goodIn_of _ (by decide +kernel)) ggX6_addPlace_X6_isPlayer
set_option maxRecDepth 20000 in
theorem ggX6_addPlace_X6_isColour : GoodIn wsX6_addPlace wsX6_isColour := goodIn_r _ [11] (by decide +kernel) (by decide +kernel)
set_option maxRecDepth 20000 in
theorem gX6_addPlace_X6_isColour : GoodIn wsX6_addPlace (va_wsS RX6 62 yX6_isColour wsX6_isColour) := goodIn_app (goodIn_of _ (by decide +kernel)) ggX6_addPlace_X6_isColour
set_option maxRecDepth 20000 in
theorem ggX6_addPlace_X2_remember : GoodIn wsX6_addPlace wsX2_remember := goodIn_r _ [16, 17, 18, 19, 20, 21, 15, 22, 23, 24, 25, 26, 27, 28, 29, 30, 31, 32, 33, 34, 35, 36, 37, 38, 39, 40, 41, 42, 43, 44, 45, 70, 71, 62, 63, 64, 65, 66, 67, 68, 69] (by decide +kernel) (by decide +kernel)
set_option maxRecDepth 20000 in
theorem gX6_addPlace_X2_remember : GoodIn wsX6_addPlace (wsV RX6 72 RX2 yX2_remember wsX2_remember) := goodIn_app (goodIn_of _ (by decide +kernel)) ggX6_addPlace_X2_remember
set_option maxRecDepth 20000 in
theorem ggX6_addPlace_X4_append : GoodIn wsX6_addPlace wsX4_append := goodIn_r _ [49, 28, 50, 51, 52, 53, 29, 62, 63, 64, 65, 66, 67, 68, 69] (by decide +kernel) (by decide +kernel)
set_option maxRecDepth 20000 in
theorem gX6_addPlace_X4_append : GoodIn wsX6_addPlace (wsV RX6 76 RX4 yX4_append wsX4_append) := goodIn_app (goodIn_of _ (by decide +kernel)) ggX6_addPlace_X4_append
theorem dX6_addPlace_0 : decode cX6_addPlace 0 = .ok (.iload_n 1, 1) := by decide +kernel
theorem dX6_addPlace_1 : decode cX6_addPlace 1 = .ok (.invokestatic 58, 3) := by decide +kernel
theorem dX6_addPlace_4 : decode cX6_addPlace 4 = .ok (.ifCond .eq 10, 3) := by decide +kernel
theorem dX6_addPlace_7 : decode cX6_addPlace 7 = .ok (.iload_n 2, 1) := by decide +kernel
theorem dX6_addPlace_8 : decode cX6_addPlace 8 = .ok (.invokestatic 62, 3) := by decide +kernel
theorem dX6_addPlace_11 : decode cX6_addPlace 11 = .ok (.ifCond .ne 6, 3) := by decide +kernel
theorem dX6_addPlace_14 : decode cX6_addPlace 14 = .ok (.bipush (-2), 2) := by decide +kernel
theorem dX6_addPlace_16 : decode cX6_addPlace 16 = .ok (.ireturn, 1) := by decide +kernel
theorem dX6_addPlace_17 : decode cX6_addPlace 17 = .ok (.aload_n 0, 1) := by decide +kernel
theorem dX6_addPlace_18 : decode cX6_addPlace 18 = .ok (.getfield 12, 3) := by decide +kernel
theorem dX6_addPlace_21 : decode cX6_addPlace 21 = .ok (.getfield 65, 3) := by decide +kernel
theorem dX6_addPlace_24 : decode cX6_addPlace 24 = .ok (.getfield 68, 3) := by decide +kernel
theorem dX6_addPlace_27 : decode cX6_addPlace 27 = .ok (.bipush 14, 2) := by decide +kernel
theorem dX6_addPlace_29 : decode cX6_addPlace 29 = .ok (.if_icmp .lt 6, 3) := by decide +kernel
theorem dX6_addPlace_32 : decode cX6_addPlace 32 = .ok (.bipush (-3), 2) := by decide +kernel
theorem dX6_addPlace_34 : decode cX6_addPlace 34 = .ok (.ireturn, 1) := by decide +kernel
theorem dX6_addPlace_35 : decode cX6_addPlace 35 = .ok (.aload_n 0, 1) := by decide +kernel
theorem dX6_addPlace_36 : decode cX6_addPlace 36 = .ok (.getfield 19, 3) := by decide +kernel
theorem dX6_addPlace_39 : decode cX6_addPlace 39 = .ok (.aload_n 0, 1) := by decide +kernel
theorem dX6_addPlace_40 : decode cX6_addPlace 40 = .ok (.getfield 12, 3) := by decide +kernel
theorem dX6_addPlace_43 : decode cX6_addPlace 43 = .ok (.invokevirtual 72, 3) := by decide +kernel
theorem dX6_addPlace_46 : decode cX6_addPlace 46 = .ok (.aload_n 0, 1) := by decide +kernel
theorem dX6_addPlace_47 : decode cX6_addPlace 47 = .ok (.getfield 12, 3) := by decide +kernel
theorem dX6_addPlace_50 : decode cX6_addPlace 50 = .ok (.iload_n 1, 1) := by decide +kernel
theorem dX6_addPlace_51 : decode cX6_addPlace 51 = .ok (.iload_n 2, 1) := by decide +kernel
theorem dX6_addPlace_52 : decode cX6_addPlace 52 = .ok (.invokevirtual 76, 3) := by decide +kernel
theorem dX6_addPlace_55 : decode cX6_addPlace 55 = .ok (.ireturn, 1) := by decide +kernel
set_option maxRecDepth 20000 in
theorem ggX6_setOwner_X1_has : GoodIn wsX6_setOwner wsX1_has := goodIn_r _ [9, 10, 117, 118, 119, 120] (by decide +kernel) (by decide +kernel)
set_option maxRecDepth 20000 in
theorem gX6_setOwner_X1_has : GoodIn wsX6_setOwner (wsV RX6 80 RX1 yX1_has wsX1_has) := goodIn_app (goodIn_of _ (by decide +kernel)) ggX6_setOwner_X1_has
set_option maxRecDepth 20000 in
theorem ggX6_setOwner_X6_isPlayer : GoodIn wsX6_setOwner wsX6_isPlayer := goodIn_r _ [14] (by decide +kernel) (by decide +kernel)
set_option maxRecDepth 20000 in
theorem gX6_setOwner_X6_isPlayer : GoodIn wsX6_setOwner (va_wsS RX6 58 yX6_isPlayer wsX6_isPlayer) := goodIn_app (goodIn_of _ (by decide +kernel)) ggX6_setOwner_X6_isPlayer
set_option maxRecDepth 20000 in
theorem ggX6_setOwner_X2_remember : GoodIn wsX6_setOwner wsX2_remember := goodIn_r _ [19, 20, 21, 22, 23, 24, 18, 25, 26, 27, 28, 29, 30, 31, 32, 33, 34, 35, 36, 37, 38, 39, 40, 41, 8, 42, 10, 43, 44, 45, 46, 121, 122, 113, 114, 115, 116, 117, 118, 119, 120] (by decide +kernel) (by decide +kernel)
set_option maxRecDepth 20000 in
theorem gX6_setOwner_X2_remember : GoodIn wsX6_setOwner (wsV RX6 72 RX2 yX2_remember wsX2_remember) := goodIn_app (goodIn_of _ (by decide +kernel)) ggX6_setOwner_X2_remember
set_option maxRecDepth 20000 in
theorem ggX6_setOwner_X6_wonBy : GoodIn wsX6_setOwner wsX6_wonBy := goodIn_r _ [50, 1, 2, 51, 52, 53, 54, 55, 13, 56, 57, 58, 40, 41, 8, 42, 10, 43, 44, 34, 35, 36, 45, 46, 59, 60, 61, 62, 63, 64, 65, 66, 67, 68, 69, 70, 71, 72, 73, 74, 75, 76, 77, 78, 79, 80, 81, 82, 83, 84, 85, 86, 87, 88, 89, 90, 91, 92, 93, 94, 95, 96, 97, 98, 99, 100, 101, 102, 103, 104, 105, 106, 107, 108, 109, 110, 111, 112, 113, 114, 115, 116, 117, 118, 119, 120, 123, 124, 125] (by decide +kernel) (by decide +kernel)
set_option maxRecDepth 20000 in
theorem gX6_setOwner_X6_wonBy : GoodIn wsX6_setOwner (wsV RX6 87 RX6 yX6_wonBy wsX6_wonBy) := goodIn_app (goodIn_of _ (by decide +kernel)) ggX6_setOwner_X6_wonBy
theorem dX6_setOwner_0 : decode cX6_setOwner 0 = .ok (.aload_n 0, 1) := by decide +kernel
theorem dX6_setOwner_1 : decode cX6_setOwner 1 = .ok (.getfield 12, 3) := by decide +kernel
theorem dX6_setOwner_4 : decode cX6_setOwner 4 = .ok (.getfield 65, 3) := by decide +kernel
theorem dX6_setOwner_7 : decode cX6_setOwner 7 = .ok (.iload_n 1, 1) := by decide +kernel
theorem dX6_setOwner_8 : decode cX6_setOwner 8 = .ok (.invokevirtual 80, 3) := by decide +kernel
theorem dX6_setOwner_11 : decode cX6_setOwner 11 = .ok (.ifCond .ne 5, 3) := by decide +kernel
theorem dX6_setOwner_14 : decode cX6_setOwner 14 = .ok (.iconst (-1), 1) := by decide +kernel
theorem dX6_setOwner_15 : decode cX6_setOwner 15 = .ok (.ireturn, 1) := by decide +kernel
theorem dX6_setOwner_16 : decode cX6_setOwner 16 = .ok (.iload_n 2, 1) := by decide +kernel
theorem dX6_setOwner_17 : decode cX6_setOwner 17 = .ok (.invokestatic 58, 3) := by decide +kernel
theorem dX6_setOwner_20 : decode cX6_setOwner 20 = .ok (.ifCond .ne 6, 3) := by decide +kernel
theorem dX6_setOwner_23 : decode cX6_setOwner 23 = .ok (.bipush (-2), 2) := by decide +kernel
theorem dX6_setOwner_25 : decode cX6_setOwner 25 = .ok (.ireturn, 1) := by decide +kernel
theorem dX6_setOwner_26 : decode cX6_setOwner 26 = .ok (.aload_n 0, 1) := by decide +kernel
theorem dX6_setOwner_27 : decode cX6_setOwner 27 = .ok (.getfield 12, 3) := by decide +kernel
theorem dX6_setOwner_30 : decode cX6_setOwner 30 = .ok (.getfield 65, 3) := by decide +kernel
theorem dX6_setOwner_33 : decode cX6_setOwner 33 = .ok (.getfield 83, 3) := by decide +kernel
theorem dX6_setOwner_36 : decode cX6_setOwner 36 = .ok (.iload_n 1, 1) := by decide +kernel
theorem dX6_setOwner_37 : decode cX6_setOwner 37 = .ok (.iaload, 1) := by decide +kernel
theorem dX6_setOwner_38 : decode cX6_setOwner 38 = .ok (.iload_n 2, 1) := by decide +kernel
theorem dX6_setOwner_39 : decode cX6_setOwner 39 = .ok (.if_icmp .ne 6, 3) := by decide +kernel
theorem dX6_setOwner_42 : decode cX6_setOwner 42 = .ok (.bipush (-5), 2) := by decide +kernel
theorem dX6_setOwner_44 : decode cX6_setOwner 44 = .ok (.ireturn, 1) := by decide +kernel
theorem dX6_setOwner_45 : decode cX6_setOwner 45 = .ok (.aload_n 0, 1) := by decide +kernel
theorem dX6_setOwner_46 : decode cX6_setOwner 46 = .ok (.getfield 19, 3) := by decide +kernel
theorem dX6_setOwner_49 : decode cX6_setOwner 49 = .ok (.aload_n 0, 1) := by decide +kernel
theorem dX6_setOwner_50 : decode cX6_setOwner 50 = .ok (.getfield 12, 3) := by decide +kernel
theorem dX6_setOwner_53 : decode cX6_setOwner 53 = .ok (.invokevirtual 72, 3) := by decide +kernel
theorem dX6_setOwner_56 : decode cX6_setOwner 56 = .ok (.aload_n 0, 1) := by decide +kernel
theorem dX6_setOwner_57 : decode cX6_setOwner 57 = .ok (.getfield 12, 3) := by decide +kernel
theorem dX6_setOwner_60 : decode cX6_setOwner 60 = .ok (.getfield 65, 3) := by decide +kernel
theorem dX6_setOwner_63 : decode cX6_setOwner 63 = .ok (.getfield 83, 3) := by decide +kernel
theorem dX6_setOwner_66 : decode cX6_setOwner 66 = .ok (.iload_n 1, 1) := by decide +kernel
theorem dX6_setOwner_67 : decode cX6_setOwner 67 = .ok (.iload_n 2, 1) := by decide +kernel
theorem dX6_setOwner_68 : decode cX6_setOwner 68 = .ok (.iastore, 1) := by decide +kernel
theorem dX6_setOwner_69 : decode cX6_setOwner 69 = .ok (.aload_n 0, 1) := by decide +kernel
theorem dX6_setOwner_70 : decode cX6_setOwner 70 = .ok (.iconst 0, 1) := by decide +kernel
theorem dX6_setOwner_71 : decode cX6_setOwner 71 = .ok (.invokevirtual 87, 3) := by decide +kernel
theorem dX6_setOwner_74 : decode cX6_setOwner 74 = .ok (.ireturn, 1) := by decide +kernel
set_option maxRecDepth 20000 in
theorem ggX6_setColour_X1_has : GoodIn wsX6_setColour wsX1_has := goodIn_r _ [9, 10, 59, 60, 61, 62] (by decide +kernel) (by decide +kernel)
set_option maxRecDepth 20000 in
theorem gX6_setColour_X1_has : GoodIn wsX6_setColour (wsV RX6 80 RX1 yX1_has wsX1_has) := goodIn_app (goodIn_of _ (by decide +kernel)) ggX6_setColour_X1_has
set_option maxRecDepth 20000 in
theorem ggX6_setColour_X6_isColour : GoodIn wsX6_setColour wsX6_isColour := goodIn_r _ [14] (by decide +kernel) (by decide +kernel)
set_option maxRecDepth 20000 in
theorem gX6_setColour_X6_isColour : GoodIn wsX6_setColour (va_wsS RX6 62 yX6_isColour wsX6_isColour) := goodIn_app (goodIn_of _ (by decide +kernel)) ggX6_setColour_X6_isColour
set_option maxRecDepth 20000 in
theorem ggX6_setColour_X2_remember : GoodIn wsX6_setColour wsX2_remember := goodIn_r _ [19, 20, 21, 22, 23, 24, 18, 25, 26, 27, 28, 29, 30, 31, 32, 33, 34, 35, 36, 37, 38, 39, 40, 41, 8, 42, 10, 43, 44, 45, 46, 63, 64, 55, 56, 57, 58, 59, 60, 61, 62] (by decide +kernel) (by decide +kernel)
set_option maxRecDepth 20000 in
theorem gX6_setColour_X2_remember : GoodIn wsX6_setColour (wsV RX6 72 RX2 yX2_remember wsX2_remember) := goodIn_app (goodIn_of _ (by decide +kernel)) ggX6_setColour_X2_remember
theorem dX6_setColour_0 : decode cX6_setColour 0 = .ok (.aload_n 0, 1) := by decide +kernel
theorem dX6_setColour_1 : decode cX6_setColour 1 = .ok (.getfield 12, 3) := by decide +kernel
theorem dX6_setColour_4 : decode cX6_setColour 4 = .ok (.getfield 65, 3) := by decide +kernel
theorem dX6_setColour_7 : decode cX6_setColour 7 = .ok (.iload_n 1, 1) := by decide +kernel
theorem dX6_setColour_8 : decode cX6_setColour 8 = .ok (.invokevirtual 80, 3) := by decide +kernel
theorem dX6_setColour_11 : decode cX6_setColour 11 = .ok (.ifCond .ne 5, 3) := by decide +kernel
theorem dX6_setColour_14 : decode cX6_setColour 14 = .ok (.iconst (-1), 1) := by decide +kernel
theorem dX6_setColour_15 : decode cX6_setColour 15 = .ok (.ireturn, 1) := by decide +kernel
theorem dX6_setColour_16 : decode cX6_setColour 16 = .ok (.iload_n 2, 1) := by decide +kernel
theorem dX6_setColour_17 : decode cX6_setColour 17 = .ok (.invokestatic 62, 3) := by decide +kernel
theorem dX6_setColour_20 : decode cX6_setColour 20 = .ok (.ifCond .ne 6, 3) := by decide +kernel
theorem dX6_setColour_23 : decode cX6_setColour 23 = .ok (.bipush (-2), 2) := by decide +kernel
theorem dX6_setColour_25 : decode cX6_setColour 25 = .ok (.ireturn, 1) := by decide +kernel
theorem dX6_setColour_26 : decode cX6_setColour 26 = .ok (.aload_n 0, 1) := by decide +kernel
theorem dX6_setColour_27 : decode cX6_setColour 27 = .ok (.getfield 12, 3) := by decide +kernel
theorem dX6_setColour_30 : decode cX6_setColour 30 = .ok (.getfield 65, 3) := by decide +kernel
theorem dX6_setColour_33 : decode cX6_setColour 33 = .ok (.getfield 91, 3) := by decide +kernel
theorem dX6_setColour_36 : decode cX6_setColour 36 = .ok (.iload_n 1, 1) := by decide +kernel
theorem dX6_setColour_37 : decode cX6_setColour 37 = .ok (.iaload, 1) := by decide +kernel
theorem dX6_setColour_38 : decode cX6_setColour 38 = .ok (.istore_n 3, 1) := by decide +kernel
theorem dX6_setColour_39 : decode cX6_setColour 39 = .ok (.iload_n 3, 1) := by decide +kernel
theorem dX6_setColour_40 : decode cX6_setColour 40 = .ok (.iload_n 2, 1) := by decide +kernel
theorem dX6_setColour_41 : decode cX6_setColour 41 = .ok (.if_icmp .ne 6, 3) := by decide +kernel
theorem dX6_setColour_44 : decode cX6_setColour 44 = .ok (.bipush (-5), 2) := by decide +kernel
theorem dX6_setColour_46 : decode cX6_setColour 46 = .ok (.ireturn, 1) := by decide +kernel
theorem dX6_setColour_47 : decode cX6_setColour 47 = .ok (.aload_n 0, 1) := by decide +kernel
theorem dX6_setColour_48 : decode cX6_setColour 48 = .ok (.getfield 19, 3) := by decide +kernel
theorem dX6_setColour_51 : decode cX6_setColour 51 = .ok (.aload_n 0, 1) := by decide +kernel
theorem dX6_setColour_52 : decode cX6_setColour 52 = .ok (.getfield 12, 3) := by decide +kernel
theorem dX6_setColour_55 : decode cX6_setColour 55 = .ok (.invokevirtual 72, 3) := by decide +kernel
theorem dX6_setColour_58 : decode cX6_setColour 58 = .ok (.aload_n 0, 1) := by decide +kernel
theorem dX6_setColour_59 : decode cX6_setColour 59 = .ok (.getfield 12, 3) := by decide +kernel
theorem dX6_setColour_62 : decode cX6_setColour 62 = .ok (.getfield 65, 3) := by decide +kernel
theorem dX6_setColour_65 : decode cX6_setColour 65 = .ok (.getfield 91, 3) := by decide +kernel
theorem dX6_setColour_68 : decode cX6_setColour 68 = .ok (.iload_n 1, 1) := by decide +kernel
theorem dX6_setColour_69 : decode cX6_setColour 69 = .ok (.iload_n 2, 1) := by decide +kernel
theorem dX6_setColour_70 : decode cX6_setColour 70 = .ok (.iastore, 1) := by decide +kernel
theorem dX6_setColour_71 : decode cX6_setColour 71 = .ok (.iload_n 3, 1) := by decide +kernel
theorem dX6_setColour_72 : decode cX6_setColour 72 = .ok (.ireturn, 1) := by decide +kernel
set_option maxRecDepth 20000 in
theorem ggX6_addArrow_X1_has : GoodIn wsX6_addArrow wsX1_has := goodIn_r _ [9, 10, 78, 79, 80, 81] (by decide +kernel) (by decide +kernel)
set_option maxRecDepth 20000 in
theorem gX6_addArrow_X1_has : GoodIn wsX6_addArrow (wsV RX6 80 RX1 yX1_has wsX1_has) := goodIn_app (goodIn_of _ (by decide +kernel)) ggX6_addArrow_X1_has
set_option maxRecDepth 20000 in
theorem ggX6_addArrow_X1_arrowCount : GoodIn wsX6_addArrow wsX1_arrowCount := goodIn_r _ [14, 10, 15, 16, 17, 18, 19, 20, 21, 22, 78, 79, 80, 81] (by decide +kernel) (by decide +kernel)
set_option maxRecDepth 20000 in
theorem gX6_addArrow_X1_arrowCount : GoodIn wsX6_addArrow (wsV RX6 94 RX1 yX1_arrowCount wsX1_arrowCount) := goodIn_app (goodIn_of _ (by decide +kernel)) ggX6_addArrow_X1_arrowCount
set_option maxRecDepth 20000 in
theorem ggX6_addArrow_X1_leads : GoodIn wsX6_addArrow wsX1_leads := goodIn_r _ [26, 15, 27, 6, 7, 8, 9, 10, 28, 29, 30, 78, 79, 80, 81] (by decide +kernel) (by decide +kernel)
set_option maxRecDepth 20000 in
theorem gX6_addArrow_X1_leads : GoodIn wsX6_addArrow (wsV RX6 98 RX1 yX1_leads wsX1_leads) := goodIn_app (goodIn_of _ (by decide +kernel)) ggX6_addArrow_X1_leads
set_option maxRecDepth 20000 in
theorem ggX6_addArrow_X2_remember : GoodIn wsX6_addArrow wsX2_remember := goodIn_r _ [35, 36, 37, 38, 39, 40, 34, 41, 42, 43, 44, 45, 46, 47, 48, 49, 50, 51, 52, 53, 54, 55, 56, 57, 8, 58, 10, 59, 60, 61, 15, 82, 83, 74, 75, 76, 77, 78, 79, 80, 81] (by decide +kernel) (by decide +kernel)
set_option maxRecDepth 20000 in
theorem gX6_addArrow_X2_remember : GoodIn wsX6_addArrow (wsV RX6 72 RX2 yX2_remember wsX2_remember) := goodIn_app (goodIn_of _ (by decide +kernel)) ggX6_addArrow_X2_remember
set_option maxRecDepth 20000 in
theorem ggX6_addArrow_X6_bit : GoodIn wsX6_addArrow wsX6_bit := goodIn_r _ [64] (by decide +kernel) (by decide +kernel)
set_option maxRecDepth 20000 in
theorem gX6_addArrow_X6_bit : GoodIn wsX6_addArrow (va_wsS RX6 105 yX6_bit wsX6_bit) := goodIn_app (goodIn_of _ (by decide +kernel)) ggX6_addArrow_X6_bit
set_option maxRecDepth 20000 in
theorem ggX6_addArrow_J6_bitCount_0f7a4 : GoodIn wsX6_addArrow wsJ6_bitCount_0f7a4 := goodIn_r _ [19, 20, 21, 22] (by decide +kernel) (by decide +kernel)
set_option maxRecDepth 20000 in
theorem gX6_addArrow_J6_bitCount_0f7a4 : GoodIn wsX6_addArrow (va_wsS RX6 108 yJ6_bitCount_0f7a4 wsJ6_bitCount_0f7a4) := goodIn_app (goodIn_of _ (by decide +kernel)) ggX6_addArrow_J6_bitCount_0f7a4
theorem dX6_addArrow_0 : decode cX6_addArrow 0 = .ok (.aload_n 0, 1) := by decide +kernel
theorem dX6_addArrow_1 : decode cX6_addArrow 1 = .ok (.getfield 12, 3) := by decide +kernel
theorem dX6_addArrow_4 : decode cX6_addArrow 4 = .ok (.getfield 65, 3) := by decide +kernel
theorem dX6_addArrow_7 : decode cX6_addArrow 7 = .ok (.iload_n 1, 1) := by decide +kernel
theorem dX6_addArrow_8 : decode cX6_addArrow 8 = .ok (.invokevirtual 80, 3) := by decide +kernel
theorem dX6_addArrow_11 : decode cX6_addArrow 11 = .ok (.ifCond .eq 17, 3) := by decide +kernel
theorem dX6_addArrow_14 : decode cX6_addArrow 14 = .ok (.aload_n 0, 1) := by decide +kernel
theorem dX6_addArrow_15 : decode cX6_addArrow 15 = .ok (.getfield 12, 3) := by decide +kernel
theorem dX6_addArrow_18 : decode cX6_addArrow 18 = .ok (.getfield 65, 3) := by decide +kernel
theorem dX6_addArrow_21 : decode cX6_addArrow 21 = .ok (.iload_n 2, 1) := by decide +kernel
theorem dX6_addArrow_22 : decode cX6_addArrow 22 = .ok (.invokevirtual 80, 3) := by decide +kernel
theorem dX6_addArrow_25 : decode cX6_addArrow 25 = .ok (.ifCond .ne 5, 3) := by decide +kernel
theorem dX6_addArrow_28 : decode cX6_addArrow 28 = .ok (.iconst (-1), 1) := by decide +kernel
theorem dX6_addArrow_29 : decode cX6_addArrow 29 = .ok (.ireturn, 1) := by decide +kernel
theorem dX6_addArrow_30 : decode cX6_addArrow 30 = .ok (.aload_n 0, 1) := by decide +kernel
theorem dX6_addArrow_31 : decode cX6_addArrow 31 = .ok (.getfield 12, 3) := by decide +kernel
theorem dX6_addArrow_34 : decode cX6_addArrow 34 = .ok (.getfield 65, 3) := by decide +kernel
theorem dX6_addArrow_37 : decode cX6_addArrow 37 = .ok (.invokevirtual 94, 3) := by decide +kernel
theorem dX6_addArrow_40 : decode cX6_addArrow 40 = .ok (.bipush 60, 2) := by decide +kernel
theorem dX6_addArrow_42 : decode cX6_addArrow 42 = .ok (.if_icmp .lt 6, 3) := by decide +kernel
theorem dX6_addArrow_45 : decode cX6_addArrow 45 = .ok (.bipush (-3), 2) := by decide +kernel
theorem dX6_addArrow_47 : decode cX6_addArrow 47 = .ok (.ireturn, 1) := by decide +kernel
theorem dX6_addArrow_48 : decode cX6_addArrow 48 = .ok (.aload_n 0, 1) := by decide +kernel
theorem dX6_addArrow_49 : decode cX6_addArrow 49 = .ok (.getfield 12, 3) := by decide +kernel
theorem dX6_addArrow_52 : decode cX6_addArrow 52 = .ok (.getfield 65, 3) := by decide +kernel
theorem dX6_addArrow_55 : decode cX6_addArrow 55 = .ok (.iload_n 1, 1) := by decide +kernel
theorem dX6_addArrow_56 : decode cX6_addArrow 56 = .ok (.iload_n 2, 1) := by decide +kernel
theorem dX6_addArrow_57 : decode cX6_addArrow 57 = .ok (.invokevirtual 98, 3) := by decide +kernel
theorem dX6_addArrow_60 : decode cX6_addArrow 60 = .ok (.ifCond .eq 6, 3) := by decide +kernel
theorem dX6_addArrow_63 : decode cX6_addArrow 63 = .ok (.bipush (-5), 2) := by decide +kernel
theorem dX6_addArrow_65 : decode cX6_addArrow 65 = .ok (.ireturn, 1) := by decide +kernel
theorem dX6_addArrow_66 : decode cX6_addArrow 66 = .ok (.aload_n 0, 1) := by decide +kernel
theorem dX6_addArrow_67 : decode cX6_addArrow 67 = .ok (.getfield 19, 3) := by decide +kernel
theorem dX6_addArrow_70 : decode cX6_addArrow 70 = .ok (.aload_n 0, 1) := by decide +kernel
theorem dX6_addArrow_71 : decode cX6_addArrow 71 = .ok (.getfield 12, 3) := by decide +kernel
theorem dX6_addArrow_74 : decode cX6_addArrow 74 = .ok (.invokevirtual 72, 3) := by decide +kernel
theorem dX6_addArrow_77 : decode cX6_addArrow 77 = .ok (.aload_n 0, 1) := by decide +kernel
theorem dX6_addArrow_78 : decode cX6_addArrow 78 = .ok (.getfield 12, 3) := by decide +kernel
theorem dX6_addArrow_81 : decode cX6_addArrow 81 = .ok (.getfield 65, 3) := by decide +kernel
theorem dX6_addArrow_84 : decode cX6_addArrow 84 = .ok (.getfield 102, 3) := by decide +kernel
theorem dX6_addArrow_87 : decode cX6_addArrow 87 = .ok (.iload_n 1, 1) := by decide +kernel
theorem dX6_addArrow_88 : decode cX6_addArrow 88 = .ok (.dup2, 1) := by decide +kernel
theorem dX6_addArrow_89 : decode cX6_addArrow 89 = .ok (.iaload, 1) := by decide +kernel
theorem dX6_addArrow_90 : decode cX6_addArrow 90 = .ok (.iload_n 2, 1) := by decide +kernel
theorem dX6_addArrow_91 : decode cX6_addArrow 91 = .ok (.invokestatic 105, 3) := by decide +kernel
theorem dX6_addArrow_94 : decode cX6_addArrow 94 = .ok (.ior, 1) := by decide +kernel
theorem dX6_addArrow_95 : decode cX6_addArrow 95 = .ok (.iastore, 1) := by decide +kernel
theorem dX6_addArrow_96 : decode cX6_addArrow 96 = .ok (.aload_n 0, 1) := by decide +kernel
theorem dX6_addArrow_97 : decode cX6_addArrow 97 = .ok (.getfield 12, 3) := by decide +kernel
theorem dX6_addArrow_100 : decode cX6_addArrow 100 = .ok (.getfield 65, 3) := by decide +kernel
theorem dX6_addArrow_103 : decode cX6_addArrow 103 = .ok (.getfield 102, 3) := by decide +kernel
theorem dX6_addArrow_106 : decode cX6_addArrow 106 = .ok (.iload_n 1, 1) := by decide +kernel
theorem dX6_addArrow_107 : decode cX6_addArrow 107 = .ok (.iaload, 1) := by decide +kernel
theorem dX6_addArrow_108 : decode cX6_addArrow 108 = .ok (.invokestatic 108, 3) := by decide +kernel
theorem dX6_addArrow_111 : decode cX6_addArrow 111 = .ok (.ireturn, 1) := by decide +kernel
set_option maxRecDepth 20000 in
theorem ggX6_removeArrow_X1_has : GoodIn wsX6_removeArrow wsX1_has := goodIn_r _ [10, 11, 74, 75, 76, 77] (by decide +kernel) (by decide +kernel)
set_option maxRecDepth 20000 in
theorem gX6_removeArrow_X1_has : GoodIn wsX6_removeArrow (wsV RX6 80 RX1 yX1_has wsX1_has) := goodIn_app (goodIn_of _ (by decide +kernel)) ggX6_removeArrow_X1_has
set_option maxRecDepth 20000 in
theorem ggX6_removeArrow_X1_leads : GoodIn wsX6_removeArrow wsX1_leads := goodIn_r _ [15, 16, 17, 7, 8, 9, 10, 11, 18, 19, 20, 74, 75, 76, 77] (by decide +kernel) (by decide +kernel)
set_option maxRecDepth 20000 in
theorem gX6_removeArrow_X1_leads : GoodIn wsX6_removeArrow (wsV RX6 98 RX1 yX1_leads wsX1_leads) := goodIn_app (goodIn_of _ (by decide +kernel)) ggX6_removeArrow_X1_leads
set_option maxRecDepth 20000 in
theorem ggX6_removeArrow_X2_remember : GoodIn wsX6_removeArrow wsX2_remember := goodIn_r _ [25, 26, 27, 28, 29, 30, 24, 31, 32, 33, 34, 35, 36, 37, 38, 39, 40, 41, 42, 43, 44, 45, 46, 47, 9, 48, 11, 49, 50, 51, 16, 78, 79, 70, 71, 72, 73, 74, 75, 76, 77] (by decide +kernel) (by decide +kernel)
set_option maxRecDepth 20000 in
theorem gX6_removeArrow_X2_remember : GoodIn wsX6_removeArrow (wsV RX6 72 RX2 yX2_remember wsX2_remember) := goodIn_app (goodIn_of _ (by decide +kernel)) ggX6_removeArrow_X2_remember
set_option maxRecDepth 20000 in
theorem ggX6_removeArrow_X6_bit : GoodIn wsX6_removeArrow wsX6_bit := goodIn_r _ [54] (by decide +kernel) (by decide +kernel)
set_option maxRecDepth 20000 in
theorem gX6_removeArrow_X6_bit : GoodIn wsX6_removeArrow (va_wsS RX6 105 yX6_bit wsX6_bit) := goodIn_app (goodIn_of _ (by decide +kernel)) ggX6_removeArrow_X6_bit
set_option maxRecDepth 20000 in
theorem ggX6_removeArrow_J6_bitCount_0f7a4 : GoodIn wsX6_removeArrow wsJ6_bitCount_0f7a4 := goodIn_r _ [58, 59, 60, 61] (by decide +kernel) (by decide +kernel)
set_option maxRecDepth 20000 in
theorem gX6_removeArrow_J6_bitCount_0f7a4 : GoodIn wsX6_removeArrow (va_wsS RX6 108 yJ6_bitCount_0f7a4 wsJ6_bitCount_0f7a4) := goodIn_app (goodIn_of _ (by decide +kernel)) ggX6_removeArrow_J6_bitCount_0f7a4
theorem dX6_removeArrow_0 : decode cX6_removeArrow 0 = .ok (.aload_n 0, 1) := by decide +kernel
theorem dX6_removeArrow_1 : decode cX6_removeArrow 1 = .ok (.getfield 12, 3) := by decide +kernel
theorem dX6_removeArrow_4 : decode cX6_removeArrow 4 = .ok (.getfield 65, 3) := by decide +kernel
theorem dX6_removeArrow_7 : decode cX6_removeArrow 7 = .ok (.iload_n 1, 1) := by decide +kernel
theorem dX6_removeArrow_8 : decode cX6_removeArrow 8 = .ok (.invokevirtual 80, 3) := by decide +kernel
theorem dX6_removeArrow_11 : decode cX6_removeArrow 11 = .ok (.ifCond .eq 17, 3) := by decide +kernel
theorem dX6_removeArrow_14 : decode cX6_removeArrow 14 = .ok (.aload_n 0, 1) := by decide +kernel
theorem dX6_removeArrow_15 : decode cX6_removeArrow 15 = .ok (.getfield 12, 3) := by decide +kernel
theorem dX6_removeArrow_18 : decode cX6_removeArrow 18 = .ok (.getfield 65, 3) := by decide +kernel
theorem dX6_removeArrow_21 : decode cX6_removeArrow 21 = .ok (.iload_n 2, 1) := by decide +kernel
theorem dX6_removeArrow_22 : decode cX6_removeArrow 22 = .ok (.invokevirtual 80, 3) := by decide +kernel
theorem dX6_removeArrow_25 : decode cX6_removeArrow 25 = .ok (.ifCond .ne 5, 3) := by decide +kernel
theorem dX6_removeArrow_28 : decode cX6_removeArrow 28 = .ok (.iconst (-1), 1) := by decide +kernel
theorem dX6_removeArrow_29 : decode cX6_removeArrow 29 = .ok (.ireturn, 1) := by decide +kernel
theorem dX6_removeArrow_30 : decode cX6_removeArrow 30 = .ok (.aload_n 0, 1) := by decide +kernel
theorem dX6_removeArrow_31 : decode cX6_removeArrow 31 = .ok (.getfield 12, 3) := by decide +kernel
theorem dX6_removeArrow_34 : decode cX6_removeArrow 34 = .ok (.getfield 65, 3) := by decide +kernel
theorem dX6_removeArrow_37 : decode cX6_removeArrow 37 = .ok (.iload_n 1, 1) := by decide +kernel
theorem dX6_removeArrow_38 : decode cX6_removeArrow 38 = .ok (.iload_n 2, 1) := by decide +kernel
theorem dX6_removeArrow_39 : decode cX6_removeArrow 39 = .ok (.invokevirtual 98, 3) := by decide +kernel
theorem dX6_removeArrow_42 : decode cX6_removeArrow 42 = .ok (.ifCond .ne 6, 3) := by decide +kernel
theorem dX6_removeArrow_45 : decode cX6_removeArrow 45 = .ok (.bipush (-5), 2) := by decide +kernel
theorem dX6_removeArrow_47 : decode cX6_removeArrow 47 = .ok (.ireturn, 1) := by decide +kernel
theorem dX6_removeArrow_48 : decode cX6_removeArrow 48 = .ok (.aload_n 0, 1) := by decide +kernel
theorem dX6_removeArrow_49 : decode cX6_removeArrow 49 = .ok (.getfield 19, 3) := by decide +kernel
theorem dX6_removeArrow_52 : decode cX6_removeArrow 52 = .ok (.aload_n 0, 1) := by decide +kernel
theorem dX6_removeArrow_53 : decode cX6_removeArrow 53 = .ok (.getfield 12, 3) := by decide +kernel
theorem dX6_removeArrow_56 : decode cX6_removeArrow 56 = .ok (.invokevirtual 72, 3) := by decide +kernel
theorem dX6_removeArrow_59 : decode cX6_removeArrow 59 = .ok (.aload_n 0, 1) := by decide +kernel
theorem dX6_removeArrow_60 : decode cX6_removeArrow 60 = .ok (.getfield 12, 3) := by decide +kernel
theorem dX6_removeArrow_63 : decode cX6_removeArrow 63 = .ok (.getfield 65, 3) := by decide +kernel
theorem dX6_removeArrow_66 : decode cX6_removeArrow 66 = .ok (.getfield 102, 3) := by decide +kernel
theorem dX6_removeArrow_69 : decode cX6_removeArrow 69 = .ok (.iload_n 1, 1) := by decide +kernel
theorem dX6_removeArrow_70 : decode cX6_removeArrow 70 = .ok (.dup2, 1) := by decide +kernel
theorem dX6_removeArrow_71 : decode cX6_removeArrow 71 = .ok (.iaload, 1) := by decide +kernel
theorem dX6_removeArrow_72 : decode cX6_removeArrow 72 = .ok (.iload_n 2, 1) := by decide +kernel
theorem dX6_removeArrow_73 : decode cX6_removeArrow 73 = .ok (.invokestatic 105, 3) := by decide +kernel
theorem dX6_removeArrow_76 : decode cX6_removeArrow 76 = .ok (.iconst (-1), 1) := by decide +kernel
theorem dX6_removeArrow_77 : decode cX6_removeArrow 77 = .ok (.ixor, 1) := by decide +kernel
theorem dX6_removeArrow_78 : decode cX6_removeArrow 78 = .ok (.iand, 1) := by decide +kernel
theorem dX6_removeArrow_79 : decode cX6_removeArrow 79 = .ok (.iastore, 1) := by decide +kernel
theorem dX6_removeArrow_80 : decode cX6_removeArrow 80 = .ok (.aload_n 0, 1) := by decide +kernel
theorem dX6_removeArrow_81 : decode cX6_removeArrow 81 = .ok (.getfield 12, 3) := by decide +kernel
theorem dX6_removeArrow_84 : decode cX6_removeArrow 84 = .ok (.getfield 113, 3) := by decide +kernel
theorem dX6_removeArrow_87 : decode cX6_removeArrow 87 = .ok (.iload_n 1, 1) := by decide +kernel
theorem dX6_removeArrow_88 : decode cX6_removeArrow 88 = .ok (.iaload, 1) := by decide +kernel
theorem dX6_removeArrow_89 : decode cX6_removeArrow 89 = .ok (.iload_n 2, 1) := by decide +kernel
theorem dX6_removeArrow_90 : decode cX6_removeArrow 90 = .ok (.if_icmp .ne 14, 3) := by decide +kernel
theorem dX6_removeArrow_93 : decode cX6_removeArrow 93 = .ok (.aload_n 0, 1) := by decide +kernel
theorem dX6_removeArrow_94 : decode cX6_removeArrow 94 = .ok (.getfield 12, 3) := by decide +kernel
theorem dX6_removeArrow_97 : decode cX6_removeArrow 97 = .ok (.getfield 113, 3) := by decide +kernel
theorem dX6_removeArrow_100 : decode cX6_removeArrow 100 = .ok (.iload_n 1, 1) := by decide +kernel
theorem dX6_removeArrow_101 : decode cX6_removeArrow 101 = .ok (.bipush 14, 2) := by decide +kernel
theorem dX6_removeArrow_103 : decode cX6_removeArrow 103 = .ok (.iastore, 1) := by decide +kernel
theorem dX6_removeArrow_104 : decode cX6_removeArrow 104 = .ok (.aload_n 0, 1) := by decide +kernel
theorem dX6_removeArrow_105 : decode cX6_removeArrow 105 = .ok (.getfield 12, 3) := by decide +kernel
theorem dX6_removeArrow_108 : decode cX6_removeArrow 108 = .ok (.getfield 65, 3) := by decide +kernel
theorem dX6_removeArrow_111 : decode cX6_removeArrow 111 = .ok (.getfield 102, 3) := by decide +kernel
theorem dX6_removeArrow_114 : decode cX6_removeArrow 114 = .ok (.iload_n 1, 1) := by decide +kernel
theorem dX6_removeArrow_115 : decode cX6_removeArrow 115 = .ok (.iaload, 1) := by decide +kernel
theorem dX6_removeArrow_116 : decode cX6_removeArrow 116 = .ok (.invokestatic 108, 3) := by decide +kernel
theorem dX6_removeArrow_119 : decode cX6_removeArrow 119 = .ok (.ireturn, 1) := by decide +kernel
set_option maxRecDepth 20000 in
theorem ggX6_readArrows_X0_fault : GoodIn wsX6_readArrows wsX0_fault := goodIn_r _ [10, 11, 12, 13, 14, 9, 15, 16, 17, 18, 89, 90] (by decide +kernel) (by decide +kernel)
set_option maxRecDepth 20000 in
theorem gX6_readArrows_X0_fault : GoodIn wsX6_readArrows (wsV RX6 116 RX0 yX0_fault wsX0_fault) := goodIn_app (goodIn_of _ (by decide +kernel)) ggX6_readArrows_X0_fault
set_option maxRecDepth 20000 in
theorem ggX6_readArrows_X1_become : GoodIn wsX6_readArrows wsX1_become := goodIn_r _ [23, 24, 25, 26, 27, 28, 29, 30, 31, 91, 92, 93, 94] (by decide +kernel) (by decide +kernel)
set_option maxRecDepth 20000 in
theorem gX6_readArrows_X1_become : GoodIn wsX6_readArrows (wsV RX6 119 RX1 yX1_become wsX1_become) := goodIn_app (goodIn_of _ (by decide +kernel)) ggX6_readArrows_X1_become
set_option maxRecDepth 20000 in
theorem ggX6_readArrows_X0_drawInto : GoodIn wsX6_readArrows wsX0_drawInto := goodIn_r _ [35, 11, 12, 36, 13, 14, 9, 15, 37, 38, 39, 22, 40, 24, 41, 42, 43, 89, 90, 91, 92, 93, 94] (by decide +kernel) (by decide +kernel)
set_option maxRecDepth 20000 in
theorem gX6_readArrows_X0_drawInto : GoodIn wsX6_readArrows (wsV RX6 123 RX0 yX0_drawInto wsX0_drawInto) := goodIn_app (goodIn_of _ (by decide +kernel)) ggX6_readArrows_X0_drawInto
set_option maxRecDepth 20000 in
theorem ggX6_readArrows_X1_arrowCount : GoodIn wsX6_readArrows wsX1_arrowCount := goodIn_r _ [47, 24, 31, 48, 49, 50, 51, 52, 53, 54, 91, 92, 93, 94] (by decide +kernel) (by decide +kernel)
set_option maxRecDepth 20000 in
theorem gX6_readArrows_X1_arrowCount : GoodIn wsX6_readArrows (wsV RX6 94 RX1 yX1_arrowCount wsX1_arrowCount) := goodIn_app (goodIn_of _ (by decide +kernel)) ggX6_readArrows_X1_arrowCount
set_option maxRecDepth 20000 in
theorem ggX6_readArrows_X2_remember : GoodIn wsX6_readArrows wsX2_remember := goodIn_r _ [59, 60, 61, 62, 63, 64, 58, 65, 66, 67, 68, 69, 70, 71, 72, 73, 27, 28, 29, 74, 75, 76, 20, 21, 22, 23, 24, 25, 26, 30, 31, 95, 96, 85, 86, 87, 88, 91, 92, 93, 94] (by decide +kernel) (by decide +kernel)
set_option maxRecDepth 20000 in
theorem gX6_readArrows_X2_remember : GoodIn wsX6_readArrows (wsV RX6 72 RX2 yX2_remember wsX2_remember) := goodIn_app (goodIn_of _ (by decide +kernel)) ggX6_readArrows_X2_remember
theorem dX6_readArrows_0 : decode cX6_readArrows 0 = .ok (.aload_n 0, 1) := by decide +kernel
theorem dX6_readArrows_1 : decode cX6_readArrows 1 = .ok (.getfield 33, 3) := by decide +kernel
theorem dX6_readArrows_4 : decode cX6_readArrows 4 = .ok (.invokevirtual 116, 3) := by decide +kernel
theorem dX6_readArrows_7 : decode cX6_readArrows 7 = .ok (.istore_n 1, 1) := by decide +kernel
theorem dX6_readArrows_8 : decode cX6_readArrows 8 = .ok (.iload_n 1, 1) := by decide +kernel
theorem dX6_readArrows_9 : decode cX6_readArrows 9 = .ok (.ifCond .lt 8, 3) := by decide +kernel
theorem dX6_readArrows_12 : decode cX6_readArrows 12 = .ok (.bipush (-100), 2) := by decide +kernel
theorem dX6_readArrows_14 : decode cX6_readArrows 14 = .ok (.iload_n 1, 1) := by decide +kernel
theorem dX6_readArrows_15 : decode cX6_readArrows 15 = .ok (.isub, 1) := by decide +kernel
theorem dX6_readArrows_16 : decode cX6_readArrows 16 = .ok (.ireturn, 1) := by decide +kernel
theorem dX6_readArrows_17 : decode cX6_readArrows 17 = .ok (.aload_n 0, 1) := by decide +kernel
theorem dX6_readArrows_18 : decode cX6_readArrows 18 = .ok (.getfield 40, 3) := by decide +kernel
theorem dX6_readArrows_21 : decode cX6_readArrows 21 = .ok (.aload_n 0, 1) := by decide +kernel
theorem dX6_readArrows_22 : decode cX6_readArrows 22 = .ok (.getfield 12, 3) := by decide +kernel
theorem dX6_readArrows_25 : decode cX6_readArrows 25 = .ok (.getfield 65, 3) := by decide +kernel
theorem dX6_readArrows_28 : decode cX6_readArrows 28 = .ok (.invokevirtual 119, 3) := by decide +kernel
theorem dX6_readArrows_31 : decode cX6_readArrows 31 = .ok (.aload_n 0, 1) := by decide +kernel
theorem dX6_readArrows_32 : decode cX6_readArrows 32 = .ok (.getfield 33, 3) := by decide +kernel
theorem dX6_readArrows_35 : decode cX6_readArrows 35 = .ok (.aload_n 0, 1) := by decide +kernel
theorem dX6_readArrows_36 : decode cX6_readArrows 36 = .ok (.getfield 40, 3) := by decide +kernel
theorem dX6_readArrows_39 : decode cX6_readArrows 39 = .ok (.invokevirtual 123, 3) := by decide +kernel
theorem dX6_readArrows_42 : decode cX6_readArrows 42 = .ok (.ifCond .ne 5, 3) := by decide +kernel
theorem dX6_readArrows_45 : decode cX6_readArrows 45 = .ok (.iconst (-1), 1) := by decide +kernel
theorem dX6_readArrows_46 : decode cX6_readArrows 46 = .ok (.ireturn, 1) := by decide +kernel
theorem dX6_readArrows_47 : decode cX6_readArrows 47 = .ok (.aload_n 0, 1) := by decide +kernel
theorem dX6_readArrows_48 : decode cX6_readArrows 48 = .ok (.getfield 40, 3) := by decide +kernel
theorem dX6_readArrows_51 : decode cX6_readArrows 51 = .ok (.invokevirtual 94, 3) := by decide +kernel
theorem dX6_readArrows_54 : decode cX6_readArrows 54 = .ok (.bipush 60, 2) := by decide +kernel
theorem dX6_readArrows_56 : decode cX6_readArrows 56 = .ok (.if_icmp .le 6, 3) := by decide +kernel
theorem dX6_readArrows_59 : decode cX6_readArrows 59 = .ok (.bipush (-3), 2) := by decide +kernel
theorem dX6_readArrows_61 : decode cX6_readArrows 61 = .ok (.ireturn, 1) := by decide +kernel
theorem dX6_readArrows_62 : decode cX6_readArrows 62 = .ok (.aload_n 0, 1) := by decide +kernel
theorem dX6_readArrows_63 : decode cX6_readArrows 63 = .ok (.getfield 40, 3) := by decide +kernel
theorem dX6_readArrows_66 : decode cX6_readArrows 66 = .ok (.invokevirtual 94, 3) := by decide +kernel
theorem dX6_readArrows_69 : decode cX6_readArrows 69 = .ok (.aload_n 0, 1) := by decide +kernel
theorem dX6_readArrows_70 : decode cX6_readArrows 70 = .ok (.getfield 12, 3) := by decide +kernel
theorem dX6_readArrows_73 : decode cX6_readArrows 73 = .ok (.getfield 65, 3) := by decide +kernel
theorem dX6_readArrows_76 : decode cX6_readArrows 76 = .ok (.invokevirtual 94, 3) := by decide +kernel
theorem dX6_readArrows_79 : decode cX6_readArrows 79 = .ok (.isub, 1) := by decide +kernel
theorem dX6_readArrows_80 : decode cX6_readArrows 80 = .ok (.istore_n 2, 1) := by decide +kernel
theorem dX6_readArrows_81 : decode cX6_readArrows 81 = .ok (.aload_n 0, 1) := by decide +kernel
theorem dX6_readArrows_82 : decode cX6_readArrows 82 = .ok (.getfield 19, 3) := by decide +kernel
theorem dX6_readArrows_85 : decode cX6_readArrows 85 = .ok (.aload_n 0, 1) := by decide +kernel
theorem dX6_readArrows_86 : decode cX6_readArrows 86 = .ok (.getfield 12, 3) := by decide +kernel
theorem dX6_readArrows_89 : decode cX6_readArrows 89 = .ok (.invokevirtual 72, 3) := by decide +kernel
theorem dX6_readArrows_92 : decode cX6_readArrows 92 = .ok (.aload_n 0, 1) := by decide +kernel
theorem dX6_readArrows_93 : decode cX6_readArrows 93 = .ok (.getfield 12, 3) := by decide +kernel
theorem dX6_readArrows_96 : decode cX6_readArrows 96 = .ok (.getfield 65, 3) := by decide +kernel
theorem dX6_readArrows_99 : decode cX6_readArrows 99 = .ok (.aload_n 0, 1) := by decide +kernel
theorem dX6_readArrows_100 : decode cX6_readArrows 100 = .ok (.getfield 40, 3) := by decide +kernel
theorem dX6_readArrows_103 : decode cX6_readArrows 103 = .ok (.invokevirtual 119, 3) := by decide +kernel
theorem dX6_readArrows_106 : decode cX6_readArrows 106 = .ok (.iload_n 2, 1) := by decide +kernel
theorem dX6_readArrows_107 : decode cX6_readArrows 107 = .ok (.ireturn, 1) := by decide +kernel
set_option maxRecDepth 20000 in
theorem ggX6_turnOver_X1_hasColour : GoodIn wsX6_turnOver wsX1_hasColour := goodIn_r _ [8, 9, 10, 113, 114, 115, 116] (by decide +kernel) (by decide +kernel)
set_option maxRecDepth 20000 in
theorem gX6_turnOver_X1_hasColour : GoodIn wsX6_turnOver (wsV RX6 127 RX1 yX1_hasColour wsX1_hasColour) := goodIn_app (goodIn_of _ (by decide +kernel)) ggX6_turnOver_X1_hasColour
set_option maxRecDepth 20000 in
theorem ggX6_turnOver_X2_remember : GoodIn wsX6_turnOver wsX2_remember := goodIn_r _ [15, 16, 17, 18, 19, 20, 14, 21, 22, 23, 24, 25, 26, 27, 28, 29, 30, 31, 32, 33, 34, 35, 36, 37, 7, 38, 9, 39, 40, 10, 41, 117, 118, 109, 110, 111, 112, 113, 114, 115, 116] (by decide +kernel) (by decide +kernel)
set_option maxRecDepth 20000 in
theorem gX6_turnOver_X2_remember : GoodIn wsX6_turnOver (wsV RX6 72 RX2 yX2_remember wsX2_remember) := goodIn_app (goodIn_of _ (by decide +kernel)) ggX6_turnOver_X2_remember
set_option maxRecDepth 20000 in
theorem ggX6_turnOver_X1_exchange : GoodIn wsX6_turnOver wsX1_exchange := goodIn_r _ [45, 9, 39, 10, 113, 114, 115, 116] (by decide +kernel) (by decide +kernel)
set_option maxRecDepth 20000 in
theorem gX6_turnOver_X1_exchange : GoodIn wsX6_turnOver (wsV RX6 130 RX1 yX1_exchange wsX1_exchange) := goodIn_app (goodIn_of _ (by decide +kernel)) ggX6_turnOver_X1_exchange
set_option maxRecDepth 20000 in
theorem ggX6_turnOver_X6_wonBy : GoodIn wsX6_turnOver wsX6_wonBy := goodIn_r _ [50, 1, 2, 51, 52, 53, 54, 55, 49, 56, 57, 58, 36, 37, 7, 38, 9, 39, 40, 30, 31, 32, 10, 41, 42, 43, 44, 45, 59, 60, 61, 62, 63, 64, 65, 66, 67, 68, 69, 70, 71, 72, 73, 74, 75, 76, 77, 78, 79, 80, 81, 82, 83, 84, 85, 86, 87, 88, 89, 90, 91, 92, 93, 94, 95, 96, 97, 98, 99, 100, 101, 102, 103, 104, 105, 106, 107, 108, 109, 110, 111, 112, 113, 114, 115, 116, 119, 120, 121] (by decide +kernel) (by decide +kernel)
set_option maxRecDepth 20000 in
theorem gX6_turnOver_X6_wonBy : GoodIn wsX6_turnOver (wsV RX6 87 RX6 yX6_wonBy wsX6_wonBy) := goodIn_app (goodIn_of _ (by decide +kernel)) ggX6_turnOver_X6_wonBy
theorem dX6_turnOver_0 : decode cX6_turnOver 0 = .ok (.aload_n 0, 1) := by decide +kernel
theorem dX6_turnOver_1 : decode cX6_turnOver 1 = .ok (.getfield 12, 3) := by decide +kernel
theorem dX6_turnOver_4 : decode cX6_turnOver 4 = .ok (.getfield 65, 3) := by decide +kernel
theorem dX6_turnOver_7 : decode cX6_turnOver 7 = .ok (.bipush 7, 2) := by decide +kernel
theorem dX6_turnOver_9 : decode cX6_turnOver 9 = .ok (.invokevirtual 127, 3) := by decide +kernel
theorem dX6_turnOver_12 : decode cX6_turnOver 12 = .ok (.ifCond .eq 6, 3) := by decide +kernel
theorem dX6_turnOver_15 : decode cX6_turnOver 15 = .ok (.bipush (-4), 2) := by decide +kernel
theorem dX6_turnOver_17 : decode cX6_turnOver 17 = .ok (.ireturn, 1) := by decide +kernel
theorem dX6_turnOver_18 : decode cX6_turnOver 18 = .ok (.aload_n 0, 1) := by decide +kernel
theorem dX6_turnOver_19 : decode cX6_turnOver 19 = .ok (.getfield 19, 3) := by decide +kernel
theorem dX6_turnOver_22 : decode cX6_turnOver 22 = .ok (.aload_n 0, 1) := by decide +kernel
theorem dX6_turnOver_23 : decode cX6_turnOver 23 = .ok (.getfield 12, 3) := by decide +kernel
theorem dX6_turnOver_26 : decode cX6_turnOver 26 = .ok (.invokevirtual 72, 3) := by decide +kernel
theorem dX6_turnOver_29 : decode cX6_turnOver 29 = .ok (.aload_n 0, 1) := by decide +kernel
theorem dX6_turnOver_30 : decode cX6_turnOver 30 = .ok (.getfield 12, 3) := by decide +kernel
theorem dX6_turnOver_33 : decode cX6_turnOver 33 = .ok (.getfield 65, 3) := by decide +kernel
theorem dX6_turnOver_36 : decode cX6_turnOver 36 = .ok (.invokevirtual 130, 3) := by decide +kernel
theorem dX6_turnOver_39 : decode cX6_turnOver 39 = .ok (.aload_n 0, 1) := by decide +kernel
theorem dX6_turnOver_40 : decode cX6_turnOver 40 = .ok (.iconst 1, 1) := by decide +kernel
theorem dX6_turnOver_41 : decode cX6_turnOver 41 = .ok (.invokevirtual 87, 3) := by decide +kernel
theorem dX6_turnOver_44 : decode cX6_turnOver 44 = .ok (.ireturn, 1) := by decide +kernel
set_option maxRecDepth 20000 in
theorem ggX6_choose_X1_has : GoodIn wsX6_choose wsX1_has := goodIn_r _ [9, 10, 63, 64, 65, 66] (by decide +kernel) (by decide +kernel)
set_option maxRecDepth 20000 in
theorem gX6_choose_X1_has : GoodIn wsX6_choose (wsV RX6 80 RX1 yX1_has wsX1_has) := goodIn_app (goodIn_of _ (by decide +kernel)) ggX6_choose_X1_has
set_option maxRecDepth 20000 in
theorem ggX6_choose_X1_leads : GoodIn wsX6_choose wsX1_leads := goodIn_r _ [14, 15, 16, 6, 7, 8, 9, 10, 17, 18, 19, 63, 64, 65, 66] (by decide +kernel) (by decide +kernel)
set_option maxRecDepth 20000 in
theorem gX6_choose_X1_leads : GoodIn wsX6_choose (wsV RX6 98 RX1 yX1_leads wsX1_leads) := goodIn_app (goodIn_of _ (by decide +kernel)) ggX6_choose_X1_leads
set_option maxRecDepth 20000 in
theorem ggX6_choose_X2_remember : GoodIn wsX6_choose wsX2_remember := goodIn_r _ [24, 25, 26, 27, 28, 29, 23, 30, 31, 32, 33, 34, 35, 36, 37, 38, 39, 40, 41, 42, 43, 44, 45, 46, 8, 47, 10, 48, 49, 50, 15, 67, 68, 59, 60, 61, 62, 63, 64, 65, 66] (by decide +kernel) (by decide +kernel)
set_option maxRecDepth 20000 in
theorem gX6_choose_X2_remember : GoodIn wsX6_choose (wsV RX6 72 RX2 yX2_remember wsX2_remember) := goodIn_app (goodIn_of _ (by decide +kernel)) ggX6_choose_X2_remember
theorem dX6_choose_0 : decode cX6_choose 0 = .ok (.aload_n 0, 1) := by decide +kernel
theorem dX6_choose_1 : decode cX6_choose 1 = .ok (.getfield 12, 3) := by decide +kernel
theorem dX6_choose_4 : decode cX6_choose 4 = .ok (.getfield 65, 3) := by decide +kernel
theorem dX6_choose_7 : decode cX6_choose 7 = .ok (.iload_n 1, 1) := by decide +kernel
theorem dX6_choose_8 : decode cX6_choose 8 = .ok (.invokevirtual 80, 3) := by decide +kernel
theorem dX6_choose_11 : decode cX6_choose 11 = .ok (.ifCond .ne 5, 3) := by decide +kernel
theorem dX6_choose_14 : decode cX6_choose 14 = .ok (.iconst (-1), 1) := by decide +kernel
theorem dX6_choose_15 : decode cX6_choose 15 = .ok (.ireturn, 1) := by decide +kernel
theorem dX6_choose_16 : decode cX6_choose 16 = .ok (.iload_n 2, 1) := by decide +kernel
theorem dX6_choose_17 : decode cX6_choose 17 = .ok (.ifCond .lt 9, 3) := by decide +kernel
theorem dX6_choose_20 : decode cX6_choose 20 = .ok (.iload_n 2, 1) := by decide +kernel
theorem dX6_choose_21 : decode cX6_choose 21 = .ok (.bipush 14, 2) := by decide +kernel
theorem dX6_choose_23 : decode cX6_choose 23 = .ok (.if_icmp .le 6, 3) := by decide +kernel
theorem dX6_choose_26 : decode cX6_choose 26 = .ok (.bipush (-2), 2) := by decide +kernel
theorem dX6_choose_28 : decode cX6_choose 28 = .ok (.ireturn, 1) := by decide +kernel
theorem dX6_choose_29 : decode cX6_choose 29 = .ok (.iload_n 2, 1) := by decide +kernel
theorem dX6_choose_30 : decode cX6_choose 30 = .ok (.bipush 14, 2) := by decide +kernel
theorem dX6_choose_32 : decode cX6_choose 32 = .ok (.if_icmp .eq 21, 3) := by decide +kernel
theorem dX6_choose_35 : decode cX6_choose 35 = .ok (.aload_n 0, 1) := by decide +kernel
theorem dX6_choose_36 : decode cX6_choose 36 = .ok (.getfield 12, 3) := by decide +kernel
theorem dX6_choose_39 : decode cX6_choose 39 = .ok (.getfield 65, 3) := by decide +kernel
theorem dX6_choose_42 : decode cX6_choose 42 = .ok (.iload_n 1, 1) := by decide +kernel
theorem dX6_choose_43 : decode cX6_choose 43 = .ok (.iload_n 2, 1) := by decide +kernel
theorem dX6_choose_44 : decode cX6_choose 44 = .ok (.invokevirtual 98, 3) := by decide +kernel
theorem dX6_choose_47 : decode cX6_choose 47 = .ok (.ifCond .ne 6, 3) := by decide +kernel
theorem dX6_choose_50 : decode cX6_choose 50 = .ok (.bipush (-4), 2) := by decide +kernel
theorem dX6_choose_52 : decode cX6_choose 52 = .ok (.ireturn, 1) := by decide +kernel
theorem dX6_choose_53 : decode cX6_choose 53 = .ok (.aload_n 0, 1) := by decide +kernel
theorem dX6_choose_54 : decode cX6_choose 54 = .ok (.getfield 12, 3) := by decide +kernel
theorem dX6_choose_57 : decode cX6_choose 57 = .ok (.getfield 113, 3) := by decide +kernel
theorem dX6_choose_60 : decode cX6_choose 60 = .ok (.iload_n 1, 1) := by decide +kernel
theorem dX6_choose_61 : decode cX6_choose 61 = .ok (.iaload, 1) := by decide +kernel
theorem dX6_choose_62 : decode cX6_choose 62 = .ok (.istore_n 3, 1) := by decide +kernel
theorem dX6_choose_63 : decode cX6_choose 63 = .ok (.iload_n 3, 1) := by decide +kernel
theorem dX6_choose_64 : decode cX6_choose 64 = .ok (.iload_n 2, 1) := by decide +kernel
theorem dX6_choose_65 : decode cX6_choose 65 = .ok (.if_icmp .ne 6, 3) := by decide +kernel
theorem dX6_choose_68 : decode cX6_choose 68 = .ok (.bipush (-5), 2) := by decide +kernel
theorem dX6_choose_70 : decode cX6_choose 70 = .ok (.ireturn, 1) := by decide +kernel
theorem dX6_choose_71 : decode cX6_choose 71 = .ok (.aload_n 0, 1) := by decide +kernel
theorem dX6_choose_72 : decode cX6_choose 72 = .ok (.getfield 19, 3) := by decide +kernel
theorem dX6_choose_75 : decode cX6_choose 75 = .ok (.aload_n 0, 1) := by decide +kernel
theorem dX6_choose_76 : decode cX6_choose 76 = .ok (.getfield 12, 3) := by decide +kernel
theorem dX6_choose_79 : decode cX6_choose 79 = .ok (.invokevirtual 72, 3) := by decide +kernel
theorem dX6_choose_82 : decode cX6_choose 82 = .ok (.aload_n 0, 1) := by decide +kernel
theorem dX6_choose_83 : decode cX6_choose 83 = .ok (.getfield 12, 3) := by decide +kernel
theorem dX6_choose_86 : decode cX6_choose 86 = .ok (.getfield 113, 3) := by decide +kernel
theorem dX6_choose_89 : decode cX6_choose 89 = .ok (.iload_n 1, 1) := by decide +kernel
theorem dX6_choose_90 : decode cX6_choose 90 = .ok (.iload_n 2, 1) := by decide +kernel
theorem dX6_choose_91 : decode cX6_choose 91 = .ok (.iastore, 1) := by decide +kernel
theorem dX6_choose_92 : decode cX6_choose 92 = .ok (.iload_n 3, 1) := by decide +kernel
theorem dX6_choose_93 : decode cX6_choose 93 = .ok (.ireturn, 1) := by decide +kernel
set_option maxRecDepth 20000 in
theorem ggX6_chooseWell_X6_isPlayer : GoodIn wsX6_chooseWell wsX6_isPlayer := goodIn_r _ [12] (by decide +kernel) (by decide +kernel)
set_option maxRecDepth 20000 in
theorem gX6_chooseWell_X6_isPlayer : GoodIn wsX6_chooseWell (va_wsS RX6 58 yX6_isPlayer wsX6_isPlayer) := goodIn_app (goodIn_of _ (by decide +kernel)) ggX6_chooseWell_X6_isPlayer
set_option maxRecDepth 20000 in
theorem ggX6_chooseWell_X2_remember : GoodIn wsX6_chooseWell wsX2_remember := goodIn_r _ [17, 18, 19, 20, 21, 22, 16, 23, 24, 25, 26, 27, 28, 29, 30, 31, 32, 33, 34, 35, 36, 37, 38, 39, 40, 41, 42, 43, 44, 45, 46, 119, 120, 111, 112, 113, 114, 115, 116, 117, 118] (by decide +kernel) (by decide +kernel)
set_option maxRecDepth 20000 in
theorem gX6_chooseWell_X2_remember : GoodIn wsX6_chooseWell (wsV RX6 72 RX2 yX2_remember wsX2_remember) := goodIn_app (goodIn_of _ (by decide +kernel)) ggX6_chooseWell_X2_remember
set_option maxRecDepth 20000 in
theorem ggX6_chooseWell_X6_solveFor : GoodIn wsX6_chooseWell wsX6_solveFor := goodIn_r _ [50, 8, 2, 3, 7, 51, 38, 39, 40, 41, 42, 43, 44, 32, 33, 34, 45, 46, 52, 53, 54, 55, 56, 57, 58, 59, 60, 61, 62, 63, 64, 65, 66, 67, 68, 69, 70, 71, 72, 73, 74, 75, 76, 77, 78, 79, 80, 81, 82, 83, 84, 85, 11, 86, 87, 88, 89, 90, 103, 104, 105, 106, 107, 108, 109, 110, 111, 112, 113, 114, 115, 116, 117, 118, 121, 122, 123] (by decide +kernel) (by decide +kernel)
set_option maxRecDepth 20000 in
theorem gX6_chooseWell_X6_solveFor : GoodIn wsX6_chooseWell (wsV RX6 133 RX6 yX6_solveFor wsX6_solveFor) := goodIn_app (goodIn_of _ (by decide +kernel)) ggX6_chooseWell_X6_solveFor
set_option maxRecDepth 20000 in
theorem ggX6_chooseWell_X3_bestArrow : GoodIn wsX6_chooseWell wsX3_bestArrow := goodIn_r _ [94, 76, 62, 75, 95, 96, 97, 40, 98, 46, 99, 100, 101, 102, 42, 85, 11, 86, 87, 88, 89, 59, 90, 63, 64, 61, 115, 116, 117, 118, 121, 122, 123] (by decide +kernel) (by decide +kernel)
set_option maxRecDepth 20000 in
theorem gX6_chooseWell_X3_bestArrow : GoodIn wsX6_chooseWell (wsV RX6 137 RX3 yX3_bestArrow wsX3_bestArrow) := goodIn_app (goodIn_of _ (by decide +kernel)) ggX6_chooseWell_X3_bestArrow
theorem dX6_chooseWell_0 : decode cX6_chooseWell 0 = .ok (.iload_n 1, 1) := by decide +kernel
theorem dX6_chooseWell_1 : decode cX6_chooseWell 1 = .ok (.invokestatic 58, 3) := by decide +kernel
theorem dX6_chooseWell_4 : decode cX6_chooseWell 4 = .ok (.ifCond .ne 5, 3) := by decide +kernel
theorem dX6_chooseWell_7 : decode cX6_chooseWell 7 = .ok (.iconst (-1), 1) := by decide +kernel
theorem dX6_chooseWell_8 : decode cX6_chooseWell 8 = .ok (.ireturn, 1) := by decide +kernel
theorem dX6_chooseWell_9 : decode cX6_chooseWell 9 = .ok (.aload_n 0, 1) := by decide +kernel
theorem dX6_chooseWell_10 : decode cX6_chooseWell 10 = .ok (.getfield 19, 3) := by decide +kernel
theorem dX6_chooseWell_13 : decode cX6_chooseWell 13 = .ok (.aload_n 0, 1) := by decide +kernel
theorem dX6_chooseWell_14 : decode cX6_chooseWell 14 = .ok (.getfield 12, 3) := by decide +kernel
theorem dX6_chooseWell_17 : decode cX6_chooseWell 17 = .ok (.invokevirtual 72, 3) := by decide +kernel
theorem dX6_chooseWell_20 : decode cX6_chooseWell 20 = .ok (.aload_n 0, 1) := by decide +kernel
theorem dX6_chooseWell_21 : decode cX6_chooseWell 21 = .ok (.iload_n 1, 1) := by decide +kernel
theorem dX6_chooseWell_22 : decode cX6_chooseWell 22 = .ok (.invokevirtual 133, 3) := by decide +kernel
theorem dX6_chooseWell_25 : decode cX6_chooseWell 25 = .ok (.iconst 0, 1) := by decide +kernel
theorem dX6_chooseWell_26 : decode cX6_chooseWell 26 = .ok (.istore_n 2, 1) := by decide +kernel
theorem dX6_chooseWell_27 : decode cX6_chooseWell 27 = .ok (.iconst 0, 1) := by decide +kernel
theorem dX6_chooseWell_28 : decode cX6_chooseWell 28 = .ok (.istore_n 3, 1) := by decide +kernel
theorem dX6_chooseWell_29 : decode cX6_chooseWell 29 = .ok (.iload_n 3, 1) := by decide +kernel
theorem dX6_chooseWell_30 : decode cX6_chooseWell 30 = .ok (.aload_n 0, 1) := by decide +kernel
theorem dX6_chooseWell_31 : decode cX6_chooseWell 31 = .ok (.getfield 12, 3) := by decide +kernel
theorem dX6_chooseWell_34 : decode cX6_chooseWell 34 = .ok (.getfield 65, 3) := by decide +kernel
theorem dX6_chooseWell_37 : decode cX6_chooseWell 37 = .ok (.getfield 68, 3) := by decide +kernel
theorem dX6_chooseWell_40 : decode cX6_chooseWell 40 = .ok (.if_icmp .ge 68, 3) := by decide +kernel
theorem dX6_chooseWell_43 : decode cX6_chooseWell 43 = .ok (.aload_n 0, 1) := by decide +kernel
theorem dX6_chooseWell_44 : decode cX6_chooseWell 44 = .ok (.getfield 12, 3) := by decide +kernel
theorem dX6_chooseWell_47 : decode cX6_chooseWell 47 = .ok (.getfield 65, 3) := by decide +kernel
theorem dX6_chooseWell_50 : decode cX6_chooseWell 50 = .ok (.getfield 83, 3) := by decide +kernel
theorem dX6_chooseWell_53 : decode cX6_chooseWell 53 = .ok (.iload_n 3, 1) := by decide +kernel
theorem dX6_chooseWell_54 : decode cX6_chooseWell 54 = .ok (.iaload, 1) := by decide +kernel
theorem dX6_chooseWell_55 : decode cX6_chooseWell 55 = .ok (.iload_n 1, 1) := by decide +kernel
theorem dX6_chooseWell_56 : decode cX6_chooseWell 56 = .ok (.if_icmp .ne 46, 3) := by decide +kernel
theorem dX6_chooseWell_59 : decode cX6_chooseWell 59 = .ok (.aload_n 0, 1) := by decide +kernel
theorem dX6_chooseWell_60 : decode cX6_chooseWell 60 = .ok (.getfield 12, 3) := by decide +kernel
theorem dX6_chooseWell_63 : decode cX6_chooseWell 63 = .ok (.getfield 113, 3) := by decide +kernel
theorem dX6_chooseWell_66 : decode cX6_chooseWell 66 = .ok (.iload_n 3, 1) := by decide +kernel
theorem dX6_chooseWell_67 : decode cX6_chooseWell 67 = .ok (.aload_n 0, 1) := by decide +kernel
theorem dX6_chooseWell_68 : decode cX6_chooseWell 68 = .ok (.getfield 47, 3) := by decide +kernel
theorem dX6_chooseWell_71 : decode cX6_chooseWell 71 = .ok (.aload_n 0, 1) := by decide +kernel
theorem dX6_chooseWell_72 : decode cX6_chooseWell 72 = .ok (.getfield 40, 3) := by decide +kernel
theorem dX6_chooseWell_75 : decode cX6_chooseWell 75 = .ok (.iload_n 3, 1) := by decide +kernel
theorem dX6_chooseWell_76 : decode cX6_chooseWell 76 = .ok (.invokevirtual 137, 3) := by decide +kernel
theorem dX6_chooseWell_79 : decode cX6_chooseWell 79 = .ok (.iastore, 1) := by decide +kernel
theorem dX6_chooseWell_80 : decode cX6_chooseWell 80 = .ok (.iload_n 2, 1) := by decide +kernel
theorem dX6_chooseWell_81 : decode cX6_chooseWell 81 = .ok (.aload_n 0, 1) := by decide +kernel
theorem dX6_chooseWell_82 : decode cX6_chooseWell 82 = .ok (.getfield 12, 3) := by decide +kernel
theorem dX6_chooseWell_85 : decode cX6_chooseWell 85 = .ok (.getfield 113, 3) := by decide +kernel
theorem dX6_chooseWell_88 : decode cX6_chooseWell 88 = .ok (.iload_n 3, 1) := by decide +kernel
theorem dX6_chooseWell_89 : decode cX6_chooseWell 89 = .ok (.iaload, 1) := by decide +kernel
theorem dX6_chooseWell_90 : decode cX6_chooseWell 90 = .ok (.bipush 14, 2) := by decide +kernel
theorem dX6_chooseWell_92 : decode cX6_chooseWell 92 = .ok (.if_icmp .ne 7, 3) := by decide +kernel
theorem dX6_chooseWell_95 : decode cX6_chooseWell 95 = .ok (.iconst 0, 1) := by decide +kernel
theorem dX6_chooseWell_96 : decode cX6_chooseWell 96 = .ok (.goto 4, 3) := by decide +kernel
theorem dX6_chooseWell_99 : decode cX6_chooseWell 99 = .ok (.iconst 1, 1) := by decide +kernel
theorem dX6_chooseWell_100 : decode cX6_chooseWell 100 = .ok (.iadd, 1) := by decide +kernel
theorem dX6_chooseWell_101 : decode cX6_chooseWell 101 = .ok (.istore_n 2, 1) := by decide +kernel
theorem dX6_chooseWell_102 : decode cX6_chooseWell 102 = .ok (.iinc 3 1, 3) := by decide +kernel
theorem dX6_chooseWell_105 : decode cX6_chooseWell 105 = .ok (.goto (-76), 3) := by decide +kernel
theorem dX6_chooseWell_108 : decode cX6_chooseWell 108 = .ok (.iload_n 2, 1) := by decide +kernel
theorem dX6_chooseWell_109 : decode cX6_chooseWell 109 = .ok (.ireturn, 1) := by decide +kernel
set_option maxRecDepth 20000 in
theorem ggX6_start_X1_has : GoodIn wsX6_start wsX1_has := goodIn_r _ [10, 11, 115, 116, 117, 118] (by decide +kernel) (by decide +kernel)
set_option maxRecDepth 20000 in
theorem gX6_start_X1_has : GoodIn wsX6_start (wsV RX6 80 RX1 yX1_has wsX1_has) := goodIn_app (goodIn_of _ (by decide +kernel)) ggX6_start_X1_has
set_option maxRecDepth 20000 in
theorem ggX6_start_X2_remember : GoodIn wsX6_start wsX2_remember := goodIn_r _ [16, 17, 18, 19, 20, 21, 15, 22, 23, 24, 25, 26, 27, 28, 29, 30, 31, 32, 33, 34, 35, 36, 37, 38, 9, 39, 11, 40, 41, 42, 43, 119, 120, 111, 112, 113, 114, 115, 116, 117, 118] (by decide +kernel) (by decide +kernel)
set_option maxRecDepth 20000 in
theorem gX6_start_X2_remember : GoodIn wsX6_start (wsV RX6 72 RX2 yX2_remember wsX2_remember) := goodIn_app (goodIn_of _ (by decide +kernel)) ggX6_start_X2_remember
set_option maxRecDepth 20000 in
theorem ggX6_start_X6_winnerOf : GoodIn wsX6_start wsX6_winnerOf := goodIn_r _ [48, 49, 50, 51, 52, 47, 53, 54, 1, 2, 55, 37, 38, 9, 39, 11, 40, 41, 31, 32, 33, 42, 43, 56, 57, 58, 59, 60, 61, 62, 63, 64, 65, 66, 67, 68, 69, 70, 71, 72, 73, 74, 75, 76, 77, 78, 79, 80, 81, 82, 83, 84, 85, 86, 87, 88, 89, 90, 91, 92, 93, 94, 95, 96, 97, 98, 99, 100, 101, 102, 103, 104, 105, 106, 107, 108, 109, 110, 111, 112, 113, 114, 115, 116, 117, 118, 121, 122, 123] (by decide +kernel) (by decide +kernel)
set_option maxRecDepth 20000 in
theorem gX6_start_X6_winnerOf : GoodIn wsX6_start (wsV RX6 147 RX6 yX6_winnerOf wsX6_winnerOf) := goodIn_app (goodIn_of _ (by decide +kernel)) ggX6_start_X6_winnerOf
theorem dX6_start_0 : decode cX6_start 0 = .ok (.aload_n 0, 1) := by decide +kernel
theorem dX6_start_1 : decode cX6_start 1 = .ok (.getfield 12, 3) := by decide +kernel
theorem dX6_start_4 : decode cX6_start 4 = .ok (.getfield 65, 3) := by decide +kernel
theorem dX6_start_7 : decode cX6_start 7 = .ok (.iload_n 1, 1) := by decide +kernel
theorem dX6_start_8 : decode cX6_start 8 = .ok (.invokevirtual 80, 3) := by decide +kernel
theorem dX6_start_11 : decode cX6_start 11 = .ok (.ifCond .ne 5, 3) := by decide +kernel
theorem dX6_start_14 : decode cX6_start 14 = .ok (.iconst (-1), 1) := by decide +kernel
theorem dX6_start_15 : decode cX6_start 15 = .ok (.ireturn, 1) := by decide +kernel
theorem dX6_start_16 : decode cX6_start 16 = .ok (.aload_n 0, 1) := by decide +kernel
theorem dX6_start_17 : decode cX6_start 17 = .ok (.getfield 19, 3) := by decide +kernel
theorem dX6_start_20 : decode cX6_start 20 = .ok (.aload_n 0, 1) := by decide +kernel
theorem dX6_start_21 : decode cX6_start 21 = .ok (.getfield 12, 3) := by decide +kernel
theorem dX6_start_24 : decode cX6_start 24 = .ok (.invokevirtual 72, 3) := by decide +kernel
theorem dX6_start_27 : decode cX6_start 27 = .ok (.aload_n 0, 1) := by decide +kernel
theorem dX6_start_28 : decode cX6_start 28 = .ok (.getfield 12, 3) := by decide +kernel
theorem dX6_start_31 : decode cX6_start 31 = .ok (.iload_n 1, 1) := by decide +kernel
theorem dX6_start_32 : decode cX6_start 32 = .ok (.putfield 141, 3) := by decide +kernel
theorem dX6_start_35 : decode cX6_start 35 = .ok (.aload_n 0, 1) := by decide +kernel
theorem dX6_start_36 : decode cX6_start 36 = .ok (.getfield 12, 3) := by decide +kernel
theorem dX6_start_39 : decode cX6_start 39 = .ok (.iconst 0, 1) := by decide +kernel
theorem dX6_start_40 : decode cX6_start 40 = .ok (.putfield 144, 3) := by decide +kernel
theorem dX6_start_43 : decode cX6_start 43 = .ok (.aload_n 0, 1) := by decide +kernel
theorem dX6_start_44 : decode cX6_start 44 = .ok (.iload_n 1, 1) := by decide +kernel
theorem dX6_start_45 : decode cX6_start 45 = .ok (.invokevirtual 147, 3) := by decide +kernel
theorem dX6_start_48 : decode cX6_start 48 = .ok (.ireturn, 1) := by decide +kernel
set_option maxRecDepth 20000 in
theorem ggX6_step_X1_has : GoodIn wsX6_step wsX1_has := goodIn_r _ [11, 12, 136, 137, 138, 139] (by decide +kernel) (by decide +kernel)
set_option maxRecDepth 20000 in
theorem gX6_step_X1_has : GoodIn wsX6_step (wsV RX6 80 RX1 yX1_has wsX1_has) := goodIn_app (goodIn_of _ (by decide +kernel)) ggX6_step_X1_has
set_option maxRecDepth 20000 in
theorem ggX6_step_X6_findWays : GoodIn wsX6_step wsX6_findWays := goodIn_r _ [17, 1, 2, 18, 19, 4, 20, 21, 22, 23, 16, 24, 25, 26, 27, 28, 29, 10, 30, 12, 31, 32, 33, 34, 35, 36, 37, 38, 39, 40, 41, 42, 43, 44, 45, 46, 47, 48, 49, 50, 51, 52, 53, 54, 55, 56, 57, 58, 59, 60, 61, 62, 63, 64, 65, 66, 67, 68, 69, 70, 71, 72, 73, 74, 75, 76, 77, 78, 79, 80, 81, 82, 83, 84, 85, 86, 87, 88, 89, 90, 8, 9, 11, 91, 92, 93, 94, 95, 124, 125, 126, 127, 128, 129, 130, 131, 132, 133, 134, 135, 136, 137, 138, 139, 140, 141, 142, 143, 144, 145, 146] (by decide +kernel) (by decide +kernel)
set_option maxRecDepth 20000 in
theorem gX6_step_X6_findWays : GoodIn wsX6_step (wsV RX6 150 RX6 yX6_findWays wsX6_findWays) := goodIn_app (goodIn_of _ (by decide +kernel)) ggX6_step_X6_findWays
set_option maxRecDepth 20000 in
theorem ggX6_step_X5_wayFrom : GoodIn wsX6_step wsX5_wayFrom := goodIn_r _ [100, 101, 140, 141, 142, 143] (by decide +kernel) (by decide +kernel)
set_option maxRecDepth 20000 in
theorem gX6_step_X5_wayFrom : GoodIn wsX6_step (wsV RX6 153 RX5 yX5_wayFrom wsX5_wayFrom) := goodIn_app (goodIn_of _ (by decide +kernel)) ggX6_step_X5_wayFrom
set_option maxRecDepth 20000 in
theorem ggX6_step_X2_remember : GoodIn wsX6_step wsX2_remember := goodIn_r _ [106, 107, 108, 109, 110, 111, 105, 112, 113, 114, 115, 116, 117, 118, 119, 120, 33, 34, 35, 121, 122, 123, 28, 29, 10, 30, 12, 31, 32, 36, 37, 147, 148, 132, 133, 134, 135, 136, 137, 138, 139] (by decide +kernel) (by decide +kernel)
set_option maxRecDepth 20000 in
theorem gX6_step_X2_remember : GoodIn wsX6_step (wsV RX6 72 RX2 yX2_remember wsX2_remember) := goodIn_app (goodIn_of _ (by decide +kernel)) ggX6_step_X2_remember
theorem dX6_step_0 : decode cX6_step 0 = .ok (.iload_n 1, 1) := by decide +kernel
theorem dX6_step_1 : decode cX6_step 1 = .ok (.iconst 1, 1) := by decide +kernel
theorem dX6_step_2 : decode cX6_step 2 = .ok (.if_icmp .lt 9, 3) := by decide +kernel
theorem dX6_step_5 : decode cX6_step 5 = .ok (.iload_n 1, 1) := by decide +kernel
theorem dX6_step_6 : decode cX6_step 6 = .ok (.bipush 50, 2) := by decide +kernel
theorem dX6_step_8 : decode cX6_step 8 = .ok (.if_icmp .le 6, 3) := by decide +kernel
theorem dX6_step_11 : decode cX6_step 11 = .ok (.bipush (-2), 2) := by decide +kernel
theorem dX6_step_13 : decode cX6_step 13 = .ok (.ireturn, 1) := by decide +kernel
theorem dX6_step_14 : decode cX6_step 14 = .ok (.aload_n 0, 1) := by decide +kernel
theorem dX6_step_15 : decode cX6_step 15 = .ok (.getfield 12, 3) := by decide +kernel
theorem dX6_step_18 : decode cX6_step 18 = .ok (.getfield 65, 3) := by decide +kernel
theorem dX6_step_21 : decode cX6_step 21 = .ok (.aload_n 0, 1) := by decide +kernel
theorem dX6_step_22 : decode cX6_step 22 = .ok (.getfield 12, 3) := by decide +kernel
theorem dX6_step_25 : decode cX6_step 25 = .ok (.getfield 141, 3) := by decide +kernel
theorem dX6_step_28 : decode cX6_step 28 = .ok (.invokevirtual 80, 3) := by decide +kernel
theorem dX6_step_31 : decode cX6_step 31 = .ok (.ifCond .ne 6, 3) := by decide +kernel
theorem dX6_step_34 : decode cX6_step 34 = .ok (.bipush (-4), 2) := by decide +kernel
theorem dX6_step_36 : decode cX6_step 36 = .ok (.ireturn, 1) := by decide +kernel
theorem dX6_step_37 : decode cX6_step 37 = .ok (.aload_n 0, 1) := by decide +kernel
theorem dX6_step_38 : decode cX6_step 38 = .ok (.invokevirtual 150, 3) := by decide +kernel
theorem dX6_step_41 : decode cX6_step 41 = .ok (.aload_n 0, 1) := by decide +kernel
theorem dX6_step_42 : decode cX6_step 42 = .ok (.getfield 54, 3) := by decide +kernel
theorem dX6_step_45 : decode cX6_step 45 = .ok (.aload_n 0, 1) := by decide +kernel
theorem dX6_step_46 : decode cX6_step 46 = .ok (.getfield 12, 3) := by decide +kernel
theorem dX6_step_49 : decode cX6_step 49 = .ok (.getfield 141, 3) := by decide +kernel
theorem dX6_step_52 : decode cX6_step 52 = .ok (.invokevirtual 153, 3) := by decide +kernel
theorem dX6_step_55 : decode cX6_step 55 = .ok (.bipush 14, 2) := by decide +kernel
theorem dX6_step_57 : decode cX6_step 57 = .ok (.if_icmp .ne 6, 3) := by decide +kernel
theorem dX6_step_60 : decode cX6_step 60 = .ok (.bipush (-4), 2) := by decide +kernel
theorem dX6_step_62 : decode cX6_step 62 = .ok (.ireturn, 1) := by decide +kernel
theorem dX6_step_63 : decode cX6_step 63 = .ok (.aload_n 0, 1) := by decide +kernel
theorem dX6_step_64 : decode cX6_step 64 = .ok (.getfield 19, 3) := by decide +kernel
theorem dX6_step_67 : decode cX6_step 67 = .ok (.aload_n 0, 1) := by decide +kernel
theorem dX6_step_68 : decode cX6_step 68 = .ok (.getfield 12, 3) := by decide +kernel
theorem dX6_step_71 : decode cX6_step 71 = .ok (.invokevirtual 72, 3) := by decide +kernel
theorem dX6_step_74 : decode cX6_step 74 = .ok (.iconst 0, 1) := by decide +kernel
theorem dX6_step_75 : decode cX6_step 75 = .ok (.istore_n 2, 1) := by decide +kernel
theorem dX6_step_76 : decode cX6_step 76 = .ok (.iload_n 2, 1) := by decide +kernel
theorem dX6_step_77 : decode cX6_step 77 = .ok (.iload_n 1, 1) := by decide +kernel
theorem dX6_step_78 : decode cX6_step 78 = .ok (.if_icmp .ge 62, 3) := by decide +kernel
theorem dX6_step_81 : decode cX6_step 81 = .ok (.aload_n 0, 1) := by decide +kernel
theorem dX6_step_82 : decode cX6_step 82 = .ok (.getfield 54, 3) := by decide +kernel
theorem dX6_step_85 : decode cX6_step 85 = .ok (.aload_n 0, 1) := by decide +kernel
theorem dX6_step_86 : decode cX6_step 86 = .ok (.getfield 12, 3) := by decide +kernel
theorem dX6_step_89 : decode cX6_step 89 = .ok (.getfield 141, 3) := by decide +kernel
theorem dX6_step_92 : decode cX6_step 92 = .ok (.invokevirtual 153, 3) := by decide +kernel
theorem dX6_step_95 : decode cX6_step 95 = .ok (.bipush 14, 2) := by decide +kernel
theorem dX6_step_97 : decode cX6_step 97 = .ok (.if_icmp .eq 43, 3) := by decide +kernel
theorem dX6_step_100 : decode cX6_step 100 = .ok (.aload_n 0, 1) := by decide +kernel
theorem dX6_step_101 : decode cX6_step 101 = .ok (.getfield 12, 3) := by decide +kernel
theorem dX6_step_104 : decode cX6_step 104 = .ok (.aload_n 0, 1) := by decide +kernel
theorem dX6_step_105 : decode cX6_step 105 = .ok (.getfield 54, 3) := by decide +kernel
theorem dX6_step_108 : decode cX6_step 108 = .ok (.aload_n 0, 1) := by decide +kernel
theorem dX6_step_109 : decode cX6_step 109 = .ok (.getfield 12, 3) := by decide +kernel
theorem dX6_step_112 : decode cX6_step 112 = .ok (.getfield 141, 3) := by decide +kernel
theorem dX6_step_115 : decode cX6_step 115 = .ok (.invokevirtual 153, 3) := by decide +kernel
theorem dX6_step_118 : decode cX6_step 118 = .ok (.putfield 141, 3) := by decide +kernel
theorem dX6_step_121 : decode cX6_step 121 = .ok (.aload_n 0, 1) := by decide +kernel
theorem dX6_step_122 : decode cX6_step 122 = .ok (.getfield 12, 3) := by decide +kernel
theorem dX6_step_125 : decode cX6_step 125 = .ok (.dup, 1) := by decide +kernel
theorem dX6_step_126 : decode cX6_step 126 = .ok (.getfield 144, 3) := by decide +kernel
theorem dX6_step_129 : decode cX6_step 129 = .ok (.iconst 1, 1) := by decide +kernel
theorem dX6_step_130 : decode cX6_step 130 = .ok (.iadd, 1) := by decide +kernel
theorem dX6_step_131 : decode cX6_step 131 = .ok (.putfield 144, 3) := by decide +kernel
theorem dX6_step_134 : decode cX6_step 134 = .ok (.iinc 2 1, 3) := by decide +kernel
theorem dX6_step_137 : decode cX6_step 137 = .ok (.goto (-61), 3) := by decide +kernel
theorem dX6_step_140 : decode cX6_step 140 = .ok (.aload_n 0, 1) := by decide +kernel
theorem dX6_step_141 : decode cX6_step 141 = .ok (.getfield 12, 3) := by decide +kernel
theorem dX6_step_144 : decode cX6_step 144 = .ok (.getfield 141, 3) := by decide +kernel
theorem dX6_step_147 : decode cX6_step 147 = .ok (.ireturn, 1) := by decide +kernel
set_option maxRecDepth 20000 in
theorem ggX6_type_X0_append : GoodIn wsX6_type wsX0_append := goodIn_r _ [7, 8, 9, 18, 19] (by decide +kernel) (by decide +kernel)
set_option maxRecDepth 20000 in
theorem gX6_type_X0_append : GoodIn wsX6_type (wsV RX6 156 RX0 yX0_append wsX0_append) := goodIn_app (goodIn_of _ (by decide +kernel)) ggX6_type_X0_append
theorem dX6_type_0 : decode cX6_type 0 = .ok (.aload_n 0, 1) := by decide +kernel
theorem dX6_type_1 : decode cX6_type 1 = .ok (.getfield 33, 3) := by decide +kernel
theorem dX6_type_4 : decode cX6_type 4 = .ok (.iload_n 1, 1) := by decide +kernel
theorem dX6_type_5 : decode cX6_type 5 = .ok (.invokevirtual 156, 3) := by decide +kernel
theorem dX6_type_8 : decode cX6_type 8 = .ok (.ifCond .eq 13, 3) := by decide +kernel
theorem dX6_type_11 : decode cX6_type 11 = .ok (.aload_n 0, 1) := by decide +kernel
theorem dX6_type_12 : decode cX6_type 12 = .ok (.getfield 33, 3) := by decide +kernel
theorem dX6_type_15 : decode cX6_type 15 = .ok (.getfield 159, 3) := by decide +kernel
theorem dX6_type_18 : decode cX6_type 18 = .ok (.goto 5, 3) := by decide +kernel
theorem dX6_type_21 : decode cX6_type 21 = .ok (.bipush (-3), 2) := by decide +kernel
theorem dX6_type_23 : decode cX6_type 23 = .ok (.ireturn, 1) := by decide +kernel
theorem dX6_clearText_0 : decode cX6_clearText 0 = .ok (.aload_n 0, 1) := by decide +kernel
theorem dX6_clearText_1 : decode cX6_clearText 1 = .ok (.getfield 33, 3) := by decide +kernel
theorem dX6_clearText_4 : decode cX6_clearText 4 = .ok (.getfield 159, 3) := by decide +kernel
theorem dX6_clearText_7 : decode cX6_clearText 7 = .ok (.istore_n 1, 1) := by decide +kernel
theorem dX6_clearText_8 : decode cX6_clearText 8 = .ok (.aload_n 0, 1) := by decide +kernel
theorem dX6_clearText_9 : decode cX6_clearText 9 = .ok (.getfield 33, 3) := by decide +kernel
theorem dX6_clearText_12 : decode cX6_clearText 12 = .ok (.iconst 0, 1) := by decide +kernel
theorem dX6_clearText_13 : decode cX6_clearText 13 = .ok (.putfield 159, 3) := by decide +kernel
theorem dX6_clearText_16 : decode cX6_clearText 16 = .ok (.iload_n 1, 1) := by decide +kernel
theorem dX6_clearText_17 : decode cX6_clearText 17 = .ok (.ireturn, 1) := by decide +kernel
set_option maxRecDepth 20000 in
theorem ggX6_undo_X2_takeInto : GoodIn wsX6_undo wsX2_takeInto := goodIn_r _ [8, 9, 10, 11, 12, 13, 14, 15, 16, 17, 18, 19, 20, 21, 22, 23, 24, 25, 26, 27, 28, 29, 30, 31, 32, 33, 42, 43, 44, 45, 46, 47, 48, 49, 50, 51] (by decide +kernel) (by decide +kernel)
set_option maxRecDepth 20000 in
theorem gX6_undo_X2_takeInto : GoodIn wsX6_undo (wsV RX6 162 RX2 yX2_takeInto wsX2_takeInto) := goodIn_app (goodIn_of _ (by decide +kernel)) ggX6_undo_X2_takeInto
theorem dX6_undo_0 : decode cX6_undo 0 = .ok (.aload_n 0, 1) := by decide +kernel
theorem dX6_undo_1 : decode cX6_undo 1 = .ok (.getfield 19, 3) := by decide +kernel
theorem dX6_undo_4 : decode cX6_undo 4 = .ok (.aload_n 0, 1) := by decide +kernel
theorem dX6_undo_5 : decode cX6_undo 5 = .ok (.getfield 12, 3) := by decide +kernel
theorem dX6_undo_8 : decode cX6_undo 8 = .ok (.invokevirtual 162, 3) := by decide +kernel
theorem dX6_undo_11 : decode cX6_undo 11 = .ok (.ifCond .eq 13, 3) := by decide +kernel
theorem dX6_undo_14 : decode cX6_undo 14 = .ok (.aload_n 0, 1) := by decide +kernel
theorem dX6_undo_15 : decode cX6_undo 15 = .ok (.getfield 19, 3) := by decide +kernel
theorem dX6_undo_18 : decode cX6_undo 18 = .ok (.getfield 166, 3) := by decide +kernel
theorem dX6_undo_21 : decode cX6_undo 21 = .ok (.goto 5, 3) := by decide +kernel
theorem dX6_undo_24 : decode cX6_undo 24 = .ok (.bipush (-5), 2) := by decide +kernel
theorem dX6_undo_26 : decode cX6_undo 26 = .ok (.ireturn, 1) := by decide +kernel
set_option maxRecDepth 20000 in
theorem ggX6_keep_X4_become : GoodIn wsX6_keep wsX4_become := goodIn_r _ [10, 11, 12, 13, 14, 15, 16, 17, 18, 19, 20, 21, 22, 23, 24, 25, 26, 27, 28, 37, 38, 39, 40, 41, 42, 43, 44] (by decide +kernel) (by decide +kernel)
set_option maxRecDepth 20000 in
theorem gX6_keep_X4_become : GoodIn wsX6_keep (wsV RX6 169 RX4 yX4_become wsX4_become) := goodIn_app (goodIn_of _ (by decide +kernel)) ggX6_keep_X4_become
theorem dX6_keep_0 : decode cX6_keep 0 = .ok (.aload_n 0, 1) := by decide +kernel
theorem dX6_keep_1 : decode cX6_keep 1 = .ok (.getfield 23, 3) := by decide +kernel
theorem dX6_keep_4 : decode cX6_keep 4 = .ok (.aload_n 0, 1) := by decide +kernel
theorem dX6_keep_5 : decode cX6_keep 5 = .ok (.getfield 12, 3) := by decide +kernel
theorem dX6_keep_8 : decode cX6_keep 8 = .ok (.invokevirtual 169, 3) := by decide +kernel
theorem dX6_keep_11 : decode cX6_keep 11 = .ok (.aload_n 0, 1) := by decide +kernel
theorem dX6_keep_12 : decode cX6_keep 12 = .ok (.iconst 1, 1) := by decide +kernel
theorem dX6_keep_13 : decode cX6_keep 13 = .ok (.putfield 26, 3) := by decide +kernel
theorem dX6_keep_16 : decode cX6_keep 16 = .ok (.aload_n 0, 1) := by decide +kernel
theorem dX6_keep_17 : decode cX6_keep 17 = .ok (.getfield 12, 3) := by decide +kernel
theorem dX6_keep_20 : decode cX6_keep 20 = .ok (.getfield 65, 3) := by decide +kernel
theorem dX6_keep_23 : decode cX6_keep 23 = .ok (.getfield 68, 3) := by decide +kernel
theorem dX6_keep_26 : decode cX6_keep 26 = .ok (.ireturn, 1) := by decide +kernel
set_option maxRecDepth 20000 in
theorem ggX6_restore_X2_remember : GoodIn wsX6_restore wsX2_remember := goodIn_r _ [11, 12, 13, 14, 15, 16, 10, 17, 18, 19, 20, 21, 22, 23, 24, 25, 26, 27, 28, 29, 30, 31, 32, 33, 34, 35, 36, 37, 38, 39, 40, 58, 59, 50, 51, 52, 53, 54, 55, 56, 57] (by decide +kernel) (by decide +kernel)
set_option maxRecDepth 20000 in
theorem gX6_restore_X2_remember : GoodIn wsX6_restore (wsV RX6 72 RX2 yX2_remember wsX2_remember) := goodIn_app (goodIn_of _ (by decide +kernel)) ggX6_restore_X2_remember
set_option maxRecDepth 20000 in
theorem ggX6_restore_X4_become : GoodIn wsX6_restore wsX4_become := goodIn_r _ [22, 23, 24, 25, 26, 27, 28, 29, 30, 31, 32, 33, 34, 35, 36, 37, 38, 39, 40, 50, 51, 52, 53, 54, 55, 56, 57] (by decide +kernel) (by decide +kernel)
set_option maxRecDepth 20000 in
theorem gX6_restore_X4_become : GoodIn wsX6_restore (wsV RX6 169 RX4 yX4_become wsX4_become) := goodIn_app (goodIn_of _ (by decide +kernel)) ggX6_restore_X4_become
theorem dX6_restore_0 : decode cX6_restore 0 = .ok (.aload_n 0, 1) := by decide +kernel
theorem dX6_restore_1 : decode cX6_restore 1 = .ok (.getfield 26, 3) := by decide +kernel
theorem dX6_restore_4 : decode cX6_restore 4 = .ok (.ifCond .ne 6, 3) := by decide +kernel
theorem dX6_restore_7 : decode cX6_restore 7 = .ok (.bipush (-5), 2) := by decide +kernel
theorem dX6_restore_9 : decode cX6_restore 9 = .ok (.ireturn, 1) := by decide +kernel
theorem dX6_restore_10 : decode cX6_restore 10 = .ok (.aload_n 0, 1) := by decide +kernel
theorem dX6_restore_11 : decode cX6_restore 11 = .ok (.getfield 19, 3) := by decide +kernel
theorem dX6_restore_14 : decode cX6_restore 14 = .ok (.aload_n 0, 1) := by decide +kernel
theorem dX6_restore_15 : decode cX6_restore 15 = .ok (.getfield 12, 3) := by decide +kernel
theorem dX6_restore_18 : decode cX6_restore 18 = .ok (.invokevirtual 72, 3) := by decide +kernel
theorem dX6_restore_21 : decode cX6_restore 21 = .ok (.aload_n 0, 1) := by decide +kernel
theorem dX6_restore_22 : decode cX6_restore 22 = .ok (.getfield 12, 3) := by decide +kernel
theorem dX6_restore_25 : decode cX6_restore 25 = .ok (.aload_n 0, 1) := by decide +kernel
theorem dX6_restore_26 : decode cX6_restore 26 = .ok (.getfield 23, 3) := by decide +kernel
theorem dX6_restore_29 : decode cX6_restore 29 = .ok (.invokevirtual 169, 3) := by decide +kernel
theorem dX6_restore_32 : decode cX6_restore 32 = .ok (.aload_n 0, 1) := by decide +kernel
theorem dX6_restore_33 : decode cX6_restore 33 = .ok (.getfield 12, 3) := by decide +kernel
theorem dX6_restore_36 : decode cX6_restore 36 = .ok (.getfield 65, 3) := by decide +kernel
theorem dX6_restore_39 : decode cX6_restore 39 = .ok (.getfield 68, 3) := by decide +kernel
theorem dX6_restore_42 : decode cX6_restore 42 = .ok (.ireturn, 1) := by decide +kernel
set_option maxRecDepth 20000 in
theorem ggX6_place_X1_has : GoodIn wsX6_place wsX1_has := goodIn_r _ [11, 12, 104, 105, 106, 107] (by decide +kernel) (by decide +kernel)
set_option maxRecDepth 20000 in
theorem gX6_place_X1_has : GoodIn wsX6_place (wsV RX6 80 RX1 yX1_has wsX1_has) := goodIn_app (goodIn_of _ (by decide +kernel)) ggX6_place_X1_has
set_option maxRecDepth 20000 in
theorem ggX6_place_X6_bit : GoodIn wsX6_place wsX6_bit := goodIn_r _ [16] (by decide +kernel) (by decide +kernel)
set_option maxRecDepth 20000 in
theorem gX6_place_X6_bit : GoodIn wsX6_place (va_wsS RX6 105 yX6_bit wsX6_bit) := goodIn_app (goodIn_of _ (by decide +kernel)) ggX6_place_X6_bit
set_option maxRecDepth 20000 in
theorem ggX6_place_X1_sources : GoodIn wsX6_place wsX1_sources := goodIn_r _ [20, 12, 21, 14, 15, 16, 104, 105, 106, 107] (by decide +kernel) (by decide +kernel)
set_option maxRecDepth 20000 in
theorem gX6_place_X1_sources : GoodIn wsX6_place (wsV RX6 171 RX1 yX1_sources wsX1_sources) := goodIn_app (goodIn_of _ (by decide +kernel)) ggX6_place_X1_sources
set_option maxRecDepth 20000 in
theorem ggX6_place_X6_winnerOf : GoodIn wsX6_place wsX6_winnerOf := goodIn_r _ [25, 26, 27, 28, 29, 15, 30, 31, 1, 2, 32, 33, 34, 10, 35, 12, 36, 37, 38, 39, 40, 41, 21, 42, 43, 44, 45, 46, 47, 48, 49, 50, 51, 52, 53, 54, 55, 56, 57, 58, 59, 60, 61, 62, 63, 64, 65, 66, 67, 68, 69, 70, 71, 72, 73, 74, 75, 76, 77, 78, 79, 80, 81, 82, 83, 84, 85, 86, 87, 88, 92, 93, 94, 95, 96, 97, 98, 99, 100, 101, 102, 103, 104, 105, 106, 107, 108, 109, 110] (by decide +kernel) (by decide +kernel)
set_option maxRecDepth 20000 in
theorem gX6_place_X6_winnerOf : GoodIn wsX6_place (wsV RX6 147 RX6 yX6_winnerOf wsX6_winnerOf) := goodIn_app (goodIn_of _ (by decide +kernel)) ggX6_place_X6_winnerOf
set_option maxRecDepth 20000 in
theorem ggX6_place_X6_placeOrNone : GoodIn wsX6_place wsX6_placeOrNone := goodIn_r _ [91] (by decide +kernel) (by decide +kernel)
set_option maxRecDepth 20000 in
theorem gX6_place_X6_placeOrNone : GoodIn wsX6_place (va_wsS RX6 174 yX6_placeOrNone wsX6_placeOrNone) := goodIn_app (goodIn_of _ (by decide +kernel)) ggX6_place_X6_placeOrNone
theorem dX6_place_0 : decode cX6_place 0 = .ok (.aload_n 0, 1) := by decide +kernel
theorem dX6_place_1 : decode cX6_place 1 = .ok (.getfield 12, 3) := by decide +kernel
theorem dX6_place_4 : decode cX6_place 4 = .ok (.getfield 65, 3) := by decide +kernel
theorem dX6_place_7 : decode cX6_place 7 = .ok (.iload_n 1, 1) := by decide +kernel
theorem dX6_place_8 : decode cX6_place 8 = .ok (.invokevirtual 80, 3) := by decide +kernel
theorem dX6_place_11 : decode cX6_place 11 = .ok (.ifCond .ne 5, 3) := by decide +kernel
theorem dX6_place_14 : decode cX6_place 14 = .ok (.iconst (-1), 1) := by decide +kernel
theorem dX6_place_15 : decode cX6_place 15 = .ok (.ireturn, 1) := by decide +kernel
theorem dX6_place_16 : decode cX6_place 16 = .ok (.iload_n 2, 1) := by decide +kernel
theorem dX6_place_17 : decode cX6_place 17 = .ok (.tableswitch 112 0 5 #[39, 52, 65, 78, 93, 99], 39) := by decide +kernel
theorem dX6_place_56 : decode cX6_place 56 = .ok (.aload_n 0, 1) := by decide +kernel
theorem dX6_place_57 : decode cX6_place 57 = .ok (.getfield 12, 3) := by decide +kernel
theorem dX6_place_60 : decode cX6_place 60 = .ok (.getfield 65, 3) := by decide +kernel
theorem dX6_place_63 : decode cX6_place 63 = .ok (.getfield 83, 3) := by decide +kernel
theorem dX6_place_66 : decode cX6_place 66 = .ok (.iload_n 1, 1) := by decide +kernel
theorem dX6_place_67 : decode cX6_place 67 = .ok (.iaload, 1) := by decide +kernel
theorem dX6_place_68 : decode cX6_place 68 = .ok (.ireturn, 1) := by decide +kernel
theorem dX6_place_69 : decode cX6_place 69 = .ok (.aload_n 0, 1) := by decide +kernel
theorem dX6_place_70 : decode cX6_place 70 = .ok (.getfield 12, 3) := by decide +kernel
theorem dX6_place_73 : decode cX6_place 73 = .ok (.getfield 65, 3) := by decide +kernel
theorem dX6_place_76 : decode cX6_place 76 = .ok (.getfield 91, 3) := by decide +kernel
theorem dX6_place_79 : decode cX6_place 79 = .ok (.iload_n 1, 1) := by decide +kernel
theorem dX6_place_80 : decode cX6_place 80 = .ok (.iaload, 1) := by decide +kernel
theorem dX6_place_81 : decode cX6_place 81 = .ok (.ireturn, 1) := by decide +kernel
theorem dX6_place_82 : decode cX6_place 82 = .ok (.aload_n 0, 1) := by decide +kernel
theorem dX6_place_83 : decode cX6_place 83 = .ok (.getfield 12, 3) := by decide +kernel
theorem dX6_place_86 : decode cX6_place 86 = .ok (.getfield 65, 3) := by decide +kernel
theorem dX6_place_89 : decode cX6_place 89 = .ok (.getfield 102, 3) := by decide +kernel
theorem dX6_place_92 : decode cX6_place 92 = .ok (.iload_n 1, 1) := by decide +kernel
theorem dX6_place_93 : decode cX6_place 93 = .ok (.iaload, 1) := by decide +kernel
theorem dX6_place_94 : decode cX6_place 94 = .ok (.ireturn, 1) := by decide +kernel
theorem dX6_place_95 : decode cX6_place 95 = .ok (.aload_n 0, 1) := by decide +kernel
theorem dX6_place_96 : decode cX6_place 96 = .ok (.getfield 12, 3) := by decide +kernel
theorem dX6_place_99 : decode cX6_place 99 = .ok (.getfield 65, 3) := by decide +kernel
theorem dX6_place_102 : decode cX6_place 102 = .ok (.iload_n 1, 1) := by decide +kernel
theorem dX6_place_103 : decode cX6_place 103 = .ok (.invokestatic 105, 3) := by decide +kernel
theorem dX6_place_106 : decode cX6_place 106 = .ok (.invokevirtual 171, 3) := by decide +kernel
theorem dX6_place_109 : decode cX6_place 109 = .ok (.ireturn, 1) := by decide +kernel
theorem dX6_place_110 : decode cX6_place 110 = .ok (.aload_n 0, 1) := by decide +kernel
theorem dX6_place_111 : decode cX6_place 111 = .ok (.iload_n 1, 1) := by decide +kernel
theorem dX6_place_112 : decode cX6_place 112 = .ok (.invokevirtual 147, 3) := by decide +kernel
theorem dX6_place_115 : decode cX6_place 115 = .ok (.ireturn, 1) := by decide +kernel
theorem dX6_place_116 : decode cX6_place 116 = .ok (.aload_n 0, 1) := by decide +kernel
theorem dX6_place_117 : decode cX6_place 117 = .ok (.getfield 12, 3) := by decide +kernel
theorem dX6_place_120 : decode cX6_place 120 = .ok (.getfield 113, 3) := by decide +kernel
theorem dX6_place_123 : decode cX6_place 123 = .ok (.iload_n 1, 1) := by decide +kernel
theorem dX6_place_124 : decode cX6_place 124 = .ok (.iaload, 1) := by decide +kernel
theorem dX6_place_125 : decode cX6_place 125 = .ok (.invokestatic 174, 3) := by decide +kernel
theorem dX6_place_128 : decode cX6_place 128 = .ok (.ireturn, 1) := by decide +kernel
theorem dX6_place_129 : decode cX6_place 129 = .ok (.bipush (-2), 2) := by decide +kernel
theorem dX6_place_131 : decode cX6_place 131 = .ok (.ireturn, 1) := by decide +kernel
set_option maxRecDepth 20000 in
theorem ggX6_wins_X6_isPlayer : GoodIn wsX6_wins wsX6_isPlayer := goodIn_r _ [4] (by decide +kernel) (by decide +kernel)
set_option maxRecDepth 20000 in
theorem gX6_wins_X6_isPlayer : GoodIn wsX6_wins (va_wsS RX6 58 yX6_isPlayer wsX6_isPlayer) := goodIn_app (goodIn_of _ (by decide +kernel)) ggX6_wins_X6_isPlayer
set_option maxRecDepth 20000 in
theorem ggX6_wins_X6_wonBy : GoodIn wsX6_wins wsX6_wonBy := goodIn_r _ [8, 9, 10, 11, 12, 13, 14, 15, 3, 16, 17, 18, 19, 20, 21, 22, 23, 24, 25, 26, 27, 28, 29, 30, 31, 32, 33, 34, 35, 36, 37, 38, 39, 40, 41, 42, 43, 44, 45, 46, 47, 48, 49, 50, 51, 52, 53, 54, 55, 56, 57, 58, 59, 60, 61, 62, 63, 64, 65, 66, 67, 68, 69, 70, 71, 72, 73, 74, 75, 76, 77, 78, 79, 80, 81, 82, 83, 84, 85, 86, 87, 88, 89, 90, 91, 92, 93, 94, 95] (by decide +kernel) (by decide +kernel)
set_option maxRecDepth 20000 in
theorem gX6_wins_X6_wonBy : GoodIn wsX6_wins (wsV RX6 87 RX6 yX6_wonBy wsX6_wonBy) := goodIn_app (goodIn_of _ (by decide +kernel)) ggX6_wins_X6_wonBy
theorem dX6_wins_0 : decode cX6_wins 0 = .ok (.iload_n 1, 1) := by decide +kernel
theorem dX6_wins_1 : decode cX6_wins 1 = .ok (.invokestatic 58, 3) := by decide +kernel
theorem dX6_wins_4 : decode cX6_wins 4 = .ok (.ifCond .eq 11, 3) := by decide +kernel
theorem dX6_wins_7 : decode cX6_wins 7 = .ok (.aload_n 0, 1) := by decide +kernel
theorem dX6_wins_8 : decode cX6_wins 8 = .ok (.iload_n 1, 1) := by decide +kernel
theorem dX6_wins_9 : decode cX6_wins 9 = .ok (.invokevirtual 87, 3) := by decide +kernel
theorem dX6_wins_12 : decode cX6_wins 12 = .ok (.goto 4, 3) := by decide +kernel
theorem dX6_wins_15 : decode cX6_wins 15 = .ok (.iconst (-1), 1) := by decide +kernel
theorem dX6_wins_16 : decode cX6_wins 16 = .ok (.ireturn, 1) := by decide +kernel
set_option maxRecDepth 20000 in
theorem ggX6_winningChoice_X1_has : GoodIn wsX6_winningChoice wsX1_has := goodIn_r _ [10, 11, 91, 92, 93, 94] (by decide +kernel) (by decide +kernel)
set_option maxRecDepth 20000 in
theorem gX6_winningChoice_X1_has : GoodIn wsX6_winningChoice (wsV RX6 80 RX1 yX1_has wsX1_has) := goodIn_app (goodIn_of _ (by decide +kernel)) ggX6_winningChoice_X1_has
set_option maxRecDepth 20000 in
theorem ggX6_winningChoice_X6_solveFor : GoodIn wsX6_winningChoice wsX6_solveFor := goodIn_r _ [16, 5, 1, 2, 4, 17, 18, 19, 9, 20, 11, 21, 22, 23, 24, 25, 26, 27, 28, 29, 30, 31, 32, 33, 34, 35, 36, 37, 38, 39, 40, 41, 42, 43, 44, 45, 46, 47, 48, 49, 50, 51, 52, 53, 54, 55, 56, 57, 58, 59, 60, 61, 15, 62, 63, 64, 65, 66, 79, 80, 81, 82, 83, 84, 85, 86, 87, 88, 89, 90, 91, 92, 93, 94, 95, 96, 97] (by decide +kernel) (by decide +kernel)
set_option maxRecDepth 20000 in
theorem gX6_winningChoice_X6_solveFor : GoodIn wsX6_winningChoice (wsV RX6 133 RX6 yX6_solveFor wsX6_solveFor) := goodIn_app (goodIn_of _ (by decide +kernel)) ggX6_winningChoice_X6_solveFor
set_option maxRecDepth 20000 in
theorem ggX6_winningChoice_X3_bestArrow : GoodIn wsX6_winningChoice wsX3_bestArrow := goodIn_r _ [70, 52, 38, 51, 71, 72, 73, 9, 74, 27, 75, 7, 8, 10, 11, 61, 15, 62, 63, 64, 65, 35, 66, 39, 40, 37, 91, 92, 93, 94, 95, 96, 97] (by decide +kernel) (by decide +kernel)
set_option maxRecDepth 20000 in
theorem gX6_winningChoice_X3_bestArrow : GoodIn wsX6_winningChoice (wsV RX6 137 RX3 yX3_bestArrow wsX3_bestArrow) := goodIn_app (goodIn_of _ (by decide +kernel)) ggX6_winningChoice_X3_bestArrow
set_option maxRecDepth 20000 in
theorem ggX6_winningChoice_X6_placeOrNone : GoodIn wsX6_winningChoice wsX6_placeOrNone := goodIn_r _ [78] (by decide +kernel) (by decide +kernel)
set_option maxRecDepth 20000 in
theorem gX6_winningChoice_X6_placeOrNone : GoodIn wsX6_winningChoice (va_wsS RX6 174 yX6_placeOrNone wsX6_placeOrNone) := goodIn_app (goodIn_of _ (by decide +kernel)) ggX6_winningChoice_X6_placeOrNone
theorem dX6_winningChoice_0 : decode cX6_winningChoice 0 = .ok (.aload_n 0, 1) := by decide +kernel
theorem dX6_winningChoice_1 : decode cX6_winningChoice 1 = .ok (.getfield 12, 3) := by decide +kernel
theorem dX6_winningChoice_4 : decode cX6_winningChoice 4 = .ok (.getfield 65, 3) := by decide +kernel
theorem dX6_winningChoice_7 : decode cX6_winningChoice 7 = .ok (.iload_n 1, 1) := by decide +kernel
theorem dX6_winningChoice_8 : decode cX6_winningChoice 8 = .ok (.invokevirtual 80, 3) := by decide +kernel
theorem dX6_winningChoice_11 : decode cX6_winningChoice 11 = .ok (.ifCond .ne 5, 3) := by decide +kernel
theorem dX6_winningChoice_14 : decode cX6_winningChoice 14 = .ok (.iconst (-1), 1) := by decide +kernel
theorem dX6_winningChoice_15 : decode cX6_winningChoice 15 = .ok (.ireturn, 1) := by decide +kernel
theorem dX6_winningChoice_16 : decode cX6_winningChoice 16 = .ok (.aload_n 0, 1) := by decide +kernel
theorem dX6_winningChoice_17 : decode cX6_winningChoice 17 = .ok (.aload_n 0, 1) := by decide +kernel
theorem dX6_winningChoice_18 : decode cX6_winningChoice 18 = .ok (.getfield 12, 3) := by decide +kernel
theorem dX6_winningChoice_21 : decode cX6_winningChoice 21 = .ok (.getfield 65, 3) := by decide +kernel
theorem dX6_winningChoice_24 : decode cX6_winningChoice 24 = .ok (.getfield 83, 3) := by decide +kernel
theorem dX6_winningChoice_27 : decode cX6_winningChoice 27 = .ok (.iload_n 1, 1) := by decide +kernel
theorem dX6_winningChoice_28 : decode cX6_winningChoice 28 = .ok (.iaload, 1) := by decide +kernel
theorem dX6_winningChoice_29 : decode cX6_winningChoice 29 = .ok (.invokevirtual 133, 3) := by decide +kernel
theorem dX6_winningChoice_32 : decode cX6_winningChoice 32 = .ok (.aload_n 0, 1) := by decide +kernel
theorem dX6_winningChoice_33 : decode cX6_winningChoice 33 = .ok (.getfield 47, 3) := by decide +kernel
theorem dX6_winningChoice_36 : decode cX6_winningChoice 36 = .ok (.aload_n 0, 1) := by decide +kernel
theorem dX6_winningChoice_37 : decode cX6_winningChoice 37 = .ok (.getfield 40, 3) := by decide +kernel
theorem dX6_winningChoice_40 : decode cX6_winningChoice 40 = .ok (.iload_n 1, 1) := by decide +kernel
theorem dX6_winningChoice_41 : decode cX6_winningChoice 41 = .ok (.invokevirtual 137, 3) := by decide +kernel
theorem dX6_winningChoice_44 : decode cX6_winningChoice 44 = .ok (.invokestatic 174, 3) := by decide +kernel
theorem dX6_winningChoice_47 : decode cX6_winningChoice 47 = .ok (.ireturn, 1) := by decide +kernel
set_option maxRecDepth 20000 in
theorem ggX6_measure_X6_isPlayer : GoodIn wsX6_measure wsX6_isPlayer := goodIn_r _ [7] (by decide +kernel) (by decide +kernel)
set_option maxRecDepth 20000 in
theorem gX6_measure_X6_isPlayer : GoodIn wsX6_measure (va_wsS RX6 58 yX6_isPlayer wsX6_isPlayer) := goodIn_app (goodIn_of _ (by decide +kernel)) ggX6_measure_X6_isPlayer
set_option maxRecDepth 20000 in
theorem ggX6_measure_X1_has : GoodIn wsX6_measure wsX1_has := goodIn_r _ [12, 13, 92, 93, 94, 95] (by decide +kernel) (by decide +kernel)
set_option maxRecDepth 20000 in
theorem gX6_measure_X1_has : GoodIn wsX6_measure (wsV RX6 80 RX1 yX1_has wsX1_has) := goodIn_app (goodIn_of _ (by decide +kernel)) ggX6_measure_X1_has
set_option maxRecDepth 20000 in
theorem ggX6_measure_X6_isColour : GoodIn wsX6_measure wsX6_isColour := goodIn_r _ [16] (by decide +kernel) (by decide +kernel)
set_option maxRecDepth 20000 in
theorem gX6_measure_X6_isColour : GoodIn wsX6_measure (va_wsS RX6 62 yX6_isColour wsX6_isColour) := goodIn_app (goodIn_of _ (by decide +kernel)) ggX6_measure_X6_isColour
set_option maxRecDepth 20000 in
theorem ggX6_measure_X6_solveFor : GoodIn wsX6_measure wsX6_solveFor := goodIn_r _ [20, 21, 1, 2, 3, 22, 23, 24, 11, 25, 13, 26, 27, 28, 29, 30, 31, 32, 33, 34, 35, 36, 37, 38, 39, 40, 41, 42, 43, 44, 45, 46, 47, 48, 49, 50, 51, 52, 53, 54, 55, 56, 57, 58, 59, 60, 61, 62, 63, 64, 65, 66, 6, 67, 68, 69, 70, 71, 80, 81, 82, 83, 84, 85, 86, 87, 88, 89, 90, 91, 92, 93, 94, 95, 96, 97, 98] (by decide +kernel) (by decide +kernel)
set_option maxRecDepth 20000 in
theorem gX6_measure_X6_solveFor : GoodIn wsX6_measure (wsV RX6 133 RX6 yX6_solveFor wsX6_solveFor) := goodIn_app (goodIn_of _ (by decide +kernel)) ggX6_measure_X6_solveFor
set_option maxRecDepth 20000 in
theorem ggX6_measure_X3_isLost : GoodIn wsX6_measure wsX3_isLost := goodIn_r _ [75, 44, 57, 96, 97, 98] (by decide +kernel) (by decide +kernel)
set_option maxRecDepth 20000 in
theorem gX6_measure_X3_isLost : GoodIn wsX6_measure (wsV RX6 177 RX3 yX3_isLost wsX3_isLost) := goodIn_app (goodIn_of _ (by decide +kernel)) ggX6_measure_X3_isLost
set_option maxRecDepth 20000 in
theorem ggX6_measure_X3_number : GoodIn wsX6_measure wsX3_number := goodIn_r _ [79, 44, 96, 97, 98] (by decide +kernel) (by decide +kernel)
set_option maxRecDepth 20000 in
theorem gX6_measure_X3_number : GoodIn wsX6_measure (wsV RX6 180 RX3 yX3_number wsX3_number) := goodIn_app (goodIn_of _ (by decide +kernel)) ggX6_measure_X3_number
theorem dX6_measure_0 : decode cX6_measure 0 = .ok (.iload_n 1, 1) := by decide +kernel
theorem dX6_measure_1 : decode cX6_measure 1 = .ok (.invokestatic 58, 3) := by decide +kernel
theorem dX6_measure_4 : decode cX6_measure 4 = .ok (.ifCond .eq 17, 3) := by decide +kernel
theorem dX6_measure_7 : decode cX6_measure 7 = .ok (.aload_n 0, 1) := by decide +kernel
theorem dX6_measure_8 : decode cX6_measure 8 = .ok (.getfield 12, 3) := by decide +kernel
theorem dX6_measure_11 : decode cX6_measure 11 = .ok (.getfield 65, 3) := by decide +kernel
theorem dX6_measure_14 : decode cX6_measure 14 = .ok (.iload_n 2, 1) := by decide +kernel
theorem dX6_measure_15 : decode cX6_measure 15 = .ok (.invokevirtual 80, 3) := by decide +kernel
theorem dX6_measure_18 : decode cX6_measure 18 = .ok (.ifCond .ne 5, 3) := by decide +kernel
theorem dX6_measure_21 : decode cX6_measure 21 = .ok (.iconst (-1), 1) := by decide +kernel
theorem dX6_measure_22 : decode cX6_measure 22 = .ok (.ireturn, 1) := by decide +kernel
theorem dX6_measure_23 : decode cX6_measure 23 = .ok (.iload_n 3, 1) := by decide +kernel
theorem dX6_measure_24 : decode cX6_measure 24 = .ok (.invokestatic 62, 3) := by decide +kernel
theorem dX6_measure_27 : decode cX6_measure 27 = .ok (.ifCond .eq 9, 3) := by decide +kernel
theorem dX6_measure_30 : decode cX6_measure 30 = .ok (.iload_n 3, 1) := by decide +kernel
theorem dX6_measure_31 : decode cX6_measure 31 = .ok (.iconst 2, 1) := by decide +kernel
theorem dX6_measure_32 : decode cX6_measure 32 = .ok (.irem, 1) := by decide +kernel
theorem dX6_measure_33 : decode cX6_measure 33 = .ok (.ifCond .ne 6, 3) := by decide +kernel
theorem dX6_measure_36 : decode cX6_measure 36 = .ok (.bipush (-2), 2) := by decide +kernel
theorem dX6_measure_38 : decode cX6_measure 38 = .ok (.ireturn, 1) := by decide +kernel
theorem dX6_measure_39 : decode cX6_measure 39 = .ok (.aload_n 0, 1) := by decide +kernel
theorem dX6_measure_40 : decode cX6_measure 40 = .ok (.iload_n 1, 1) := by decide +kernel
theorem dX6_measure_41 : decode cX6_measure 41 = .ok (.invokevirtual 133, 3) := by decide +kernel
theorem dX6_measure_44 : decode cX6_measure 44 = .ok (.aload_n 0, 1) := by decide +kernel
theorem dX6_measure_45 : decode cX6_measure 45 = .ok (.getfield 47, 3) := by decide +kernel
theorem dX6_measure_48 : decode cX6_measure 48 = .ok (.iload_n 2, 1) := by decide +kernel
theorem dX6_measure_49 : decode cX6_measure 49 = .ok (.invokevirtual 177, 3) := by decide +kernel
theorem dX6_measure_52 : decode cX6_measure 52 = .ok (.ifCond .eq 8, 3) := by decide +kernel
theorem dX6_measure_55 : decode cX6_measure 55 = .ok (.bipush (-5), 2) := by decide +kernel
theorem dX6_measure_57 : decode cX6_measure 57 = .ok (.goto 12, 3) := by decide +kernel
theorem dX6_measure_60 : decode cX6_measure 60 = .ok (.aload_n 0, 1) := by decide +kernel
theorem dX6_measure_61 : decode cX6_measure 61 = .ok (.getfield 47, 3) := by decide +kernel
theorem dX6_measure_64 : decode cX6_measure 64 = .ok (.iload_n 2, 1) := by decide +kernel
theorem dX6_measure_65 : decode cX6_measure 65 = .ok (.iload_n 3, 1) := by decide +kernel
theorem dX6_measure_66 : decode cX6_measure 66 = .ok (.invokevirtual 180, 3) := by decide +kernel
theorem dX6_measure_69 : decode cX6_measure 69 = .ok (.ireturn, 1) := by decide +kernel
set_option maxRecDepth 20000 in
theorem ggX6_rounds_X6_isPlayer : GoodIn wsX6_rounds wsX6_isPlayer := goodIn_r _ [6] (by decide +kernel) (by decide +kernel)
set_option maxRecDepth 20000 in
theorem gX6_rounds_X6_isPlayer : GoodIn wsX6_rounds (va_wsS RX6 58 yX6_isPlayer wsX6_isPlayer) := goodIn_app (goodIn_of _ (by decide +kernel)) ggX6_rounds_X6_isPlayer
set_option maxRecDepth 20000 in
theorem ggX6_rounds_X6_solveFor : GoodIn wsX6_rounds wsX6_solveFor := goodIn_r _ [10, 11, 12, 13, 1, 14, 15, 16, 17, 18, 19, 20, 21, 22, 23, 24, 25, 26, 27, 28, 29, 30, 31, 32, 33, 34, 35, 36, 37, 38, 39, 40, 41, 42, 43, 44, 45, 46, 47, 48, 49, 50, 51, 52, 53, 54, 55, 56, 57, 58, 59, 60, 5, 61, 62, 63, 64, 65, 66, 67, 68, 69, 70, 71, 72, 73, 77, 78, 79, 80, 81, 82, 83, 84, 74, 75, 76] (by decide +kernel) (by decide +kernel)
set_option maxRecDepth 20000 in
theorem gX6_rounds_X6_solveFor : GoodIn wsX6_rounds (wsV RX6 133 RX6 yX6_solveFor wsX6_solveFor) := goodIn_app (goodIn_of _ (by decide +kernel)) ggX6_rounds_X6_solveFor
theorem dX6_rounds_0 : decode cX6_rounds 0 = .ok (.iload_n 1, 1) := by decide +kernel
theorem dX6_rounds_1 : decode cX6_rounds 1 = .ok (.invokestatic 58, 3) := by decide +kernel
theorem dX6_rounds_4 : decode cX6_rounds 4 = .ok (.ifCond .ne 5, 3) := by decide +kernel
theorem dX6_rounds_7 : decode cX6_rounds 7 = .ok (.iconst (-1), 1) := by decide +kernel
theorem dX6_rounds_8 : decode cX6_rounds 8 = .ok (.ireturn, 1) := by decide +kernel
theorem dX6_rounds_9 : decode cX6_rounds 9 = .ok (.aload_n 0, 1) := by decide +kernel
theorem dX6_rounds_10 : decode cX6_rounds 10 = .ok (.iload_n 1, 1) := by decide +kernel
theorem dX6_rounds_11 : decode cX6_rounds 11 = .ok (.invokevirtual 133, 3) := by decide +kernel
theorem dX6_rounds_14 : decode cX6_rounds 14 = .ok (.aload_n 0, 1) := by decide +kernel
theorem dX6_rounds_15 : decode cX6_rounds 15 = .ok (.getfield 47, 3) := by decide +kernel
theorem dX6_rounds_18 : decode cX6_rounds 18 = .ok (.getfield 183, 3) := by decide +kernel
theorem dX6_rounds_21 : decode cX6_rounds 21 = .ok (.ireturn, 1) := by decide +kernel
set_option maxRecDepth 20000 in
theorem ggX6_forced_X6_isPlayer : GoodIn wsX6_forced wsX6_isPlayer := goodIn_r _ [7] (by decide +kernel) (by decide +kernel)
set_option maxRecDepth 20000 in
theorem gX6_forced_X6_isPlayer : GoodIn wsX6_forced (va_wsS RX6 58 yX6_isPlayer wsX6_isPlayer) := goodIn_app (goodIn_of _ (by decide +kernel)) ggX6_forced_X6_isPlayer
set_option maxRecDepth 20000 in
theorem ggX6_forced_X1_hasAll : GoodIn wsX6_forced wsX1_hasAll := goodIn_r _ [12, 13, 14, 15, 11, 16, 17, 18, 6, 19, 38, 39, 40, 41] (by decide +kernel) (by decide +kernel)
set_option maxRecDepth 20000 in
theorem gX6_forced_X1_hasAll : GoodIn wsX6_forced (wsV RX6 186 RX1 yX1_hasAll wsX1_hasAll) := goodIn_app (goodIn_of _ (by decide +kernel)) ggX6_forced_X1_hasAll
set_option maxRecDepth 20000 in
theorem ggX6_forced_X1_forcedNext : GoodIn wsX6_forced wsX1_forcedNext := goodIn_r _ [23, 17, 24, 25, 18, 6, 19, 38, 39, 40, 41] (by decide +kernel) (by decide +kernel)
set_option maxRecDepth 20000 in
theorem gX6_forced_X1_forcedNext : GoodIn wsX6_forced (wsV RX6 189 RX1 yX1_forcedNext wsX1_forcedNext) := goodIn_app (goodIn_of _ (by decide +kernel)) ggX6_forced_X1_forcedNext
theorem dX6_forced_0 : decode cX6_forced 0 = .ok (.iload_n 1, 1) := by decide +kernel
theorem dX6_forced_1 : decode cX6_forced 1 = .ok (.invokestatic 58, 3) := by decide +kernel
theorem dX6_forced_4 : decode cX6_forced 4 = .ok (.ifCond .ne 5, 3) := by decide +kernel
theorem dX6_forced_7 : decode cX6_forced 7 = .ok (.iconst (-1), 1) := by decide +kernel
theorem dX6_forced_8 : decode cX6_forced 8 = .ok (.ireturn, 1) := by decide +kernel
theorem dX6_forced_9 : decode cX6_forced 9 = .ok (.aload_n 0, 1) := by decide +kernel
theorem dX6_forced_10 : decode cX6_forced 10 = .ok (.getfield 12, 3) := by decide +kernel
theorem dX6_forced_13 : decode cX6_forced 13 = .ok (.getfield 65, 3) := by decide +kernel
theorem dX6_forced_16 : decode cX6_forced 16 = .ok (.iload_n 2, 1) := by decide +kernel
theorem dX6_forced_17 : decode cX6_forced 17 = .ok (.invokevirtual 186, 3) := by decide +kernel
theorem dX6_forced_20 : decode cX6_forced 20 = .ok (.ifCond .ne 6, 3) := by decide +kernel
theorem dX6_forced_23 : decode cX6_forced 23 = .ok (.bipush (-2), 2) := by decide +kernel
theorem dX6_forced_25 : decode cX6_forced 25 = .ok (.ireturn, 1) := by decide +kernel
theorem dX6_forced_26 : decode cX6_forced 26 = .ok (.iload_n 2, 1) := by decide +kernel
theorem dX6_forced_27 : decode cX6_forced 27 = .ok (.istore_n 3, 1) := by decide +kernel
theorem dX6_forced_28 : decode cX6_forced 28 = .ok (.iconst 1, 1) := by decide +kernel
theorem dX6_forced_29 : decode cX6_forced 29 = .ok (.istore 4, 2) := by decide +kernel
theorem dX6_forced_31 : decode cX6_forced 31 = .ok (.iload 4, 2) := by decide +kernel
theorem dX6_forced_33 : decode cX6_forced 33 = .ok (.aload_n 0, 1) := by decide +kernel
theorem dX6_forced_34 : decode cX6_forced 34 = .ok (.getfield 12, 3) := by decide +kernel
theorem dX6_forced_37 : decode cX6_forced 37 = .ok (.getfield 65, 3) := by decide +kernel
theorem dX6_forced_40 : decode cX6_forced 40 = .ok (.getfield 68, 3) := by decide +kernel
theorem dX6_forced_43 : decode cX6_forced 43 = .ok (.if_icmp .gt 22, 3) := by decide +kernel
theorem dX6_forced_46 : decode cX6_forced 46 = .ok (.aload_n 0, 1) := by decide +kernel
theorem dX6_forced_47 : decode cX6_forced 47 = .ok (.getfield 12, 3) := by decide +kernel
theorem dX6_forced_50 : decode cX6_forced 50 = .ok (.getfield 65, 3) := by decide +kernel
theorem dX6_forced_53 : decode cX6_forced 53 = .ok (.iload_n 1, 1) := by decide +kernel
theorem dX6_forced_54 : decode cX6_forced 54 = .ok (.iload_n 3, 1) := by decide +kernel
theorem dX6_forced_55 : decode cX6_forced 55 = .ok (.invokevirtual 189, 3) := by decide +kernel
theorem dX6_forced_58 : decode cX6_forced 58 = .ok (.istore_n 3, 1) := by decide +kernel
theorem dX6_forced_59 : decode cX6_forced 59 = .ok (.iinc 4 1, 3) := by decide +kernel
theorem dX6_forced_62 : decode cX6_forced 62 = .ok (.goto (-31), 3) := by decide +kernel
theorem dX6_forced_65 : decode cX6_forced 65 = .ok (.iload_n 3, 1) := by decide +kernel
theorem dX6_forced_66 : decode cX6_forced 66 = .ok (.ireturn, 1) := by decide +kernel
set_option maxRecDepth 20000 in
theorem ggX6_rank_X6_isPlayer : GoodIn wsX6_rank wsX6_isPlayer := goodIn_r _ [7] (by decide +kernel) (by decide +kernel)
set_option maxRecDepth 20000 in
theorem gX6_rank_X6_isPlayer : GoodIn wsX6_rank (va_wsS RX6 58 yX6_isPlayer wsX6_isPlayer) := goodIn_app (goodIn_of _ (by decide +kernel)) ggX6_rank_X6_isPlayer
set_option maxRecDepth 20000 in
theorem ggX6_rank_X1_has : GoodIn wsX6_rank wsX1_has := goodIn_r _ [12, 13, 45, 46, 47, 48] (by decide +kernel) (by decide +kernel)
set_option maxRecDepth 20000 in
theorem gX6_rank_X1_has : GoodIn wsX6_rank (wsV RX6 80 RX1 yX1_has wsX1_has) := goodIn_app (goodIn_of _ (by decide +kernel)) ggX6_rank_X1_has
set_option maxRecDepth 20000 in
theorem ggX6_rank_X1_hasAll : GoodIn wsX6_rank wsX1_hasAll := goodIn_r _ [17, 18, 19, 20, 11, 21, 13, 22, 6, 23, 45, 46, 47, 48] (by decide +kernel) (by decide +kernel)
set_option maxRecDepth 20000 in
theorem gX6_rank_X1_hasAll : GoodIn wsX6_rank (wsV RX6 186 RX1 yX1_hasAll wsX1_hasAll) := goodIn_app (goodIn_of _ (by decide +kernel)) ggX6_rank_X1_hasAll
set_option maxRecDepth 20000 in
theorem ggX6_rank_X6_contains : GoodIn wsX6_rank wsX6_contains := goodIn_r _ [26] (by decide +kernel) (by decide +kernel)
set_option maxRecDepth 20000 in
theorem gX6_rank_X6_contains : GoodIn wsX6_rank (va_wsS RX6 192 yX6_contains wsX6_contains) := goodIn_app (goodIn_of _ (by decide +kernel)) ggX6_rank_X6_contains
set_option maxRecDepth 20000 in
theorem ggX6_rank_X1_forcedNext : GoodIn wsX6_rank wsX1_forcedNext := goodIn_r _ [30, 13, 31, 32, 22, 6, 23, 45, 46, 47, 48] (by decide +kernel) (by decide +kernel)
set_option maxRecDepth 20000 in
theorem gX6_rank_X1_forcedNext : GoodIn wsX6_rank (wsV RX6 189 RX1 yX1_forcedNext wsX1_forcedNext) := goodIn_app (goodIn_of _ (by decide +kernel)) ggX6_rank_X1_forcedNext
theorem dX6_rank_0 : decode cX6_rank 0 = .ok (.iload_n 1, 1) := by decide +kernel
theorem dX6_rank_1 : decode cX6_rank 1 = .ok (.invokestatic 58, 3) := by decide +kernel
theorem dX6_rank_4 : decode cX6_rank 4 = .ok (.ifCond .eq 17, 3) := by decide +kernel
theorem dX6_rank_7 : decode cX6_rank 7 = .ok (.aload_n 0, 1) := by decide +kernel
theorem dX6_rank_8 : decode cX6_rank 8 = .ok (.getfield 12, 3) := by decide +kernel
theorem dX6_rank_11 : decode cX6_rank 11 = .ok (.getfield 65, 3) := by decide +kernel
theorem dX6_rank_14 : decode cX6_rank 14 = .ok (.iload_n 3, 1) := by decide +kernel
theorem dX6_rank_15 : decode cX6_rank 15 = .ok (.invokevirtual 80, 3) := by decide +kernel
theorem dX6_rank_18 : decode cX6_rank 18 = .ok (.ifCond .ne 5, 3) := by decide +kernel
theorem dX6_rank_21 : decode cX6_rank 21 = .ok (.iconst (-1), 1) := by decide +kernel
theorem dX6_rank_22 : decode cX6_rank 22 = .ok (.ireturn, 1) := by decide +kernel
theorem dX6_rank_23 : decode cX6_rank 23 = .ok (.aload_n 0, 1) := by decide +kernel
theorem dX6_rank_24 : decode cX6_rank 24 = .ok (.getfield 12, 3) := by decide +kernel
theorem dX6_rank_27 : decode cX6_rank 27 = .ok (.getfield 65, 3) := by decide +kernel
theorem dX6_rank_30 : decode cX6_rank 30 = .ok (.iload_n 2, 1) := by decide +kernel
theorem dX6_rank_31 : decode cX6_rank 31 = .ok (.invokevirtual 186, 3) := by decide +kernel
theorem dX6_rank_34 : decode cX6_rank 34 = .ok (.ifCond .ne 6, 3) := by decide +kernel
theorem dX6_rank_37 : decode cX6_rank 37 = .ok (.bipush (-2), 2) := by decide +kernel
theorem dX6_rank_39 : decode cX6_rank 39 = .ok (.ireturn, 1) := by decide +kernel
theorem dX6_rank_40 : decode cX6_rank 40 = .ok (.iload_n 2, 1) := by decide +kernel
theorem dX6_rank_41 : decode cX6_rank 41 = .ok (.istore 4, 2) := by decide +kernel
theorem dX6_rank_43 : decode cX6_rank 43 = .ok (.iconst 0, 1) := by decide +kernel
theorem dX6_rank_44 : decode cX6_rank 44 = .ok (.istore 5, 2) := by decide +kernel
theorem dX6_rank_46 : decode cX6_rank 46 = .ok (.iload 5, 2) := by decide +kernel
theorem dX6_rank_48 : decode cX6_rank 48 = .ok (.aload_n 0, 1) := by decide +kernel
theorem dX6_rank_49 : decode cX6_rank 49 = .ok (.getfield 12, 3) := by decide +kernel
theorem dX6_rank_52 : decode cX6_rank 52 = .ok (.getfield 65, 3) := by decide +kernel
theorem dX6_rank_55 : decode cX6_rank 55 = .ok (.getfield 68, 3) := by decide +kernel
theorem dX6_rank_58 : decode cX6_rank 58 = .ok (.if_icmp .gt 36, 3) := by decide +kernel
theorem dX6_rank_61 : decode cX6_rank 61 = .ok (.iload 4, 2) := by decide +kernel
theorem dX6_rank_63 : decode cX6_rank 63 = .ok (.iload_n 3, 1) := by decide +kernel
theorem dX6_rank_64 : decode cX6_rank 64 = .ok (.invokestatic 192, 3) := by decide +kernel
theorem dX6_rank_67 : decode cX6_rank 67 = .ok (.ifCond .eq 6, 3) := by decide +kernel
theorem dX6_rank_70 : decode cX6_rank 70 = .ok (.iload 5, 2) := by decide +kernel
theorem dX6_rank_72 : decode cX6_rank 72 = .ok (.ireturn, 1) := by decide +kernel
theorem dX6_rank_73 : decode cX6_rank 73 = .ok (.aload_n 0, 1) := by decide +kernel
theorem dX6_rank_74 : decode cX6_rank 74 = .ok (.getfield 12, 3) := by decide +kernel
theorem dX6_rank_77 : decode cX6_rank 77 = .ok (.getfield 65, 3) := by decide +kernel
theorem dX6_rank_80 : decode cX6_rank 80 = .ok (.iload_n 1, 1) := by decide +kernel
theorem dX6_rank_81 : decode cX6_rank 81 = .ok (.iload 4, 2) := by decide +kernel
theorem dX6_rank_83 : decode cX6_rank 83 = .ok (.invokevirtual 189, 3) := by decide +kernel
theorem dX6_rank_86 : decode cX6_rank 86 = .ok (.istore 4, 2) := by decide +kernel
theorem dX6_rank_88 : decode cX6_rank 88 = .ok (.iinc 5 1, 3) := by decide +kernel
theorem dX6_rank_91 : decode cX6_rank 91 = .ok (.goto (-45), 3) := by decide +kernel
theorem dX6_rank_94 : decode cX6_rank 94 = .ok (.bipush (-5), 2) := by decide +kernel
theorem dX6_rank_96 : decode cX6_rank 96 = .ok (.ireturn, 1) := by decide +kernel
set_option maxRecDepth 20000 in
theorem ggX6_trap_X6_isPlayer : GoodIn wsX6_trap wsX6_isPlayer := goodIn_r _ [6] (by decide +kernel) (by decide +kernel)
set_option maxRecDepth 20000 in
theorem gX6_trap_X6_isPlayer : GoodIn wsX6_trap (va_wsS RX6 58 yX6_isPlayer wsX6_isPlayer) := goodIn_app (goodIn_of _ (by decide +kernel)) ggX6_trap_X6_isPlayer
set_option maxRecDepth 20000 in
theorem ggX6_trap_X1_hasAll : GoodIn wsX6_trap wsX1_hasAll := goodIn_r _ [11, 12, 13, 14, 10, 15, 16, 17, 5, 18, 39, 40, 41, 42] (by decide +kernel) (by decide +kernel)
set_option maxRecDepth 20000 in
theorem gX6_trap_X1_hasAll : GoodIn wsX6_trap (wsV RX6 186 RX1 yX1_hasAll wsX1_hasAll) := goodIn_app (goodIn_of _ (by decide +kernel)) ggX6_trap_X1_hasAll
set_option maxRecDepth 20000 in
theorem ggX6_trap_X1_isTrap : GoodIn wsX6_trap wsX1_isTrap := goodIn_r _ [22, 16, 23, 24, 25, 5, 26, 39, 40, 41, 42] (by decide +kernel) (by decide +kernel)
set_option maxRecDepth 20000 in
theorem gX6_trap_X1_isTrap : GoodIn wsX6_trap (wsV RX6 195 RX1 yX1_isTrap wsX1_isTrap) := goodIn_app (goodIn_of _ (by decide +kernel)) ggX6_trap_X1_isTrap
theorem dX6_trap_0 : decode cX6_trap 0 = .ok (.iload_n 1, 1) := by decide +kernel
theorem dX6_trap_1 : decode cX6_trap 1 = .ok (.invokestatic 58, 3) := by decide +kernel
theorem dX6_trap_4 : decode cX6_trap 4 = .ok (.ifCond .ne 5, 3) := by decide +kernel
theorem dX6_trap_7 : decode cX6_trap 7 = .ok (.iconst (-1), 1) := by decide +kernel
theorem dX6_trap_8 : decode cX6_trap 8 = .ok (.ireturn, 1) := by decide +kernel
theorem dX6_trap_9 : decode cX6_trap 9 = .ok (.aload_n 0, 1) := by decide +kernel
theorem dX6_trap_10 : decode cX6_trap 10 = .ok (.getfield 12, 3) := by decide +kernel
theorem dX6_trap_13 : decode cX6_trap 13 = .ok (.getfield 65, 3) := by decide +kernel
theorem dX6_trap_16 : decode cX6_trap 16 = .ok (.iload_n 2, 1) := by decide +kernel
theorem dX6_trap_17 : decode cX6_trap 17 = .ok (.invokevirtual 186, 3) := by decide +kernel
theorem dX6_trap_20 : decode cX6_trap 20 = .ok (.ifCond .ne 6, 3) := by decide +kernel
theorem dX6_trap_23 : decode cX6_trap 23 = .ok (.bipush (-2), 2) := by decide +kernel
theorem dX6_trap_25 : decode cX6_trap 25 = .ok (.ireturn, 1) := by decide +kernel
theorem dX6_trap_26 : decode cX6_trap 26 = .ok (.aload_n 0, 1) := by decide +kernel
theorem dX6_trap_27 : decode cX6_trap 27 = .ok (.getfield 12, 3) := by decide +kernel
theorem dX6_trap_30 : decode cX6_trap 30 = .ok (.getfield 65, 3) := by decide +kernel
theorem dX6_trap_33 : decode cX6_trap 33 = .ok (.iload_n 1, 1) := by decide +kernel
theorem dX6_trap_34 : decode cX6_trap 34 = .ok (.iload_n 2, 1) := by decide +kernel
theorem dX6_trap_35 : decode cX6_trap 35 = .ok (.invokevirtual 195, 3) := by decide +kernel
theorem dX6_trap_38 : decode cX6_trap 38 = .ok (.ifCond .eq 7, 3) := by decide +kernel
theorem dX6_trap_41 : decode cX6_trap 41 = .ok (.iconst 1, 1) := by decide +kernel
theorem dX6_trap_42 : decode cX6_trap 42 = .ok (.goto 4, 3) := by decide +kernel
theorem dX6_trap_45 : decode cX6_trap 45 = .ok (.iconst 0, 1) := by decide +kernel
theorem dX6_trap_46 : decode cX6_trap 46 = .ok (.ireturn, 1) := by decide +kernel
set_option maxRecDepth 20000 in
theorem ggX6_judged_X6_isPlayer : GoodIn wsX6_judged wsX6_isPlayer := goodIn_r _ [7] (by decide +kernel) (by decide +kernel)
set_option maxRecDepth 20000 in
theorem gX6_judged_X6_isPlayer : GoodIn wsX6_judged (va_wsS RX6 58 yX6_isPlayer wsX6_isPlayer) := goodIn_app (goodIn_of _ (by decide +kernel)) ggX6_judged_X6_isPlayer
set_option maxRecDepth 20000 in
theorem ggX6_judged_X1_has : GoodIn wsX6_judged wsX1_has := goodIn_r _ [12, 13, 95, 96, 97, 98] (by decide +kernel) (by decide +kernel)
set_option maxRecDepth 20000 in
theorem gX6_judged_X1_has : GoodIn wsX6_judged (wsV RX6 80 RX1 yX1_has wsX1_has) := goodIn_app (goodIn_of _ (by decide +kernel)) ggX6_judged_X1_has
set_option maxRecDepth 20000 in
theorem ggX6_judged_X6_judgeFor : GoodIn wsX6_judged wsX6_judgeFor := goodIn_r _ [17, 3, 1, 2, 18, 19, 20, 21, 22, 23, 24, 11, 25, 13, 26, 27, 28, 29, 30, 31, 32, 33, 34, 6, 35, 83, 84, 85, 86, 87, 88, 89, 90, 91, 92, 93, 94, 95, 96, 97, 98] (by decide +kernel) (by decide +kernel)
set_option maxRecDepth 20000 in
theorem gX6_judged_X6_judgeFor : GoodIn wsX6_judged (wsV RX6 198 RX6 yX6_judgeFor wsX6_judgeFor) := goodIn_app (goodIn_of _ (by decide +kernel)) ggX6_judged_X6_judgeFor
set_option maxRecDepth 20000 in
theorem ggX6_judged_X1_badRingPlaces : GoodIn wsX6_judged wsX1_badRingPlaces := goodIn_r _ [39, 13, 31, 40, 41, 42, 11, 43, 44, 45, 46, 47, 48, 49, 50, 51, 34, 6, 35, 52, 53, 54, 55, 56, 57, 58, 59, 32, 60, 61, 62, 63, 64, 65, 66, 67, 68, 69, 95, 96, 97, 98] (by decide +kernel) (by decide +kernel)
set_option maxRecDepth 20000 in
theorem gX6_judged_X1_badRingPlaces : GoodIn wsX6_judged (wsV RX6 201 RX1 yX1_badRingPlaces wsX1_badRingPlaces) := goodIn_app (goodIn_of _ (by decide +kernel)) ggX6_judged_X1_badRingPlaces
set_option maxRecDepth 20000 in
theorem ggX6_judged_X1_owned : GoodIn wsX6_judged wsX1_owned := goodIn_r _ [73, 13, 26, 34, 6, 35, 95, 96, 97, 98] (by decide +kernel) (by decide +kernel)
set_option maxRecDepth 20000 in
theorem gX6_judged_X1_owned : GoodIn wsX6_judged (wsV RX6 204 RX1 yX1_owned wsX1_owned) := goodIn_app (goodIn_of _ (by decide +kernel)) ggX6_judged_X1_owned
set_option maxRecDepth 20000 in
theorem ggX6_judged_X1_withoutArrows : GoodIn wsX6_judged wsX1_withoutArrows := goodIn_r _ [77, 13, 32, 34, 6, 35, 95, 96, 97, 98] (by decide +kernel) (by decide +kernel)
set_option maxRecDepth 20000 in
theorem gX6_judged_X1_withoutArrows : GoodIn wsX6_judged (wsV RX6 207 RX1 yX1_withoutArrows wsX1_withoutArrows) := goodIn_app (goodIn_of _ (by decide +kernel)) ggX6_judged_X1_withoutArrows
set_option maxRecDepth 20000 in
theorem ggX6_judged_X6_bit : GoodIn wsX6_judged wsX6_bit := goodIn_r _ [35] (by decide +kernel) (by decide +kernel)
set_option maxRecDepth 20000 in
theorem gX6_judged_X6_bit : GoodIn wsX6_judged (va_wsS RX6 105 yX6_bit wsX6_bit) := goodIn_app (goodIn_of _ (by decide +kernel)) ggX6_judged_X6_bit
set_option maxRecDepth 20000 in
theorem ggX6_judged_X1_all : GoodIn wsX6_judged wsX1_all := goodIn_r _ [81, 13, 34, 6, 35, 95, 96, 97, 98] (by decide +kernel) (by decide +kernel)
set_option maxRecDepth 20000 in
theorem gX6_judged_X1_all : GoodIn wsX6_judged (wsV RX6 210 RX1 yX1_all wsX1_all) := goodIn_app (goodIn_of _ (by decide +kernel)) ggX6_judged_X1_all
set_option maxRecDepth 20000 in
theorem ggX6_judged_X1_reached : GoodIn wsX6_judged wsX1_reached := goodIn_r _ [55, 13, 56, 57, 58, 11, 59, 32, 60, 6, 61, 95, 96, 97, 98] (by decide +kernel) (by decide +kernel)
set_option maxRecDepth 20000 in
theorem gX6_judged_X1_reached : GoodIn wsX6_judged (wsV RX6 213 RX1 yX1_reached wsX1_reached) := goodIn_app (goodIn_of _ (by decide +kernel)) ggX6_judged_X1_reached
theorem dX6_judged_0 : decode cX6_judged 0 = .ok (.iload_n 1, 1) := by decide +kernel
theorem dX6_judged_1 : decode cX6_judged 1 = .ok (.invokestatic 58, 3) := by decide +kernel
theorem dX6_judged_4 : decode cX6_judged 4 = .ok (.ifCond .eq 17, 3) := by decide +kernel
theorem dX6_judged_7 : decode cX6_judged 7 = .ok (.aload_n 0, 1) := by decide +kernel
theorem dX6_judged_8 : decode cX6_judged 8 = .ok (.getfield 12, 3) := by decide +kernel
theorem dX6_judged_11 : decode cX6_judged 11 = .ok (.getfield 65, 3) := by decide +kernel
theorem dX6_judged_14 : decode cX6_judged 14 = .ok (.iload_n 2, 1) := by decide +kernel
theorem dX6_judged_15 : decode cX6_judged 15 = .ok (.invokevirtual 80, 3) := by decide +kernel
theorem dX6_judged_18 : decode cX6_judged 18 = .ok (.ifCond .ne 5, 3) := by decide +kernel
theorem dX6_judged_21 : decode cX6_judged 21 = .ok (.iconst (-1), 1) := by decide +kernel
theorem dX6_judged_22 : decode cX6_judged 22 = .ok (.ireturn, 1) := by decide +kernel
theorem dX6_judged_23 : decode cX6_judged 23 = .ok (.aload_n 0, 1) := by decide +kernel
theorem dX6_judged_24 : decode cX6_judged 24 = .ok (.iload_n 1, 1) := by decide +kernel
theorem dX6_judged_25 : decode cX6_judged 25 = .ok (.invokevirtual 198, 3) := by decide +kernel
theorem dX6_judged_28 : decode cX6_judged 28 = .ok (.aload_n 0, 1) := by decide +kernel
theorem dX6_judged_29 : decode cX6_judged 29 = .ok (.getfield 40, 3) := by decide +kernel
theorem dX6_judged_32 : decode cX6_judged 32 = .ok (.iload_n 1, 1) := by decide +kernel
theorem dX6_judged_33 : decode cX6_judged 33 = .ok (.invokevirtual 201, 3) := by decide +kernel
theorem dX6_judged_36 : decode cX6_judged 36 = .ok (.aload_n 0, 1) := by decide +kernel
theorem dX6_judged_37 : decode cX6_judged 37 = .ok (.getfield 40, 3) := by decide +kernel
theorem dX6_judged_40 : decode cX6_judged 40 = .ok (.iload_n 1, 1) := by decide +kernel
theorem dX6_judged_41 : decode cX6_judged 41 = .ok (.invokevirtual 204, 3) := by decide +kernel
theorem dX6_judged_44 : decode cX6_judged 44 = .ok (.aload_n 0, 1) := by decide +kernel
theorem dX6_judged_45 : decode cX6_judged 45 = .ok (.getfield 40, 3) := by decide +kernel
theorem dX6_judged_48 : decode cX6_judged 48 = .ok (.invokevirtual 207, 3) := by decide +kernel
theorem dX6_judged_51 : decode cX6_judged 51 = .ok (.iand, 1) := by decide +kernel
theorem dX6_judged_52 : decode cX6_judged 52 = .ok (.ior, 1) := by decide +kernel
theorem dX6_judged_53 : decode cX6_judged 53 = .ok (.istore_n 3, 1) := by decide +kernel
theorem dX6_judged_54 : decode cX6_judged 54 = .ok (.iload_n 2, 1) := by decide +kernel
theorem dX6_judged_55 : decode cX6_judged 55 = .ok (.invokestatic 105, 3) := by decide +kernel
theorem dX6_judged_58 : decode cX6_judged 58 = .ok (.aload_n 0, 1) := by decide +kernel
theorem dX6_judged_59 : decode cX6_judged 59 = .ok (.getfield 40, 3) := by decide +kernel
theorem dX6_judged_62 : decode cX6_judged 62 = .ok (.iload_n 2, 1) := by decide +kernel
theorem dX6_judged_63 : decode cX6_judged 63 = .ok (.invokestatic 105, 3) := by decide +kernel
theorem dX6_judged_66 : decode cX6_judged 66 = .ok (.aload_n 0, 1) := by decide +kernel
theorem dX6_judged_67 : decode cX6_judged 67 = .ok (.getfield 40, 3) := by decide +kernel
theorem dX6_judged_70 : decode cX6_judged 70 = .ok (.invokevirtual 210, 3) := by decide +kernel
theorem dX6_judged_73 : decode cX6_judged 73 = .ok (.invokevirtual 213, 3) := by decide +kernel
theorem dX6_judged_76 : decode cX6_judged 76 = .ok (.ior, 1) := by decide +kernel
theorem dX6_judged_77 : decode cX6_judged 77 = .ok (.istore 4, 2) := by decide +kernel
theorem dX6_judged_79 : decode cX6_judged 79 = .ok (.iload 4, 2) := by decide +kernel
theorem dX6_judged_81 : decode cX6_judged 81 = .ok (.iload_n 3, 1) := by decide +kernel
theorem dX6_judged_82 : decode cX6_judged 82 = .ok (.iand, 1) := by decide +kernel
theorem dX6_judged_83 : decode cX6_judged 83 = .ok (.ifCond .ne 7, 3) := by decide +kernel
theorem dX6_judged_86 : decode cX6_judged 86 = .ok (.iconst 1, 1) := by decide +kernel
theorem dX6_judged_87 : decode cX6_judged 87 = .ok (.goto 4, 3) := by decide +kernel
theorem dX6_judged_90 : decode cX6_judged 90 = .ok (.iconst 0, 1) := by decide +kernel
theorem dX6_judged_91 : decode cX6_judged 91 = .ok (.ireturn, 1) := by decide +kernel
set_option maxRecDepth 20000 in
theorem ggX6_badRings_X6_isPlayer : GoodIn wsX6_badRings wsX6_isPlayer := goodIn_r _ [5] (by decide +kernel) (by decide +kernel)
set_option maxRecDepth 20000 in
theorem gX6_badRings_X6_isPlayer : GoodIn wsX6_badRings (va_wsS RX6 58 yX6_isPlayer wsX6_isPlayer) := goodIn_app (goodIn_of _ (by decide +kernel)) ggX6_badRings_X6_isPlayer
set_option maxRecDepth 20000 in
theorem ggX6_badRings_X6_judgeFor : GoodIn wsX6_badRings wsX6_judgeFor := goodIn_r _ [9, 1, 10, 11, 12, 13, 14, 15, 16, 17, 18, 19, 20, 21, 22, 23, 24, 25, 26, 27, 28, 29, 30, 4, 31, 78, 79, 80, 81, 82, 83, 84, 85, 86, 87, 88, 89, 90, 91, 92, 93] (by decide +kernel) (by decide +kernel)
set_option maxRecDepth 20000 in
theorem gX6_badRings_X6_judgeFor : GoodIn wsX6_badRings (wsV RX6 198 RX6 yX6_judgeFor wsX6_judgeFor) := goodIn_app (goodIn_of _ (by decide +kernel)) ggX6_badRings_X6_judgeFor
set_option maxRecDepth 20000 in
theorem ggX6_badRings_X1_badRingPlaces : GoodIn wsX6_badRings wsX1_badRingPlaces := goodIn_r _ [35, 21, 27, 36, 37, 38, 19, 39, 40, 41, 42, 43, 44, 45, 46, 47, 30, 4, 31, 48, 49, 50, 51, 52, 53, 54, 55, 28, 56, 57, 58, 59, 60, 61, 62, 63, 64, 65, 90, 91, 92, 93] (by decide +kernel) (by decide +kernel)
set_option maxRecDepth 20000 in
theorem gX6_badRings_X1_badRingPlaces : GoodIn wsX6_badRings (wsV RX6 201 RX1 yX1_badRingPlaces wsX1_badRingPlaces) := goodIn_app (goodIn_of _ (by decide +kernel)) ggX6_badRings_X1_badRingPlaces
set_option maxRecDepth 20000 in
theorem ggX6_badRings_X1_leastBadColour : GoodIn wsX6_badRings wsX1_leastBadColour := goodIn_r _ [69, 21, 27, 36, 37, 38, 19, 39, 40, 41, 42, 43, 44, 45, 46, 47, 30, 4, 31, 48, 49, 50, 51, 52, 53, 54, 55, 28, 56, 57, 58, 59, 60, 61, 62, 63, 64, 65, 90, 91, 92, 93] (by decide +kernel) (by decide +kernel)
set_option maxRecDepth 20000 in
theorem gX6_badRings_X1_leastBadColour : GoodIn wsX6_badRings (wsV RX6 216 RX1 yX1_leastBadColour wsX1_leastBadColour) := goodIn_app (goodIn_of _ (by decide +kernel)) ggX6_badRings_X1_leastBadColour
set_option maxRecDepth 20000 in
theorem ggX6_badRings_X1_shortestBadRing : GoodIn wsX6_badRings wsX1_shortestBadRing := goodIn_r _ [73, 21, 27, 36, 37, 38, 19, 39, 74, 75, 76, 77, 44, 45, 46, 47, 30, 4, 31, 52, 53, 54, 55, 28, 56, 57, 90, 91, 92, 93] (by decide +kernel) (by decide +kernel)
set_option maxRecDepth 20000 in
theorem gX6_badRings_X1_shortestBadRing : GoodIn wsX6_badRings (wsV RX6 219 RX1 yX1_shortestBadRing wsX1_shortestBadRing) := goodIn_app (goodIn_of _ (by decide +kernel)) ggX6_badRings_X1_shortestBadRing
theorem dX6_badRings_0 : decode cX6_badRings 0 = .ok (.iload_n 1, 1) := by decide +kernel
theorem dX6_badRings_1 : decode cX6_badRings 1 = .ok (.invokestatic 58, 3) := by decide +kernel
theorem dX6_badRings_4 : decode cX6_badRings 4 = .ok (.ifCond .ne 5, 3) := by decide +kernel
theorem dX6_badRings_7 : decode cX6_badRings 7 = .ok (.iconst (-1), 1) := by decide +kernel
theorem dX6_badRings_8 : decode cX6_badRings 8 = .ok (.ireturn, 1) := by decide +kernel
theorem dX6_badRings_9 : decode cX6_badRings 9 = .ok (.aload_n 0, 1) := by decide +kernel
theorem dX6_badRings_10 : decode cX6_badRings 10 = .ok (.iload_n 1, 1) := by decide +kernel
theorem dX6_badRings_11 : decode cX6_badRings 11 = .ok (.invokevirtual 198, 3) := by decide +kernel
theorem dX6_badRings_14 : decode cX6_badRings 14 = .ok (.iload_n 2, 1) := by decide +kernel
theorem dX6_badRings_15 : decode cX6_badRings 15 = .ok (.tableswitch 52 0 2 #[25, 34, 43], 25) := by decide +kernel
theorem dX6_badRings_40 : decode cX6_badRings 40 = .ok (.aload_n 0, 1) := by decide +kernel
theorem dX6_badRings_41 : decode cX6_badRings 41 = .ok (.getfield 40, 3) := by decide +kernel
theorem dX6_badRings_44 : decode cX6_badRings 44 = .ok (.iload_n 1, 1) := by decide +kernel
theorem dX6_badRings_45 : decode cX6_badRings 45 = .ok (.invokevirtual 201, 3) := by decide +kernel
theorem dX6_badRings_48 : decode cX6_badRings 48 = .ok (.ireturn, 1) := by decide +kernel
theorem dX6_badRings_49 : decode cX6_badRings 49 = .ok (.aload_n 0, 1) := by decide +kernel
theorem dX6_badRings_50 : decode cX6_badRings 50 = .ok (.getfield 40, 3) := by decide +kernel
theorem dX6_badRings_53 : decode cX6_badRings 53 = .ok (.iload_n 1, 1) := by decide +kernel
theorem dX6_badRings_54 : decode cX6_badRings 54 = .ok (.invokevirtual 216, 3) := by decide +kernel
theorem dX6_badRings_57 : decode cX6_badRings 57 = .ok (.ireturn, 1) := by decide +kernel
theorem dX6_badRings_58 : decode cX6_badRings 58 = .ok (.aload_n 0, 1) := by decide +kernel
theorem dX6_badRings_59 : decode cX6_badRings 59 = .ok (.getfield 40, 3) := by decide +kernel
theorem dX6_badRings_62 : decode cX6_badRings 62 = .ok (.iload_n 1, 1) := by decide +kernel
theorem dX6_badRings_63 : decode cX6_badRings 63 = .ok (.invokevirtual 219, 3) := by decide +kernel
theorem dX6_badRings_66 : decode cX6_badRings 66 = .ok (.ireturn, 1) := by decide +kernel
theorem dX6_badRings_67 : decode cX6_badRings 67 = .ok (.bipush (-2), 2) := by decide +kernel
theorem dX6_badRings_69 : decode cX6_badRings 69 = .ok (.ireturn, 1) := by decide +kernel
set_option maxRecDepth 20000 in
theorem ggX6_pivots_X1_has : GoodIn wsX6_pivots wsX1_has := goodIn_r _ [11, 12, 95, 96, 97, 98] (by decide +kernel) (by decide +kernel)
set_option maxRecDepth 20000 in
theorem gX6_pivots_X1_has : GoodIn wsX6_pivots (wsV RX6 80 RX1 yX1_has wsX1_has) := goodIn_app (goodIn_of _ (by decide +kernel)) ggX6_pivots_X1_has
set_option maxRecDepth 20000 in
theorem ggX6_pivots_X6_winnerOf : GoodIn wsX6_pivots wsX6_winnerOf := goodIn_r _ [17, 6, 18, 19, 20, 16, 21, 3, 1, 2, 22, 23, 24, 10, 25, 12, 26, 27, 28, 29, 30, 31, 32, 33, 34, 35, 36, 37, 38, 39, 40, 41, 42, 43, 44, 45, 46, 47, 48, 49, 50, 51, 52, 53, 54, 55, 56, 57, 58, 59, 60, 61, 62, 63, 64, 65, 66, 67, 68, 69, 70, 71, 72, 73, 74, 75, 76, 77, 78, 79, 83, 84, 85, 86, 87, 88, 89, 90, 91, 92, 93, 94, 95, 96, 97, 98, 99, 100, 101] (by decide +kernel) (by decide +kernel)
set_option maxRecDepth 20000 in
theorem gX6_pivots_X6_winnerOf : GoodIn wsX6_pivots (wsV RX6 147 RX6 yX6_winnerOf wsX6_winnerOf) := goodIn_app (goodIn_of _ (by decide +kernel)) ggX6_pivots_X6_winnerOf
set_option maxRecDepth 20000 in
theorem ggX6_pivots_X1_become : GoodIn wsX6_pivots wsX1_become := goodIn_r _ [25, 12, 26, 27, 28, 29, 30, 31, 32, 95, 96, 97, 98] (by decide +kernel) (by decide +kernel)
set_option maxRecDepth 20000 in
theorem gX6_pivots_X1_become : GoodIn wsX6_pivots (wsV RX6 119 RX1 yX1_become wsX1_become) := goodIn_app (goodIn_of _ (by decide +kernel)) ggX6_pivots_X1_become
set_option maxRecDepth 20000 in
theorem ggX6_pivots_X3_find : GoodIn wsX6_pivots wsX3_find := goodIn_r _ [41, 42, 43, 44, 45, 46, 47, 48, 49, 50, 40, 51, 52, 53, 54, 55, 56, 57, 58, 59, 60, 61, 62, 63, 64, 65, 66, 16, 67, 68, 69, 70, 71, 99, 100, 101, 95, 96, 97, 98] (by decide +kernel) (by decide +kernel)
set_option maxRecDepth 20000 in
theorem gX6_pivots_X3_find : GoodIn wsX6_pivots (wsV RX6 222 RX3 yX3_find wsX3_find) := goodIn_app (goodIn_of _ (by decide +kernel)) ggX6_pivots_X3_find
set_option maxRecDepth 20000 in
theorem ggX6_pivots_X3_winner : GoodIn wsX6_pivots wsX3_winner := goodIn_r _ [75, 76, 77, 78, 40, 79, 44, 57, 99, 100, 101] (by decide +kernel) (by decide +kernel)
set_option maxRecDepth 20000 in
theorem gX6_pivots_X3_winner : GoodIn wsX6_pivots (wsV RX6 225 RX3 yX3_winner wsX3_winner) := goodIn_app (goodIn_of _ (by decide +kernel)) ggX6_pivots_X3_winner
set_option maxRecDepth 20000 in
theorem ggX6_pivots_X6_bit : GoodIn wsX6_pivots wsX6_bit := goodIn_r _ [82] (by decide +kernel) (by decide +kernel)
set_option maxRecDepth 20000 in
theorem gX6_pivots_X6_bit : GoodIn wsX6_pivots (va_wsS RX6 105 yX6_bit wsX6_bit) := goodIn_app (goodIn_of _ (by decide +kernel)) ggX6_pivots_X6_bit
theorem dX6_pivots_0 : decode cX6_pivots 0 = .ok (.aload_n 0, 1) := by decide +kernel
theorem dX6_pivots_1 : decode cX6_pivots 1 = .ok (.getfield 12, 3) := by decide +kernel
theorem dX6_pivots_4 : decode cX6_pivots 4 = .ok (.getfield 65, 3) := by decide +kernel
theorem dX6_pivots_7 : decode cX6_pivots 7 = .ok (.iload_n 1, 1) := by decide +kernel
theorem dX6_pivots_8 : decode cX6_pivots 8 = .ok (.invokevirtual 80, 3) := by decide +kernel
theorem dX6_pivots_11 : decode cX6_pivots 11 = .ok (.ifCond .ne 5, 3) := by decide +kernel
theorem dX6_pivots_14 : decode cX6_pivots 14 = .ok (.iconst (-1), 1) := by decide +kernel
theorem dX6_pivots_15 : decode cX6_pivots 15 = .ok (.ireturn, 1) := by decide +kernel
theorem dX6_pivots_16 : decode cX6_pivots 16 = .ok (.aload_n 0, 1) := by decide +kernel
theorem dX6_pivots_17 : decode cX6_pivots 17 = .ok (.iload_n 1, 1) := by decide +kernel
theorem dX6_pivots_18 : decode cX6_pivots 18 = .ok (.invokevirtual 147, 3) := by decide +kernel
theorem dX6_pivots_21 : decode cX6_pivots 21 = .ok (.istore_n 2, 1) := by decide +kernel
theorem dX6_pivots_22 : decode cX6_pivots 22 = .ok (.iconst 0, 1) := by decide +kernel
theorem dX6_pivots_23 : decode cX6_pivots 23 = .ok (.istore_n 3, 1) := by decide +kernel
theorem dX6_pivots_24 : decode cX6_pivots 24 = .ok (.aload_n 0, 1) := by decide +kernel
theorem dX6_pivots_25 : decode cX6_pivots 25 = .ok (.getfield 40, 3) := by decide +kernel
theorem dX6_pivots_28 : decode cX6_pivots 28 = .ok (.aload_n 0, 1) := by decide +kernel
theorem dX6_pivots_29 : decode cX6_pivots 29 = .ok (.getfield 12, 3) := by decide +kernel
theorem dX6_pivots_32 : decode cX6_pivots 32 = .ok (.getfield 65, 3) := by decide +kernel
theorem dX6_pivots_35 : decode cX6_pivots 35 = .ok (.invokevirtual 119, 3) := by decide +kernel
theorem dX6_pivots_38 : decode cX6_pivots 38 = .ok (.iconst 0, 1) := by decide +kernel
theorem dX6_pivots_39 : decode cX6_pivots 39 = .ok (.istore 4, 2) := by decide +kernel
theorem dX6_pivots_41 : decode cX6_pivots 41 = .ok (.iload 4, 2) := by decide +kernel
theorem dX6_pivots_43 : decode cX6_pivots 43 = .ok (.aload_n 0, 1) := by decide +kernel
theorem dX6_pivots_44 : decode cX6_pivots 44 = .ok (.getfield 12, 3) := by decide +kernel
theorem dX6_pivots_47 : decode cX6_pivots 47 = .ok (.getfield 65, 3) := by decide +kernel
theorem dX6_pivots_50 : decode cX6_pivots 50 = .ok (.getfield 68, 3) := by decide +kernel
theorem dX6_pivots_53 : decode cX6_pivots 53 = .ok (.if_icmp .ge 88, 3) := by decide +kernel
theorem dX6_pivots_56 : decode cX6_pivots 56 = .ok (.aload_n 0, 1) := by decide +kernel
theorem dX6_pivots_57 : decode cX6_pivots 57 = .ok (.getfield 40, 3) := by decide +kernel
theorem dX6_pivots_60 : decode cX6_pivots 60 = .ok (.getfield 83, 3) := by decide +kernel
theorem dX6_pivots_63 : decode cX6_pivots 63 = .ok (.iload 4, 2) := by decide +kernel
theorem dX6_pivots_65 : decode cX6_pivots 65 = .ok (.iconst 1, 1) := by decide +kernel
theorem dX6_pivots_66 : decode cX6_pivots 66 = .ok (.aload_n 0, 1) := by decide +kernel
theorem dX6_pivots_67 : decode cX6_pivots 67 = .ok (.getfield 12, 3) := by decide +kernel
theorem dX6_pivots_70 : decode cX6_pivots 70 = .ok (.getfield 65, 3) := by decide +kernel
theorem dX6_pivots_73 : decode cX6_pivots 73 = .ok (.getfield 83, 3) := by decide +kernel
theorem dX6_pivots_76 : decode cX6_pivots 76 = .ok (.iload 4, 2) := by decide +kernel
theorem dX6_pivots_78 : decode cX6_pivots 78 = .ok (.iaload, 1) := by decide +kernel
theorem dX6_pivots_79 : decode cX6_pivots 79 = .ok (.isub, 1) := by decide +kernel
theorem dX6_pivots_80 : decode cX6_pivots 80 = .ok (.iastore, 1) := by decide +kernel
theorem dX6_pivots_81 : decode cX6_pivots 81 = .ok (.aload_n 0, 1) := by decide +kernel
theorem dX6_pivots_82 : decode cX6_pivots 82 = .ok (.getfield 47, 3) := by decide +kernel
theorem dX6_pivots_85 : decode cX6_pivots 85 = .ok (.aload_n 0, 1) := by decide +kernel
theorem dX6_pivots_86 : decode cX6_pivots 86 = .ok (.getfield 40, 3) := by decide +kernel
theorem dX6_pivots_89 : decode cX6_pivots 89 = .ok (.invokevirtual 222, 3) := by decide +kernel
theorem dX6_pivots_92 : decode cX6_pivots 92 = .ok (.aload_n 0, 1) := by decide +kernel
theorem dX6_pivots_93 : decode cX6_pivots 93 = .ok (.getfield 47, 3) := by decide +kernel
theorem dX6_pivots_96 : decode cX6_pivots 96 = .ok (.iload_n 1, 1) := by decide +kernel
theorem dX6_pivots_97 : decode cX6_pivots 97 = .ok (.invokevirtual 225, 3) := by decide +kernel
theorem dX6_pivots_100 : decode cX6_pivots 100 = .ok (.iload_n 2, 1) := by decide +kernel
theorem dX6_pivots_101 : decode cX6_pivots 101 = .ok (.if_icmp .eq 11, 3) := by decide +kernel
theorem dX6_pivots_104 : decode cX6_pivots 104 = .ok (.iload_n 3, 1) := by decide +kernel
theorem dX6_pivots_105 : decode cX6_pivots 105 = .ok (.iload 4, 2) := by decide +kernel
theorem dX6_pivots_107 : decode cX6_pivots 107 = .ok (.invokestatic 105, 3) := by decide +kernel
theorem dX6_pivots_110 : decode cX6_pivots 110 = .ok (.ior, 1) := by decide +kernel
theorem dX6_pivots_111 : decode cX6_pivots 111 = .ok (.istore_n 3, 1) := by decide +kernel
theorem dX6_pivots_112 : decode cX6_pivots 112 = .ok (.aload_n 0, 1) := by decide +kernel
theorem dX6_pivots_113 : decode cX6_pivots 113 = .ok (.getfield 40, 3) := by decide +kernel
theorem dX6_pivots_116 : decode cX6_pivots 116 = .ok (.getfield 83, 3) := by decide +kernel
theorem dX6_pivots_119 : decode cX6_pivots 119 = .ok (.iload 4, 2) := by decide +kernel
theorem dX6_pivots_121 : decode cX6_pivots 121 = .ok (.aload_n 0, 1) := by decide +kernel
theorem dX6_pivots_122 : decode cX6_pivots 122 = .ok (.getfield 12, 3) := by decide +kernel
theorem dX6_pivots_125 : decode cX6_pivots 125 = .ok (.getfield 65, 3) := by decide +kernel
theorem dX6_pivots_128 : decode cX6_pivots 128 = .ok (.getfield 83, 3) := by decide +kernel
theorem dX6_pivots_131 : decode cX6_pivots 131 = .ok (.iload 4, 2) := by decide +kernel
theorem dX6_pivots_133 : decode cX6_pivots 133 = .ok (.iaload, 1) := by decide +kernel
theorem dX6_pivots_134 : decode cX6_pivots 134 = .ok (.iastore, 1) := by decide +kernel
theorem dX6_pivots_135 : decode cX6_pivots 135 = .ok (.iinc 4 1, 3) := by decide +kernel
theorem dX6_pivots_138 : decode cX6_pivots 138 = .ok (.goto (-97), 3) := by decide +kernel
theorem dX6_pivots_141 : decode cX6_pivots 141 = .ok (.iload_n 3, 1) := by decide +kernel
theorem dX6_pivots_142 : decode cX6_pivots 142 = .ok (.ireturn, 1) := by decide +kernel
set_option maxRecDepth 20000 in
theorem ggX6_weakArrows_X1_has : GoodIn wsX6_weakArrows wsX1_has := goodIn_r _ [11, 12, 100, 101, 102, 103] (by decide +kernel) (by decide +kernel)
set_option maxRecDepth 20000 in
theorem gX6_weakArrows_X1_has : GoodIn wsX6_weakArrows (wsV RX6 80 RX1 yX1_has wsX1_has) := goodIn_app (goodIn_of _ (by decide +kernel)) ggX6_weakArrows_X1_has
set_option maxRecDepth 20000 in
theorem ggX6_weakArrows_X6_winnerOf : GoodIn wsX6_weakArrows wsX6_winnerOf := goodIn_r _ [17, 6, 18, 19, 20, 16, 21, 3, 1, 2, 22, 23, 24, 10, 25, 12, 26, 27, 28, 29, 30, 31, 32, 33, 34, 35, 36, 37, 38, 39, 40, 41, 42, 43, 44, 45, 46, 47, 48, 49, 50, 51, 52, 53, 54, 55, 56, 57, 58, 59, 60, 61, 62, 63, 64, 65, 66, 67, 68, 69, 70, 71, 72, 73, 74, 75, 76, 77, 78, 79, 88, 89, 90, 91, 92, 93, 94, 95, 96, 97, 98, 99, 100, 101, 102, 103, 104, 105, 106] (by decide +kernel) (by decide +kernel)
set_option maxRecDepth 20000 in
theorem gX6_weakArrows_X6_winnerOf : GoodIn wsX6_weakArrows (wsV RX6 147 RX6 yX6_winnerOf wsX6_winnerOf) := goodIn_app (goodIn_of _ (by decide +kernel)) ggX6_weakArrows_X6_winnerOf
set_option maxRecDepth 20000 in
theorem ggX6_weakArrows_X1_become : GoodIn wsX6_weakArrows wsX1_become := goodIn_r _ [25, 12, 26, 27, 28, 29, 30, 31, 32, 100, 101, 102, 103] (by decide +kernel) (by decide +kernel)
set_option maxRecDepth 20000 in
theorem gX6_weakArrows_X1_become : GoodIn wsX6_weakArrows (wsV RX6 119 RX1 yX1_become wsX1_become) := goodIn_app (goodIn_of _ (by decide +kernel)) ggX6_weakArrows_X1_become
set_option maxRecDepth 20000 in
theorem ggX6_weakArrows_X1_leads : GoodIn wsX6_weakArrows wsX1_leads := goodIn_r _ [83, 32, 84, 8, 9, 10, 11, 12, 66, 16, 67, 100, 101, 102, 103] (by decide +kernel) (by decide +kernel)
set_option maxRecDepth 20000 in
theorem gX6_weakArrows_X1_leads : GoodIn wsX6_weakArrows (wsV RX6 98 RX1 yX1_leads wsX1_leads) := goodIn_app (goodIn_of _ (by decide +kernel)) ggX6_weakArrows_X1_leads
set_option maxRecDepth 20000 in
theorem ggX6_weakArrows_X6_bit : GoodIn wsX6_weakArrows wsX6_bit := goodIn_r _ [87] (by decide +kernel) (by decide +kernel)
set_option maxRecDepth 20000 in
theorem gX6_weakArrows_X6_bit : GoodIn wsX6_weakArrows (va_wsS RX6 105 yX6_bit wsX6_bit) := goodIn_app (goodIn_of _ (by decide +kernel)) ggX6_weakArrows_X6_bit
set_option maxRecDepth 20000 in
theorem ggX6_weakArrows_X3_find : GoodIn wsX6_weakArrows wsX3_find := goodIn_r _ [41, 42, 43, 44, 45, 46, 47, 48, 49, 50, 40, 51, 52, 53, 54, 55, 56, 57, 58, 59, 60, 61, 62, 63, 64, 65, 66, 16, 67, 68, 69, 70, 71, 104, 105, 106, 100, 101, 102, 103] (by decide +kernel) (by decide +kernel)
set_option maxRecDepth 20000 in
theorem gX6_weakArrows_X3_find : GoodIn wsX6_weakArrows (wsV RX6 222 RX3 yX3_find wsX3_find) := goodIn_app (goodIn_of _ (by decide +kernel)) ggX6_weakArrows_X3_find
set_option maxRecDepth 20000 in
theorem ggX6_weakArrows_X3_winner : GoodIn wsX6_weakArrows wsX3_winner := goodIn_r _ [75, 76, 77, 78, 40, 79, 44, 57, 104, 105, 106] (by decide +kernel) (by decide +kernel)
set_option maxRecDepth 20000 in
theorem gX6_weakArrows_X3_winner : GoodIn wsX6_weakArrows (wsV RX6 225 RX3 yX3_winner wsX3_winner) := goodIn_app (goodIn_of _ (by decide +kernel)) ggX6_weakArrows_X3_winner
theorem dX6_weakArrows_0 : decode cX6_weakArrows 0 = .ok (.aload_n 0, 1) := by decide +kernel
theorem dX6_weakArrows_1 : decode cX6_weakArrows 1 = .ok (.getfield 12, 3) := by decide +kernel
theorem dX6_weakArrows_4 : decode cX6_weakArrows 4 = .ok (.getfield 65, 3) := by decide +kernel
theorem dX6_weakArrows_7 : decode cX6_weakArrows 7 = .ok (.iload_n 1, 1) := by decide +kernel
theorem dX6_weakArrows_8 : decode cX6_weakArrows 8 = .ok (.invokevirtual 80, 3) := by decide +kernel
theorem dX6_weakArrows_11 : decode cX6_weakArrows 11 = .ok (.ifCond .ne 5, 3) := by decide +kernel
theorem dX6_weakArrows_14 : decode cX6_weakArrows 14 = .ok (.iconst (-1), 1) := by decide +kernel
theorem dX6_weakArrows_15 : decode cX6_weakArrows 15 = .ok (.ireturn, 1) := by decide +kernel
theorem dX6_weakArrows_16 : decode cX6_weakArrows 16 = .ok (.aload_n 0, 1) := by decide +kernel
theorem dX6_weakArrows_17 : decode cX6_weakArrows 17 = .ok (.iload_n 1, 1) := by decide +kernel
theorem dX6_weakArrows_18 : decode cX6_weakArrows 18 = .ok (.invokevirtual 147, 3) := by decide +kernel
theorem dX6_weakArrows_21 : decode cX6_weakArrows 21 = .ok (.istore_n 2, 1) := by decide +kernel
theorem dX6_weakArrows_22 : decode cX6_weakArrows 22 = .ok (.iconst 0, 1) := by decide +kernel
theorem dX6_weakArrows_23 : decode cX6_weakArrows 23 = .ok (.istore_n 3, 1) := by decide +kernel
theorem dX6_weakArrows_24 : decode cX6_weakArrows 24 = .ok (.aload_n 0, 1) := by decide +kernel
theorem dX6_weakArrows_25 : decode cX6_weakArrows 25 = .ok (.getfield 40, 3) := by decide +kernel
theorem dX6_weakArrows_28 : decode cX6_weakArrows 28 = .ok (.aload_n 0, 1) := by decide +kernel
theorem dX6_weakArrows_29 : decode cX6_weakArrows 29 = .ok (.getfield 12, 3) := by decide +kernel
theorem dX6_weakArrows_32 : decode cX6_weakArrows 32 = .ok (.getfield 65, 3) := by decide +kernel
theorem dX6_weakArrows_35 : decode cX6_weakArrows 35 = .ok (.invokevirtual 119, 3) := by decide +kernel
theorem dX6_weakArrows_38 : decode cX6_weakArrows 38 = .ok (.iconst 0, 1) := by decide +kernel
theorem dX6_weakArrows_39 : decode cX6_weakArrows 39 = .ok (.istore 4, 2) := by decide +kernel
theorem dX6_weakArrows_41 : decode cX6_weakArrows 41 = .ok (.iload 4, 2) := by decide +kernel
theorem dX6_weakArrows_43 : decode cX6_weakArrows 43 = .ok (.aload_n 0, 1) := by decide +kernel
theorem dX6_weakArrows_44 : decode cX6_weakArrows 44 = .ok (.getfield 12, 3) := by decide +kernel
theorem dX6_weakArrows_47 : decode cX6_weakArrows 47 = .ok (.getfield 65, 3) := by decide +kernel
theorem dX6_weakArrows_50 : decode cX6_weakArrows 50 = .ok (.getfield 68, 3) := by decide +kernel
theorem dX6_weakArrows_53 : decode cX6_weakArrows 53 = .ok (.if_icmp .ge 85, 3) := by decide +kernel
theorem dX6_weakArrows_56 : decode cX6_weakArrows 56 = .ok (.aload_n 0, 1) := by decide +kernel
theorem dX6_weakArrows_57 : decode cX6_weakArrows 57 = .ok (.getfield 12, 3) := by decide +kernel
theorem dX6_weakArrows_60 : decode cX6_weakArrows 60 = .ok (.getfield 65, 3) := by decide +kernel
theorem dX6_weakArrows_63 : decode cX6_weakArrows 63 = .ok (.iload_n 1, 1) := by decide +kernel
theorem dX6_weakArrows_64 : decode cX6_weakArrows 64 = .ok (.iload 4, 2) := by decide +kernel
theorem dX6_weakArrows_66 : decode cX6_weakArrows 66 = .ok (.invokevirtual 98, 3) := by decide +kernel
theorem dX6_weakArrows_69 : decode cX6_weakArrows 69 = .ok (.ifCond .eq 63, 3) := by decide +kernel
theorem dX6_weakArrows_72 : decode cX6_weakArrows 72 = .ok (.aload_n 0, 1) := by decide +kernel
theorem dX6_weakArrows_73 : decode cX6_weakArrows 73 = .ok (.getfield 40, 3) := by decide +kernel
theorem dX6_weakArrows_76 : decode cX6_weakArrows 76 = .ok (.getfield 102, 3) := by decide +kernel
theorem dX6_weakArrows_79 : decode cX6_weakArrows 79 = .ok (.iload_n 1, 1) := by decide +kernel
theorem dX6_weakArrows_80 : decode cX6_weakArrows 80 = .ok (.aload_n 0, 1) := by decide +kernel
theorem dX6_weakArrows_81 : decode cX6_weakArrows 81 = .ok (.getfield 12, 3) := by decide +kernel
theorem dX6_weakArrows_84 : decode cX6_weakArrows 84 = .ok (.getfield 65, 3) := by decide +kernel
theorem dX6_weakArrows_87 : decode cX6_weakArrows 87 = .ok (.getfield 102, 3) := by decide +kernel
theorem dX6_weakArrows_90 : decode cX6_weakArrows 90 = .ok (.iload_n 1, 1) := by decide +kernel
theorem dX6_weakArrows_91 : decode cX6_weakArrows 91 = .ok (.iaload, 1) := by decide +kernel
theorem dX6_weakArrows_92 : decode cX6_weakArrows 92 = .ok (.iload 4, 2) := by decide +kernel
theorem dX6_weakArrows_94 : decode cX6_weakArrows 94 = .ok (.invokestatic 105, 3) := by decide +kernel
theorem dX6_weakArrows_97 : decode cX6_weakArrows 97 = .ok (.iconst (-1), 1) := by decide +kernel
theorem dX6_weakArrows_98 : decode cX6_weakArrows 98 = .ok (.ixor, 1) := by decide +kernel
theorem dX6_weakArrows_99 : decode cX6_weakArrows 99 = .ok (.iand, 1) := by decide +kernel
theorem dX6_weakArrows_100 : decode cX6_weakArrows 100 = .ok (.iastore, 1) := by decide +kernel
theorem dX6_weakArrows_101 : decode cX6_weakArrows 101 = .ok (.aload_n 0, 1) := by decide +kernel
theorem dX6_weakArrows_102 : decode cX6_weakArrows 102 = .ok (.getfield 47, 3) := by decide +kernel
theorem dX6_weakArrows_105 : decode cX6_weakArrows 105 = .ok (.aload_n 0, 1) := by decide +kernel
theorem dX6_weakArrows_106 : decode cX6_weakArrows 106 = .ok (.getfield 40, 3) := by decide +kernel
theorem dX6_weakArrows_109 : decode cX6_weakArrows 109 = .ok (.invokevirtual 222, 3) := by decide +kernel
theorem dX6_weakArrows_112 : decode cX6_weakArrows 112 = .ok (.aload_n 0, 1) := by decide +kernel
theorem dX6_weakArrows_113 : decode cX6_weakArrows 113 = .ok (.getfield 47, 3) := by decide +kernel
theorem dX6_weakArrows_116 : decode cX6_weakArrows 116 = .ok (.iload_n 1, 1) := by decide +kernel
theorem dX6_weakArrows_117 : decode cX6_weakArrows 117 = .ok (.invokevirtual 225, 3) := by decide +kernel
theorem dX6_weakArrows_120 : decode cX6_weakArrows 120 = .ok (.iload_n 2, 1) := by decide +kernel
theorem dX6_weakArrows_121 : decode cX6_weakArrows 121 = .ok (.if_icmp .eq 11, 3) := by decide +kernel
theorem dX6_weakArrows_124 : decode cX6_weakArrows 124 = .ok (.iload_n 3, 1) := by decide +kernel
theorem dX6_weakArrows_125 : decode cX6_weakArrows 125 = .ok (.iload 4, 2) := by decide +kernel
theorem dX6_weakArrows_127 : decode cX6_weakArrows 127 = .ok (.invokestatic 105, 3) := by decide +kernel
theorem dX6_weakArrows_130 : decode cX6_weakArrows 130 = .ok (.ior, 1) := by decide +kernel
theorem dX6_weakArrows_131 : decode cX6_weakArrows 131 = .ok (.istore_n 3, 1) := by decide +kernel
theorem dX6_weakArrows_132 : decode cX6_weakArrows 132 = .ok (.iinc 4 1, 3) := by decide +kernel
theorem dX6_weakArrows_135 : decode cX6_weakArrows 135 = .ok (.goto (-94), 3) := by decide +kernel
theorem dX6_weakArrows_138 : decode cX6_weakArrows 138 = .ok (.iload_n 3, 1) := by decide +kernel
theorem dX6_weakArrows_139 : decode cX6_weakArrows 139 = .ok (.ireturn, 1) := by decide +kernel
set_option maxRecDepth 20000 in
theorem ggX6_token_X1_has : GoodIn wsX6_token wsX1_has := goodIn_r _ [11, 12, 140, 141, 142, 143] (by decide +kernel) (by decide +kernel)
set_option maxRecDepth 20000 in
theorem gX6_token_X1_has : GoodIn wsX6_token (wsV RX6 80 RX1 yX1_has wsX1_has) := goodIn_app (goodIn_of _ (by decide +kernel)) ggX6_token_X1_has
set_option maxRecDepth 20000 in
theorem ggX6_token_X6_findWays : GoodIn wsX6_token wsX6_findWays := goodIn_r _ [17, 1, 2, 18, 19, 4, 20, 21, 22, 23, 16, 24, 25, 26, 27, 28, 29, 10, 30, 12, 31, 32, 33, 34, 35, 36, 37, 38, 39, 40, 41, 42, 43, 44, 45, 46, 47, 48, 49, 50, 51, 52, 53, 54, 55, 56, 57, 58, 59, 60, 61, 62, 63, 64, 65, 66, 67, 68, 69, 70, 71, 72, 73, 74, 75, 76, 77, 78, 79, 80, 81, 82, 83, 84, 85, 86, 87, 88, 89, 90, 8, 9, 11, 91, 92, 93, 94, 95, 124, 125, 126, 127, 128, 129, 130, 131, 132, 133, 134, 135, 140, 141, 142, 143, 136, 137, 138, 139, 144, 145, 146] (by decide +kernel) (by decide +kernel)
set_option maxRecDepth 20000 in
theorem gX6_token_X6_findWays : GoodIn wsX6_token (wsV RX6 150 RX6 yX6_findWays wsX6_findWays) := goodIn_app (goodIn_of _ (by decide +kernel)) ggX6_token_X6_findWays
set_option maxRecDepth 20000 in
theorem ggX6_token_X5_follow : GoodIn wsX6_token wsX5_follow := goodIn_r _ [100, 101, 102, 103, 104, 16, 105, 106, 107, 108, 99, 109, 110, 71, 72, 136, 137, 138, 139] (by decide +kernel) (by decide +kernel)
set_option maxRecDepth 20000 in
theorem gX6_token_X5_follow : GoodIn wsX6_token (wsV RX6 228 RX5 yX5_follow wsX5_follow) := goodIn_app (goodIn_of _ (by decide +kernel)) ggX6_token_X5_follow
set_option maxRecDepth 20000 in
theorem ggX6_token_X5_leastColourAgain : GoodIn wsX6_token wsX5_leastColourAgain := goodIn_r _ [114, 115, 103, 116, 65, 66, 67, 106, 107, 108, 99, 109, 110, 117, 8, 9, 10, 11, 12, 140, 141, 142, 143, 136, 137, 138, 139] (by decide +kernel) (by decide +kernel)
set_option maxRecDepth 20000 in
theorem gX6_token_X5_leastColourAgain : GoodIn wsX6_token (wsV RX6 237 RX5 yX5_leastColourAgain wsX5_leastColourAgain) := goodIn_app (goodIn_of _ (by decide +kernel)) ggX6_token_X5_leastColourAgain
set_option maxRecDepth 20000 in
theorem ggX6_token_X5_winner : GoodIn wsX6_token wsX5_winner := goodIn_r _ [121, 102, 122, 103, 123, 112, 113, 99, 114, 115, 116, 65, 66, 67, 106, 107, 108, 109, 110, 117, 8, 9, 10, 11, 12, 136, 137, 138, 139, 140, 141, 142, 143] (by decide +kernel) (by decide +kernel)
set_option maxRecDepth 20000 in
theorem gX6_token_X5_winner : GoodIn wsX6_token (wsV RX6 241 RX5 yX5_winner wsX5_winner) := goodIn_app (goodIn_of _ (by decide +kernel)) ggX6_token_X5_winner
theorem dX6_token_0 : decode cX6_token 0 = .ok (.iload_n 1, 1) := by decide +kernel
theorem dX6_token_1 : decode cX6_token 1 = .ok (.ifCond .lt 8, 3) := by decide +kernel
theorem dX6_token_4 : decode cX6_token 4 = .ok (.iload_n 1, 1) := by decide +kernel
theorem dX6_token_5 : decode cX6_token 5 = .ok (.iconst 4, 1) := by decide +kernel
theorem dX6_token_6 : decode cX6_token 6 = .ok (.if_icmp .le 6, 3) := by decide +kernel
theorem dX6_token_9 : decode cX6_token 9 = .ok (.bipush (-2), 2) := by decide +kernel
theorem dX6_token_11 : decode cX6_token 11 = .ok (.ireturn, 1) := by decide +kernel
theorem dX6_token_12 : decode cX6_token 12 = .ok (.aload_n 0, 1) := by decide +kernel
theorem dX6_token_13 : decode cX6_token 13 = .ok (.getfield 12, 3) := by decide +kernel
theorem dX6_token_16 : decode cX6_token 16 = .ok (.getfield 65, 3) := by decide +kernel
theorem dX6_token_19 : decode cX6_token 19 = .ok (.aload_n 0, 1) := by decide +kernel
theorem dX6_token_20 : decode cX6_token 20 = .ok (.getfield 12, 3) := by decide +kernel
theorem dX6_token_23 : decode cX6_token 23 = .ok (.getfield 141, 3) := by decide +kernel
theorem dX6_token_26 : decode cX6_token 26 = .ok (.invokevirtual 80, 3) := by decide +kernel
theorem dX6_token_29 : decode cX6_token 29 = .ok (.ifCond .ne 6, 3) := by decide +kernel
theorem dX6_token_32 : decode cX6_token 32 = .ok (.bipush (-4), 2) := by decide +kernel
theorem dX6_token_34 : decode cX6_token 34 = .ok (.ireturn, 1) := by decide +kernel
theorem dX6_token_35 : decode cX6_token 35 = .ok (.aload_n 0, 1) := by decide +kernel
theorem dX6_token_36 : decode cX6_token 36 = .ok (.invokevirtual 150, 3) := by decide +kernel
theorem dX6_token_39 : decode cX6_token 39 = .ok (.aload_n 0, 1) := by decide +kernel
theorem dX6_token_40 : decode cX6_token 40 = .ok (.getfield 54, 3) := by decide +kernel
theorem dX6_token_43 : decode cX6_token 43 = .ok (.aload_n 0, 1) := by decide +kernel
theorem dX6_token_44 : decode cX6_token 44 = .ok (.getfield 12, 3) := by decide +kernel
theorem dX6_token_47 : decode cX6_token 47 = .ok (.getfield 141, 3) := by decide +kernel
theorem dX6_token_50 : decode cX6_token 50 = .ok (.invokevirtual 228, 3) := by decide +kernel
theorem dX6_token_53 : decode cX6_token 53 = .ok (.iload_n 1, 1) := by decide +kernel
theorem dX6_token_54 : decode cX6_token 54 = .ok (.tableswitch 114 0 3 #[30, 38, 61, 91], 30) := by decide +kernel
theorem dX6_token_84 : decode cX6_token 84 = .ok (.aload_n 0, 1) := by decide +kernel
theorem dX6_token_85 : decode cX6_token 85 = .ok (.getfield 12, 3) := by decide +kernel
theorem dX6_token_88 : decode cX6_token 88 = .ok (.getfield 141, 3) := by decide +kernel
theorem dX6_token_91 : decode cX6_token 91 = .ok (.ireturn, 1) := by decide +kernel
theorem dX6_token_92 : decode cX6_token 92 = .ok (.aload_n 0, 1) := by decide +kernel
theorem dX6_token_93 : decode cX6_token 93 = .ok (.getfield 54, 3) := by decide +kernel
theorem dX6_token_96 : decode cX6_token 96 = .ok (.getfield 231, 3) := by decide +kernel
theorem dX6_token_99 : decode cX6_token 99 = .ok (.ifCond .eq 8, 3) := by decide +kernel
theorem dX6_token_102 : decode cX6_token 102 = .ok (.bipush (-5), 2) := by decide +kernel
theorem dX6_token_104 : decode cX6_token 104 = .ok (.goto 10, 3) := by decide +kernel
theorem dX6_token_107 : decode cX6_token 107 = .ok (.aload_n 0, 1) := by decide +kernel
theorem dX6_token_108 : decode cX6_token 108 = .ok (.getfield 54, 3) := by decide +kernel
theorem dX6_token_111 : decode cX6_token 111 = .ok (.getfield 234, 3) := by decide +kernel
theorem dX6_token_114 : decode cX6_token 114 = .ok (.ireturn, 1) := by decide +kernel
theorem dX6_token_115 : decode cX6_token 115 = .ok (.aload_n 0, 1) := by decide +kernel
theorem dX6_token_116 : decode cX6_token 116 = .ok (.getfield 54, 3) := by decide +kernel
theorem dX6_token_119 : decode cX6_token 119 = .ok (.getfield 231, 3) := by decide +kernel
theorem dX6_token_122 : decode cX6_token 122 = .ok (.ifCond .eq 20, 3) := by decide +kernel
theorem dX6_token_125 : decode cX6_token 125 = .ok (.aload_n 0, 1) := by decide +kernel
theorem dX6_token_126 : decode cX6_token 126 = .ok (.getfield 54, 3) := by decide +kernel
theorem dX6_token_129 : decode cX6_token 129 = .ok (.aload_n 0, 1) := by decide +kernel
theorem dX6_token_130 : decode cX6_token 130 = .ok (.getfield 12, 3) := by decide +kernel
theorem dX6_token_133 : decode cX6_token 133 = .ok (.getfield 65, 3) := by decide +kernel
theorem dX6_token_136 : decode cX6_token 136 = .ok (.invokevirtual 237, 3) := by decide +kernel
theorem dX6_token_139 : decode cX6_token 139 = .ok (.goto 5, 3) := by decide +kernel
theorem dX6_token_142 : decode cX6_token 142 = .ok (.bipush (-5), 2) := by decide +kernel
theorem dX6_token_144 : decode cX6_token 144 = .ok (.ireturn, 1) := by decide +kernel
theorem dX6_token_145 : decode cX6_token 145 = .ok (.aload_n 0, 1) := by decide +kernel
theorem dX6_token_146 : decode cX6_token 146 = .ok (.getfield 54, 3) := by decide +kernel
theorem dX6_token_149 : decode cX6_token 149 = .ok (.getfield 231, 3) := by decide +kernel
theorem dX6_token_152 : decode cX6_token 152 = .ok (.ifCond .eq 13, 3) := by decide +kernel
theorem dX6_token_155 : decode cX6_token 155 = .ok (.aload_n 0, 1) := by decide +kernel
theorem dX6_token_156 : decode cX6_token 156 = .ok (.getfield 54, 3) := by decide +kernel
theorem dX6_token_159 : decode cX6_token 159 = .ok (.getfield 234, 3) := by decide +kernel
theorem dX6_token_162 : decode cX6_token 162 = .ok (.goto 5, 3) := by decide +kernel
theorem dX6_token_165 : decode cX6_token 165 = .ok (.bipush (-5), 2) := by decide +kernel
theorem dX6_token_167 : decode cX6_token 167 = .ok (.ireturn, 1) := by decide +kernel
theorem dX6_token_168 : decode cX6_token 168 = .ok (.aload_n 0, 1) := by decide +kernel
theorem dX6_token_169 : decode cX6_token 169 = .ok (.getfield 54, 3) := by decide +kernel
theorem dX6_token_172 : decode cX6_token 172 = .ok (.aload_n 0, 1) := by decide +kernel
theorem dX6_token_173 : decode cX6_token 173 = .ok (.getfield 12, 3) := by decide +kernel
theorem dX6_token_176 : decode cX6_token 176 = .ok (.getfield 65, 3) := by decide +kernel
theorem dX6_token_179 : decode cX6_token 179 = .ok (.invokevirtual 241, 3) := by decide +kernel
theorem dX6_token_182 : decode cX6_token 182 = .ok (.ireturn, 1) := by decide +kernel
set_option maxRecDepth 20000 in
theorem ggX6_count_X1_arrowCount : GoodIn wsX6_count wsX1_arrowCount := goodIn_r _ [13, 14, 15, 16, 17, 18, 19, 20, 21, 22, 61, 62, 63, 64] (by decide +kernel) (by decide +kernel)
set_option maxRecDepth 20000 in
theorem gX6_count_X1_arrowCount : GoodIn wsX6_count (wsV RX6 94 RX1 yX1_arrowCount wsX1_arrowCount) := goodIn_app (goodIn_of _ (by decide +kernel)) ggX6_count_X1_arrowCount
set_option maxRecDepth 20000 in
theorem ggX6_count_X1_owned : GoodIn wsX6_count wsX1_owned := goodIn_r _ [26, 14, 27, 28, 29, 30, 61, 62, 63, 64] (by decide +kernel) (by decide +kernel)
set_option maxRecDepth 20000 in
theorem gX6_count_X1_owned : GoodIn wsX6_count (wsV RX6 204 RX1 yX1_owned wsX1_owned) := goodIn_app (goodIn_of _ (by decide +kernel)) ggX6_count_X1_owned
set_option maxRecDepth 20000 in
theorem ggX6_count_J6_bitCount_0f7a4 : GoodIn wsX6_count wsJ6_bitCount_0f7a4 := goodIn_r _ [19, 20, 21, 22] (by decide +kernel) (by decide +kernel)
set_option maxRecDepth 20000 in
theorem gX6_count_J6_bitCount_0f7a4 : GoodIn wsX6_count (va_wsS RX6 108 yJ6_bitCount_0f7a4 wsJ6_bitCount_0f7a4) := goodIn_app (goodIn_of _ (by decide +kernel)) ggX6_count_J6_bitCount_0f7a4
set_option maxRecDepth 20000 in
theorem ggX6_count_X1_withoutArrows : GoodIn wsX6_count wsX1_withoutArrows := goodIn_r _ [35, 14, 15, 28, 29, 30, 61, 62, 63, 64] (by decide +kernel) (by decide +kernel)
set_option maxRecDepth 20000 in
theorem gX6_count_X1_withoutArrows : GoodIn wsX6_count (wsV RX6 207 RX1 yX1_withoutArrows wsX1_withoutArrows) := goodIn_app (goodIn_of _ (by decide +kernel)) ggX6_count_X1_withoutArrows
set_option maxRecDepth 20000 in
theorem ggX6_count_X1_leastColour : GoodIn wsX6_count wsX1_leastColour := goodIn_r _ [39, 14, 40, 61, 62, 63, 64] (by decide +kernel) (by decide +kernel)
set_option maxRecDepth 20000 in
theorem gX6_count_X1_leastColour : GoodIn wsX6_count (wsV RX6 243 RX1 yX1_leastColour wsX1_leastColour) := goodIn_app (goodIn_of _ (by decide +kernel)) ggX6_count_X1_leastColour
set_option maxRecDepth 20000 in
theorem ggX6_count_X4_choiceCount : GoodIn wsX6_count wsX4_choiceCount := goodIn_r _ [45, 46, 47, 48, 57, 58, 59, 60, 61, 62, 63, 64] (by decide +kernel) (by decide +kernel)
set_option maxRecDepth 20000 in
theorem gX6_count_X4_choiceCount : GoodIn wsX6_count (wsV RX6 246 RX4 yX4_choiceCount wsX4_choiceCount) := goodIn_app (goodIn_of _ (by decide +kernel)) ggX6_count_X4_choiceCount
theorem dX6_count_0 : decode cX6_count 0 = .ok (.iload_n 1, 1) := by decide +kernel
theorem dX6_count_1 : decode cX6_count 1 = .ok (.tableswitch 142 0 8 #[51, 62, 73, 88, 99, 110, 118, 126, 134], 51) := by decide +kernel
theorem dX6_count_52 : decode cX6_count 52 = .ok (.aload_n 0, 1) := by decide +kernel
theorem dX6_count_53 : decode cX6_count 53 = .ok (.getfield 12, 3) := by decide +kernel
theorem dX6_count_56 : decode cX6_count 56 = .ok (.getfield 65, 3) := by decide +kernel
theorem dX6_count_59 : decode cX6_count 59 = .ok (.getfield 68, 3) := by decide +kernel
theorem dX6_count_62 : decode cX6_count 62 = .ok (.ireturn, 1) := by decide +kernel
theorem dX6_count_63 : decode cX6_count 63 = .ok (.aload_n 0, 1) := by decide +kernel
theorem dX6_count_64 : decode cX6_count 64 = .ok (.getfield 12, 3) := by decide +kernel
theorem dX6_count_67 : decode cX6_count 67 = .ok (.getfield 65, 3) := by decide +kernel
theorem dX6_count_70 : decode cX6_count 70 = .ok (.invokevirtual 94, 3) := by decide +kernel
theorem dX6_count_73 : decode cX6_count 73 = .ok (.ireturn, 1) := by decide +kernel
theorem dX6_count_74 : decode cX6_count 74 = .ok (.aload_n 0, 1) := by decide +kernel
theorem dX6_count_75 : decode cX6_count 75 = .ok (.getfield 12, 3) := by decide +kernel
theorem dX6_count_78 : decode cX6_count 78 = .ok (.getfield 65, 3) := by decide +kernel
theorem dX6_count_81 : decode cX6_count 81 = .ok (.iconst 0, 1) := by decide +kernel
theorem dX6_count_82 : decode cX6_count 82 = .ok (.invokevirtual 204, 3) := by decide +kernel
theorem dX6_count_85 : decode cX6_count 85 = .ok (.invokestatic 108, 3) := by decide +kernel
theorem dX6_count_88 : decode cX6_count 88 = .ok (.ireturn, 1) := by decide +kernel
theorem dX6_count_89 : decode cX6_count 89 = .ok (.aload_n 0, 1) := by decide +kernel
theorem dX6_count_90 : decode cX6_count 90 = .ok (.getfield 12, 3) := by decide +kernel
theorem dX6_count_93 : decode cX6_count 93 = .ok (.getfield 65, 3) := by decide +kernel
theorem dX6_count_96 : decode cX6_count 96 = .ok (.invokevirtual 207, 3) := by decide +kernel
theorem dX6_count_99 : decode cX6_count 99 = .ok (.ireturn, 1) := by decide +kernel
theorem dX6_count_100 : decode cX6_count 100 = .ok (.aload_n 0, 1) := by decide +kernel
theorem dX6_count_101 : decode cX6_count 101 = .ok (.getfield 12, 3) := by decide +kernel
theorem dX6_count_104 : decode cX6_count 104 = .ok (.getfield 65, 3) := by decide +kernel
theorem dX6_count_107 : decode cX6_count 107 = .ok (.invokevirtual 243, 3) := by decide +kernel
theorem dX6_count_110 : decode cX6_count 110 = .ok (.ireturn, 1) := by decide +kernel
theorem dX6_count_111 : decode cX6_count 111 = .ok (.aload_n 0, 1) := by decide +kernel
theorem dX6_count_112 : decode cX6_count 112 = .ok (.getfield 12, 3) := by decide +kernel
theorem dX6_count_115 : decode cX6_count 115 = .ok (.invokevirtual 246, 3) := by decide +kernel
theorem dX6_count_118 : decode cX6_count 118 = .ok (.ireturn, 1) := by decide +kernel
theorem dX6_count_119 : decode cX6_count 119 = .ok (.aload_n 0, 1) := by decide +kernel
theorem dX6_count_120 : decode cX6_count 120 = .ok (.getfield 12, 3) := by decide +kernel
theorem dX6_count_123 : decode cX6_count 123 = .ok (.getfield 144, 3) := by decide +kernel
theorem dX6_count_126 : decode cX6_count 126 = .ok (.ireturn, 1) := by decide +kernel
theorem dX6_count_127 : decode cX6_count 127 = .ok (.aload_n 0, 1) := by decide +kernel
theorem dX6_count_128 : decode cX6_count 128 = .ok (.getfield 19, 3) := by decide +kernel
theorem dX6_count_131 : decode cX6_count 131 = .ok (.getfield 166, 3) := by decide +kernel
theorem dX6_count_134 : decode cX6_count 134 = .ok (.ireturn, 1) := by decide +kernel
theorem dX6_count_135 : decode cX6_count 135 = .ok (.aload_n 0, 1) := by decide +kernel
theorem dX6_count_136 : decode cX6_count 136 = .ok (.getfield 33, 3) := by decide +kernel
theorem dX6_count_139 : decode cX6_count 139 = .ok (.getfield 159, 3) := by decide +kernel
theorem dX6_count_142 : decode cX6_count 142 = .ok (.ireturn, 1) := by decide +kernel
theorem dX6_count_143 : decode cX6_count 143 = .ok (.bipush (-2), 2) := by decide +kernel
theorem dX6_count_145 : decode cX6_count 145 = .ok (.ireturn, 1) := by decide +kernel
theorem dX6_isPlayer_0 : decode cX6_isPlayer 0 = .ok (.iload_n 0, 1) := by decide +kernel
theorem dX6_isPlayer_1 : decode cX6_isPlayer 1 = .ok (.ifCond .eq 8, 3) := by decide +kernel
theorem dX6_isPlayer_4 : decode cX6_isPlayer 4 = .ok (.iload_n 0, 1) := by decide +kernel
theorem dX6_isPlayer_5 : decode cX6_isPlayer 5 = .ok (.iconst 1, 1) := by decide +kernel
theorem dX6_isPlayer_6 : decode cX6_isPlayer 6 = .ok (.if_icmp .ne 7, 3) := by decide +kernel
theorem dX6_isPlayer_9 : decode cX6_isPlayer 9 = .ok (.iconst 1, 1) := by decide +kernel
theorem dX6_isPlayer_10 : decode cX6_isPlayer 10 = .ok (.goto 4, 3) := by decide +kernel
theorem dX6_isPlayer_13 : decode cX6_isPlayer 13 = .ok (.iconst 0, 1) := by decide +kernel
theorem dX6_isPlayer_14 : decode cX6_isPlayer 14 = .ok (.ireturn, 1) := by decide +kernel
theorem dX6_isColour_0 : decode cX6_isColour 0 = .ok (.iload_n 0, 1) := by decide +kernel
theorem dX6_isColour_1 : decode cX6_isColour 1 = .ok (.ifCond .lt 13, 3) := by decide +kernel
theorem dX6_isColour_4 : decode cX6_isColour 4 = .ok (.iload_n 0, 1) := by decide +kernel
theorem dX6_isColour_5 : decode cX6_isColour 5 = .ok (.bipush 7, 2) := by decide +kernel
theorem dX6_isColour_7 : decode cX6_isColour 7 = .ok (.if_icmp .gt 7, 3) := by decide +kernel
theorem dX6_isColour_10 : decode cX6_isColour 10 = .ok (.iconst 1, 1) := by decide +kernel
theorem dX6_isColour_11 : decode cX6_isColour 11 = .ok (.goto 4, 3) := by decide +kernel
theorem dX6_isColour_14 : decode cX6_isColour 14 = .ok (.iconst 0, 1) := by decide +kernel
theorem dX6_isColour_15 : decode cX6_isColour 15 = .ok (.ireturn, 1) := by decide +kernel
theorem dX6_bit_0 : decode cX6_bit 0 = .ok (.iconst 1, 1) := by decide +kernel
theorem dX6_bit_1 : decode cX6_bit 1 = .ok (.iload_n 0, 1) := by decide +kernel
theorem dX6_bit_2 : decode cX6_bit 2 = .ok (.ishl, 1) := by decide +kernel
theorem dX6_bit_3 : decode cX6_bit 3 = .ok (.ireturn, 1) := by decide +kernel
theorem dX6_contains_0 : decode cX6_contains 0 = .ok (.iload_n 0, 1) := by decide +kernel
theorem dX6_contains_1 : decode cX6_contains 1 = .ok (.iload_n 1, 1) := by decide +kernel
theorem dX6_contains_2 : decode cX6_contains 2 = .ok (.ishr, 1) := by decide +kernel
theorem dX6_contains_3 : decode cX6_contains 3 = .ok (.iconst 1, 1) := by decide +kernel
theorem dX6_contains_4 : decode cX6_contains 4 = .ok (.iand, 1) := by decide +kernel
theorem dX6_contains_5 : decode cX6_contains 5 = .ok (.iconst 1, 1) := by decide +kernel
theorem dX6_contains_6 : decode cX6_contains 6 = .ok (.if_icmp .ne 7, 3) := by decide +kernel
theorem dX6_contains_9 : decode cX6_contains 9 = .ok (.iconst 1, 1) := by decide +kernel
theorem dX6_contains_10 : decode cX6_contains 10 = .ok (.goto 4, 3) := by decide +kernel
theorem dX6_contains_13 : decode cX6_contains 13 = .ok (.iconst 0, 1) := by decide +kernel
theorem dX6_contains_14 : decode cX6_contains 14 = .ok (.ireturn, 1) := by decide +kernel
theorem dX6_placeOrNone_0 : decode cX6_placeOrNone 0 = .ok (.iload_n 0, 1) := by decide +kernel
theorem dX6_placeOrNone_1 : decode cX6_placeOrNone 1 = .ok (.bipush 14, 2) := by decide +kernel
theorem dX6_placeOrNone_3 : decode cX6_placeOrNone 3 = .ok (.if_icmp .ne 8, 3) := by decide +kernel
theorem dX6_placeOrNone_6 : decode cX6_placeOrNone 6 = .ok (.bipush (-5), 2) := by decide +kernel
theorem dX6_placeOrNone_8 : decode cX6_placeOrNone 8 = .ok (.goto 4, 3) := by decide +kernel
theorem dX6_placeOrNone_11 : decode cX6_placeOrNone 11 = .ok (.iload_n 0, 1) := by decide +kernel
theorem dX6_placeOrNone_12 : decode cX6_placeOrNone 12 = .ok (.ireturn, 1) := by decide +kernel
set_option maxRecDepth 20000 in
theorem ggX6_solveFor_X1_become : GoodIn wsX6_solveFor wsX1_become := goodIn_r _ [9, 10, 11, 12, 13, 14, 15, 16, 17, 70, 71, 72, 73] (by decide +kernel) (by decide +kernel)
set_option maxRecDepth 20000 in
theorem gX6_solveFor_X1_become : GoodIn wsX6_solveFor (wsV RX6 119 RX1 yX1_become wsX1_become) := goodIn_app (goodIn_of _ (by decide +kernel)) ggX6_solveFor_X1_become
set_option maxRecDepth 20000 in
theorem ggX6_solveFor_X1_exchange : GoodIn wsX6_solveFor wsX1_exchange := goodIn_r _ [21, 10, 11, 16, 70, 71, 72, 73] (by decide +kernel) (by decide +kernel)
set_option maxRecDepth 20000 in
theorem gX6_solveFor_X1_exchange : GoodIn wsX6_solveFor (wsV RX6 130 RX1 yX1_exchange wsX1_exchange) := goodIn_app (goodIn_of _ (by decide +kernel)) ggX6_solveFor_X1_exchange
set_option maxRecDepth 20000 in
theorem ggX6_solveFor_X3_find : GoodIn wsX6_solveFor wsX3_find := goodIn_r _ [26, 27, 28, 29, 30, 31, 32, 33, 34, 35, 25, 36, 37, 38, 39, 40, 41, 42, 43, 44, 45, 46, 47, 48, 49, 50, 51, 52, 53, 54, 55, 56, 57, 74, 75, 76, 70, 71, 72, 73] (by decide +kernel) (by decide +kernel)
set_option maxRecDepth 20000 in
theorem gX6_solveFor_X3_find : GoodIn wsX6_solveFor (wsV RX6 222 RX3 yX3_find wsX3_find) := goodIn_app (goodIn_of _ (by decide +kernel)) ggX6_solveFor_X3_find
theorem dX6_solveFor_0 : decode cX6_solveFor 0 = .ok (.aload_n 0, 1) := by decide +kernel
theorem dX6_solveFor_1 : decode cX6_solveFor 1 = .ok (.getfield 40, 3) := by decide +kernel
theorem dX6_solveFor_4 : decode cX6_solveFor 4 = .ok (.aload_n 0, 1) := by decide +kernel
theorem dX6_solveFor_5 : decode cX6_solveFor 5 = .ok (.getfield 12, 3) := by decide +kernel
theorem dX6_solveFor_8 : decode cX6_solveFor 8 = .ok (.getfield 65, 3) := by decide +kernel
theorem dX6_solveFor_11 : decode cX6_solveFor 11 = .ok (.invokevirtual 119, 3) := by decide +kernel
theorem dX6_solveFor_14 : decode cX6_solveFor 14 = .ok (.iload_n 1, 1) := by decide +kernel
theorem dX6_solveFor_15 : decode cX6_solveFor 15 = .ok (.iconst 1, 1) := by decide +kernel
theorem dX6_solveFor_16 : decode cX6_solveFor 16 = .ok (.if_icmp .ne 10, 3) := by decide +kernel
theorem dX6_solveFor_19 : decode cX6_solveFor 19 = .ok (.aload_n 0, 1) := by decide +kernel
theorem dX6_solveFor_20 : decode cX6_solveFor 20 = .ok (.getfield 40, 3) := by decide +kernel
theorem dX6_solveFor_23 : decode cX6_solveFor 23 = .ok (.invokevirtual 130, 3) := by decide +kernel
theorem dX6_solveFor_26 : decode cX6_solveFor 26 = .ok (.aload_n 0, 1) := by decide +kernel
theorem dX6_solveFor_27 : decode cX6_solveFor 27 = .ok (.getfield 47, 3) := by decide +kernel
theorem dX6_solveFor_30 : decode cX6_solveFor 30 = .ok (.aload_n 0, 1) := by decide +kernel
theorem dX6_solveFor_31 : decode cX6_solveFor 31 = .ok (.getfield 40, 3) := by decide +kernel
theorem dX6_solveFor_34 : decode cX6_solveFor 34 = .ok (.invokevirtual 222, 3) := by decide +kernel
theorem dX6_solveFor_37 : decode cX6_solveFor 37 = .ok (.return_, 1) := by decide +kernel
set_option maxRecDepth 20000 in
theorem ggX6_wonBy_X6_solveFor : GoodIn wsX6_wonBy wsX6_solveFor := goodIn_r _ [9, 10, 1, 2, 4, 11, 12, 13, 14, 15, 16, 17, 18, 19, 20, 21, 22, 23, 24, 25, 26, 27, 28, 29, 30, 31, 32, 33, 34, 35, 36, 37, 38, 39, 40, 41, 42, 43, 44, 45, 46, 47, 48, 49, 50, 51, 52, 53, 54, 55, 56, 57, 8, 58, 59, 60, 61, 62, 70, 71, 72, 73, 74, 75, 76, 77, 78, 79, 80, 81, 82, 83, 84, 85, 86, 87, 88] (by decide +kernel) (by decide +kernel)
set_option maxRecDepth 20000 in
theorem gX6_wonBy_X6_solveFor : GoodIn wsX6_wonBy (wsV RX6 133 RX6 yX6_solveFor wsX6_solveFor) := goodIn_app (goodIn_of _ (by decide +kernel)) ggX6_wonBy_X6_solveFor
set_option maxRecDepth 20000 in
theorem ggX6_wonBy_X3_isLost : GoodIn wsX6_wonBy wsX3_isLost := goodIn_r _ [66, 35, 48, 86, 87, 88] (by decide +kernel) (by decide +kernel)
set_option maxRecDepth 20000 in
theorem gX6_wonBy_X3_isLost : GoodIn wsX6_wonBy (wsV RX6 177 RX3 yX3_isLost wsX3_isLost) := goodIn_app (goodIn_of _ (by decide +kernel)) ggX6_wonBy_X3_isLost
set_option maxRecDepth 20000 in
theorem ggX6_wonBy_X6_bit : GoodIn wsX6_wonBy wsX6_bit := goodIn_r _ [69] (by decide +kernel) (by decide +kernel)
set_option maxRecDepth 20000 in
theorem gX6_wonBy_X6_bit : GoodIn wsX6_wonBy (va_wsS RX6 105 yX6_bit wsX6_bit) := goodIn_app (goodIn_of _ (by decide +kernel)) ggX6_wonBy_X6_bit
theorem dX6_wonBy_0 : decode cX6_wonBy 0 = .ok (.aload_n 0, 1) := by decide +kernel
theorem dX6_wonBy_1 : decode cX6_wonBy 1 = .ok (.iload_n 1, 1) := by decide +kernel
theorem dX6_wonBy_2 : decode cX6_wonBy 2 = .ok (.invokevirtual 133, 3) := by decide +kernel
theorem dX6_wonBy_5 : decode cX6_wonBy 5 = .ok (.iconst 0, 1) := by decide +kernel
theorem dX6_wonBy_6 : decode cX6_wonBy 6 = .ok (.istore_n 2, 1) := by decide +kernel
theorem dX6_wonBy_7 : decode cX6_wonBy 7 = .ok (.iconst 0, 1) := by decide +kernel
theorem dX6_wonBy_8 : decode cX6_wonBy 8 = .ok (.istore_n 3, 1) := by decide +kernel
theorem dX6_wonBy_9 : decode cX6_wonBy 9 = .ok (.iload_n 3, 1) := by decide +kernel
theorem dX6_wonBy_10 : decode cX6_wonBy 10 = .ok (.aload_n 0, 1) := by decide +kernel
theorem dX6_wonBy_11 : decode cX6_wonBy 11 = .ok (.getfield 12, 3) := by decide +kernel
theorem dX6_wonBy_14 : decode cX6_wonBy 14 = .ok (.getfield 65, 3) := by decide +kernel
theorem dX6_wonBy_17 : decode cX6_wonBy 17 = .ok (.getfield 68, 3) := by decide +kernel
theorem dX6_wonBy_20 : decode cX6_wonBy 20 = .ok (.if_icmp .ge 27, 3) := by decide +kernel
theorem dX6_wonBy_23 : decode cX6_wonBy 23 = .ok (.aload_n 0, 1) := by decide +kernel
theorem dX6_wonBy_24 : decode cX6_wonBy 24 = .ok (.getfield 47, 3) := by decide +kernel
theorem dX6_wonBy_27 : decode cX6_wonBy 27 = .ok (.iload_n 3, 1) := by decide +kernel
theorem dX6_wonBy_28 : decode cX6_wonBy 28 = .ok (.invokevirtual 177, 3) := by decide +kernel
theorem dX6_wonBy_31 : decode cX6_wonBy 31 = .ok (.ifCond .ne 10, 3) := by decide +kernel
theorem dX6_wonBy_34 : decode cX6_wonBy 34 = .ok (.iload_n 2, 1) := by decide +kernel
theorem dX6_wonBy_35 : decode cX6_wonBy 35 = .ok (.iload_n 3, 1) := by decide +kernel
theorem dX6_wonBy_36 : decode cX6_wonBy 36 = .ok (.invokestatic 105, 3) := by decide +kernel
theorem dX6_wonBy_39 : decode cX6_wonBy 39 = .ok (.ior, 1) := by decide +kernel
theorem dX6_wonBy_40 : decode cX6_wonBy 40 = .ok (.istore_n 2, 1) := by decide +kernel
theorem dX6_wonBy_41 : decode cX6_wonBy 41 = .ok (.iinc 3 1, 3) := by decide +kernel
theorem dX6_wonBy_44 : decode cX6_wonBy 44 = .ok (.goto (-35), 3) := by decide +kernel
theorem dX6_wonBy_47 : decode cX6_wonBy 47 = .ok (.iload_n 2, 1) := by decide +kernel
theorem dX6_wonBy_48 : decode cX6_wonBy 48 = .ok (.ireturn, 1) := by decide +kernel
set_option maxRecDepth 20000 in
theorem ggX6_winnerOf_X6_solveFor : GoodIn wsX6_winnerOf wsX6_solveFor := goodIn_r _ [6, 7, 8, 9, 1, 10, 11, 12, 13, 14, 15, 16, 17, 18, 19, 20, 21, 22, 23, 24, 25, 26, 27, 28, 29, 30, 31, 32, 33, 34, 35, 36, 37, 38, 39, 40, 41, 42, 43, 44, 45, 46, 47, 48, 49, 50, 51, 52, 53, 54, 55, 56, 5, 57, 58, 59, 60, 61, 70, 71, 72, 73, 74, 75, 76, 77, 78, 79, 80, 81, 82, 83, 84, 85, 86, 87, 88] (by decide +kernel) (by decide +kernel)
set_option maxRecDepth 20000 in
theorem gX6_winnerOf_X6_solveFor : GoodIn wsX6_winnerOf (wsV RX6 133 RX6 yX6_solveFor wsX6_solveFor) := goodIn_app (goodIn_of _ (by decide +kernel)) ggX6_winnerOf_X6_solveFor
set_option maxRecDepth 20000 in
theorem ggX6_winnerOf_X3_winner : GoodIn wsX6_winnerOf wsX3_winner := goodIn_r _ [65, 66, 67, 68, 30, 69, 34, 47, 86, 87, 88] (by decide +kernel) (by decide +kernel)
set_option maxRecDepth 20000 in
theorem gX6_winnerOf_X3_winner : GoodIn wsX6_winnerOf (wsV RX6 225 RX3 yX3_winner wsX3_winner) := goodIn_app (goodIn_of _ (by decide +kernel)) ggX6_winnerOf_X3_winner
theorem dX6_winnerOf_0 : decode cX6_winnerOf 0 = .ok (.aload_n 0, 1) := by decide +kernel
theorem dX6_winnerOf_1 : decode cX6_winnerOf 1 = .ok (.iconst 0, 1) := by decide +kernel
theorem dX6_winnerOf_2 : decode cX6_winnerOf 2 = .ok (.invokevirtual 133, 3) := by decide +kernel
theorem dX6_winnerOf_5 : decode cX6_winnerOf 5 = .ok (.aload_n 0, 1) := by decide +kernel
theorem dX6_winnerOf_6 : decode cX6_winnerOf 6 = .ok (.getfield 47, 3) := by decide +kernel
theorem dX6_winnerOf_9 : decode cX6_winnerOf 9 = .ok (.iload_n 1, 1) := by decide +kernel
theorem dX6_winnerOf_10 : decode cX6_winnerOf 10 = .ok (.invokevirtual 225, 3) := by decide +kernel
theorem dX6_winnerOf_13 : decode cX6_winnerOf 13 = .ok (.ireturn, 1) := by decide +kernel
set_option maxRecDepth 20000 in
theorem ggX6_findWays_X6_solveFor : GoodIn wsX6_findWays wsX6_solveFor := goodIn_r _ [11, 12, 1, 2, 13, 14, 15, 16, 17, 18, 19, 20, 21, 22, 23, 24, 25, 26, 27, 28, 29, 30, 31, 32, 33, 34, 35, 36, 37, 38, 39, 40, 41, 42, 43, 44, 45, 46, 47, 48, 49, 50, 51, 52, 53, 54, 55, 56, 57, 58, 59, 60, 10, 61, 62, 63, 64, 65, 88, 89, 90, 91, 92, 93, 94, 95, 96, 97, 98, 99, 100, 101, 102, 103, 108, 109, 110] (by decide +kernel) (by decide +kernel)
set_option maxRecDepth 20000 in
theorem gX6_findWays_X6_solveFor : GoodIn wsX6_findWays (wsV RX6 133 RX6 yX6_solveFor wsX6_solveFor) := goodIn_app (goodIn_of _ (by decide +kernel)) ggX6_findWays_X6_solveFor
set_option maxRecDepth 20000 in
theorem ggX6_findWays_X6_wayOn : GoodIn wsX6_findWays wsX6_wayOn := goodIn_r _ [69, 1, 70, 13, 12, 2, 71, 72, 73, 34, 74, 51, 37, 50, 75, 76, 77, 17, 78, 26, 79, 80, 81, 82, 19, 60, 10, 61, 62, 63, 64, 65, 38, 39, 36, 83, 84, 85, 86, 87, 88, 89, 90, 91, 92, 93, 94, 95, 96, 97, 98, 99, 100, 101, 102, 103, 108, 109, 110] (by decide +kernel) (by decide +kernel)
set_option maxRecDepth 20000 in
theorem gX6_findWays_X6_wayOn : GoodIn wsX6_findWays (wsV RX6 252 RX6 yX6_wayOn wsX6_wayOn) := goodIn_app (goodIn_of _ (by decide +kernel)) ggX6_findWays_X6_wayOn
theorem dX6_findWays_0 : decode cX6_findWays 0 = .ok (.iconst 0, 1) := by decide +kernel
theorem dX6_findWays_1 : decode cX6_findWays 1 = .ok (.istore_n 1, 1) := by decide +kernel
theorem dX6_findWays_2 : decode cX6_findWays 2 = .ok (.iload_n 1, 1) := by decide +kernel
theorem dX6_findWays_3 : decode cX6_findWays 3 = .ok (.iconst 1, 1) := by decide +kernel
theorem dX6_findWays_4 : decode cX6_findWays 4 = .ok (.if_icmp .gt 66, 3) := by decide +kernel
theorem dX6_findWays_7 : decode cX6_findWays 7 = .ok (.aload_n 0, 1) := by decide +kernel
theorem dX6_findWays_8 : decode cX6_findWays 8 = .ok (.iload_n 1, 1) := by decide +kernel
theorem dX6_findWays_9 : decode cX6_findWays 9 = .ok (.invokevirtual 133, 3) := by decide +kernel
theorem dX6_findWays_12 : decode cX6_findWays 12 = .ok (.iconst 0, 1) := by decide +kernel
theorem dX6_findWays_13 : decode cX6_findWays 13 = .ok (.istore_n 2, 1) := by decide +kernel
theorem dX6_findWays_14 : decode cX6_findWays 14 = .ok (.iload_n 2, 1) := by decide +kernel
theorem dX6_findWays_15 : decode cX6_findWays 15 = .ok (.aload_n 0, 1) := by decide +kernel
theorem dX6_findWays_16 : decode cX6_findWays 16 = .ok (.getfield 12, 3) := by decide +kernel
theorem dX6_findWays_19 : decode cX6_findWays 19 = .ok (.getfield 65, 3) := by decide +kernel
theorem dX6_findWays_22 : decode cX6_findWays 22 = .ok (.getfield 68, 3) := by decide +kernel
theorem dX6_findWays_25 : decode cX6_findWays 25 = .ok (.if_icmp .ge 39, 3) := by decide +kernel
theorem dX6_findWays_28 : decode cX6_findWays 28 = .ok (.aload_n 0, 1) := by decide +kernel
theorem dX6_findWays_29 : decode cX6_findWays 29 = .ok (.getfield 12, 3) := by decide +kernel
theorem dX6_findWays_32 : decode cX6_findWays 32 = .ok (.getfield 65, 3) := by decide +kernel
theorem dX6_findWays_35 : decode cX6_findWays 35 = .ok (.getfield 83, 3) := by decide +kernel
theorem dX6_findWays_38 : decode cX6_findWays 38 = .ok (.iload_n 2, 1) := by decide +kernel
theorem dX6_findWays_39 : decode cX6_findWays 39 = .ok (.iaload, 1) := by decide +kernel
theorem dX6_findWays_40 : decode cX6_findWays 40 = .ok (.iload_n 1, 1) := by decide +kernel
theorem dX6_findWays_41 : decode cX6_findWays 41 = .ok (.if_icmp .ne 17, 3) := by decide +kernel
theorem dX6_findWays_44 : decode cX6_findWays 44 = .ok (.aload_n 0, 1) := by decide +kernel
theorem dX6_findWays_45 : decode cX6_findWays 45 = .ok (.getfield 54, 3) := by decide +kernel
theorem dX6_findWays_48 : decode cX6_findWays 48 = .ok (.getfield 249, 3) := by decide +kernel
theorem dX6_findWays_51 : decode cX6_findWays 51 = .ok (.iload_n 2, 1) := by decide +kernel
theorem dX6_findWays_52 : decode cX6_findWays 52 = .ok (.aload_n 0, 1) := by decide +kernel
theorem dX6_findWays_53 : decode cX6_findWays 53 = .ok (.iload_n 2, 1) := by decide +kernel
theorem dX6_findWays_54 : decode cX6_findWays 54 = .ok (.invokevirtual 252, 3) := by decide +kernel
theorem dX6_findWays_57 : decode cX6_findWays 57 = .ok (.iastore, 1) := by decide +kernel
theorem dX6_findWays_58 : decode cX6_findWays 58 = .ok (.iinc 2 1, 3) := by decide +kernel
theorem dX6_findWays_61 : decode cX6_findWays 61 = .ok (.goto (-47), 3) := by decide +kernel
theorem dX6_findWays_64 : decode cX6_findWays 64 = .ok (.iinc 1 1, 3) := by decide +kernel
theorem dX6_findWays_67 : decode cX6_findWays 67 = .ok (.goto (-65), 3) := by decide +kernel
theorem dX6_findWays_70 : decode cX6_findWays 70 = .ok (.return_, 1) := by decide +kernel
set_option maxRecDepth 20000 in
theorem ggX6_wayOn_X3_bestArrow : GoodIn wsX6_wayOn wsX3_bestArrow := goodIn_r _ [10, 11, 12, 13, 14, 15, 16, 17, 18, 19, 20, 21, 22, 23, 24, 25, 26, 27, 28, 29, 30, 9, 31, 32, 33, 34, 52, 53, 54, 55, 56, 57, 58] (by decide +kernel) (by decide +kernel)
set_option maxRecDepth 20000 in
theorem gX6_wayOn_X3_bestArrow : GoodIn wsX6_wayOn (wsV RX6 137 RX3 yX3_bestArrow wsX3_bestArrow) := goodIn_app (goodIn_of _ (by decide +kernel)) ggX6_wayOn_X3_bestArrow
set_option maxRecDepth 20000 in
theorem ggX6_wayOn_X1_lowestArrow : GoodIn wsX6_wayOn wsX1_lowestArrow := goodIn_r _ [38, 24, 39, 15, 16, 17, 18, 19, 20, 21, 22, 23, 25, 26, 27, 52, 53, 54, 55] (by decide +kernel) (by decide +kernel)
set_option maxRecDepth 20000 in
theorem gX6_wayOn_X1_lowestArrow : GoodIn wsX6_wayOn (wsV RX6 255 RX1 yX1_lowestArrow wsX1_lowestArrow) := goodIn_app (goodIn_of _ (by decide +kernel)) ggX6_wayOn_X1_lowestArrow
theorem dX6_wayOn_0 : decode cX6_wayOn 0 = .ok (.aload_n 0, 1) := by decide +kernel
theorem dX6_wayOn_1 : decode cX6_wayOn 1 = .ok (.getfield 12, 3) := by decide +kernel
theorem dX6_wayOn_4 : decode cX6_wayOn 4 = .ok (.getfield 113, 3) := by decide +kernel
theorem dX6_wayOn_7 : decode cX6_wayOn 7 = .ok (.iload_n 1, 1) := by decide +kernel
theorem dX6_wayOn_8 : decode cX6_wayOn 8 = .ok (.iaload, 1) := by decide +kernel
theorem dX6_wayOn_9 : decode cX6_wayOn 9 = .ok (.bipush 14, 2) := by decide +kernel
theorem dX6_wayOn_11 : decode cX6_wayOn 11 = .ok (.if_icmp .eq 13, 3) := by decide +kernel
theorem dX6_wayOn_14 : decode cX6_wayOn 14 = .ok (.aload_n 0, 1) := by decide +kernel
theorem dX6_wayOn_15 : decode cX6_wayOn 15 = .ok (.getfield 12, 3) := by decide +kernel
theorem dX6_wayOn_18 : decode cX6_wayOn 18 = .ok (.getfield 113, 3) := by decide +kernel
theorem dX6_wayOn_21 : decode cX6_wayOn 21 = .ok (.iload_n 1, 1) := by decide +kernel
theorem dX6_wayOn_22 : decode cX6_wayOn 22 = .ok (.iaload, 1) := by decide +kernel
theorem dX6_wayOn_23 : decode cX6_wayOn 23 = .ok (.ireturn, 1) := by decide +kernel
theorem dX6_wayOn_24 : decode cX6_wayOn 24 = .ok (.aload_n 0, 1) := by decide +kernel
theorem dX6_wayOn_25 : decode cX6_wayOn 25 = .ok (.getfield 47, 3) := by decide +kernel
theorem dX6_wayOn_28 : decode cX6_wayOn 28 = .ok (.aload_n 0, 1) := by decide +kernel
theorem dX6_wayOn_29 : decode cX6_wayOn 29 = .ok (.getfield 40, 3) := by decide +kernel
theorem dX6_wayOn_32 : decode cX6_wayOn 32 = .ok (.iload_n 1, 1) := by decide +kernel
theorem dX6_wayOn_33 : decode cX6_wayOn 33 = .ok (.invokevirtual 137, 3) := by decide +kernel
theorem dX6_wayOn_36 : decode cX6_wayOn 36 = .ok (.istore_n 2, 1) := by decide +kernel
theorem dX6_wayOn_37 : decode cX6_wayOn 37 = .ok (.iload_n 2, 1) := by decide +kernel
theorem dX6_wayOn_38 : decode cX6_wayOn 38 = .ok (.bipush 14, 2) := by decide +kernel
theorem dX6_wayOn_40 : decode cX6_wayOn 40 = .ok (.if_icmp .eq 7, 3) := by decide +kernel
theorem dX6_wayOn_43 : decode cX6_wayOn 43 = .ok (.iload_n 2, 1) := by decide +kernel
theorem dX6_wayOn_44 : decode cX6_wayOn 44 = .ok (.goto 14, 3) := by decide +kernel
theorem dX6_wayOn_47 : decode cX6_wayOn 47 = .ok (.aload_n 0, 1) := by decide +kernel
theorem dX6_wayOn_48 : decode cX6_wayOn 48 = .ok (.getfield 12, 3) := by decide +kernel
theorem dX6_wayOn_51 : decode cX6_wayOn 51 = .ok (.getfield 65, 3) := by decide +kernel
theorem dX6_wayOn_54 : decode cX6_wayOn 54 = .ok (.iload_n 1, 1) := by decide +kernel
theorem dX6_wayOn_55 : decode cX6_wayOn 55 = .ok (.invokevirtual 255, 3) := by decide +kernel
theorem dX6_wayOn_58 : decode cX6_wayOn 58 = .ok (.ireturn, 1) := by decide +kernel
set_option maxRecDepth 20000 in
theorem ggX6_judgeFor_X1_become : GoodIn wsX6_judgeFor wsX1_become := goodIn_r _ [12, 13, 14, 15, 16, 17, 18, 19, 20, 37, 38, 39, 40] (by decide +kernel) (by decide +kernel)
set_option maxRecDepth 20000 in
theorem gX6_judgeFor_X1_become : GoodIn wsX6_judgeFor (wsV RX6 119 RX1 yX1_become wsX1_become) := goodIn_app (goodIn_of _ (by decide +kernel)) ggX6_judgeFor_X1_become
set_option maxRecDepth 20000 in
theorem ggX6_judgeFor_X6_bit : GoodIn wsX6_judgeFor wsX6_bit := goodIn_r _ [24] (by decide +kernel) (by decide +kernel)
set_option maxRecDepth 20000 in
theorem gX6_judgeFor_X6_bit : GoodIn wsX6_judgeFor (va_wsS RX6 105 yX6_bit wsX6_bit) := goodIn_app (goodIn_of _ (by decide +kernel)) ggX6_judgeFor_X6_bit
theorem dX6_judgeFor_0 : decode cX6_judgeFor 0 = .ok (.aload_n 0, 1) := by decide +kernel
theorem dX6_judgeFor_1 : decode cX6_judgeFor 1 = .ok (.getfield 40, 3) := by decide +kernel
theorem dX6_judgeFor_4 : decode cX6_judgeFor 4 = .ok (.aload_n 0, 1) := by decide +kernel
theorem dX6_judgeFor_5 : decode cX6_judgeFor 5 = .ok (.getfield 12, 3) := by decide +kernel
theorem dX6_judgeFor_8 : decode cX6_judgeFor 8 = .ok (.getfield 65, 3) := by decide +kernel
theorem dX6_judgeFor_11 : decode cX6_judgeFor 11 = .ok (.invokevirtual 119, 3) := by decide +kernel
theorem dX6_judgeFor_14 : decode cX6_judgeFor 14 = .ok (.iconst 0, 1) := by decide +kernel
theorem dX6_judgeFor_15 : decode cX6_judgeFor 15 = .ok (.istore_n 2, 1) := by decide +kernel
theorem dX6_judgeFor_16 : decode cX6_judgeFor 16 = .ok (.iload_n 2, 1) := by decide +kernel
theorem dX6_judgeFor_17 : decode cX6_judgeFor 17 = .ok (.aload_n 0, 1) := by decide +kernel
theorem dX6_judgeFor_18 : decode cX6_judgeFor 18 = .ok (.getfield 12, 3) := by decide +kernel
theorem dX6_judgeFor_21 : decode cX6_judgeFor 21 = .ok (.getfield 65, 3) := by decide +kernel
theorem dX6_judgeFor_24 : decode cX6_judgeFor 24 = .ok (.getfield 68, 3) := by decide +kernel
theorem dX6_judgeFor_27 : decode cX6_judgeFor 27 = .ok (.if_icmp .ge 60, 3) := by decide +kernel
theorem dX6_judgeFor_30 : decode cX6_judgeFor 30 = .ok (.aload_n 0, 1) := by decide +kernel
theorem dX6_judgeFor_31 : decode cX6_judgeFor 31 = .ok (.getfield 12, 3) := by decide +kernel
theorem dX6_judgeFor_34 : decode cX6_judgeFor 34 = .ok (.getfield 65, 3) := by decide +kernel
theorem dX6_judgeFor_37 : decode cX6_judgeFor 37 = .ok (.getfield 83, 3) := by decide +kernel
theorem dX6_judgeFor_40 : decode cX6_judgeFor 40 = .ok (.iload_n 2, 1) := by decide +kernel
theorem dX6_judgeFor_41 : decode cX6_judgeFor 41 = .ok (.iaload, 1) := by decide +kernel
theorem dX6_judgeFor_42 : decode cX6_judgeFor 42 = .ok (.iload_n 1, 1) := by decide +kernel
theorem dX6_judgeFor_43 : decode cX6_judgeFor 43 = .ok (.if_icmp .ne 38, 3) := by decide +kernel
theorem dX6_judgeFor_46 : decode cX6_judgeFor 46 = .ok (.aload_n 0, 1) := by decide +kernel
theorem dX6_judgeFor_47 : decode cX6_judgeFor 47 = .ok (.getfield 12, 3) := by decide +kernel
theorem dX6_judgeFor_50 : decode cX6_judgeFor 50 = .ok (.getfield 113, 3) := by decide +kernel
theorem dX6_judgeFor_53 : decode cX6_judgeFor 53 = .ok (.iload_n 2, 1) := by decide +kernel
theorem dX6_judgeFor_54 : decode cX6_judgeFor 54 = .ok (.iaload, 1) := by decide +kernel
theorem dX6_judgeFor_55 : decode cX6_judgeFor 55 = .ok (.bipush 14, 2) := by decide +kernel
theorem dX6_judgeFor_57 : decode cX6_judgeFor 57 = .ok (.if_icmp .eq 24, 3) := by decide +kernel
theorem dX6_judgeFor_60 : decode cX6_judgeFor 60 = .ok (.aload_n 0, 1) := by decide +kernel
theorem dX6_judgeFor_61 : decode cX6_judgeFor 61 = .ok (.getfield 40, 3) := by decide +kernel
theorem dX6_judgeFor_64 : decode cX6_judgeFor 64 = .ok (.getfield 102, 3) := by decide +kernel
theorem dX6_judgeFor_67 : decode cX6_judgeFor 67 = .ok (.iload_n 2, 1) := by decide +kernel
theorem dX6_judgeFor_68 : decode cX6_judgeFor 68 = .ok (.aload_n 0, 1) := by decide +kernel
theorem dX6_judgeFor_69 : decode cX6_judgeFor 69 = .ok (.getfield 12, 3) := by decide +kernel
theorem dX6_judgeFor_72 : decode cX6_judgeFor 72 = .ok (.getfield 113, 3) := by decide +kernel
theorem dX6_judgeFor_75 : decode cX6_judgeFor 75 = .ok (.iload_n 2, 1) := by decide +kernel
theorem dX6_judgeFor_76 : decode cX6_judgeFor 76 = .ok (.iaload, 1) := by decide +kernel
theorem dX6_judgeFor_77 : decode cX6_judgeFor 77 = .ok (.invokestatic 105, 3) := by decide +kernel
theorem dX6_judgeFor_80 : decode cX6_judgeFor 80 = .ok (.iastore, 1) := by decide +kernel
theorem dX6_judgeFor_81 : decode cX6_judgeFor 81 = .ok (.iinc 2 1, 3) := by decide +kernel
theorem dX6_judgeFor_84 : decode cX6_judgeFor 84 = .ok (.goto (-68), 3) := by decide +kernel
theorem dX6_judgeFor_87 : decode cX6_judgeFor 87 = .ok (.return_, 1) := by decide +kernel
