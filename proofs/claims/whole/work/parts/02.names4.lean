theorem dX7_limbToLookAt_8 : decode cX7_limbToLookAt 8 = .ok (.ifCond .ne 6, 3) := by decide +kernel
theorem dX7_limbToLookAt_11 : decode cX7_limbToLookAt 11 = .ok (.bipush (-9), 2) := by decide +kernel
theorem dX7_limbToLookAt_13 : decode cX7_limbToLookAt 13 = .ok (.ireturn, 1) := by decide +kernel
theorem dX7_limbToLookAt_14 : decode cX7_limbToLookAt 14 = .ok (.bipush 8, 2) := by decide +kernel
theorem dX7_limbToLookAt_16 : decode cX7_limbToLookAt 16 = .ok (.istore 4, 2) := by decide +kernel
theorem dX7_limbToLookAt_18 : decode cX7_limbToLookAt 18 = .ok (.bipush (-9), 2) := by decide +kernel
theorem dX7_limbToLookAt_20 : decode cX7_limbToLookAt 20 = .ok (.istore 5, 2) := by decide +kernel
theorem dX7_limbToLookAt_22 : decode cX7_limbToLookAt 22 = .ok (.iconst 0, 1) := by decide +kernel
theorem dX7_limbToLookAt_23 : decode cX7_limbToLookAt 23 = .ok (.istore 6, 2) := by decide +kernel
theorem dX7_limbToLookAt_25 : decode cX7_limbToLookAt 25 = .ok (.iload 6, 2) := by decide +kernel
theorem dX7_limbToLookAt_27 : decode cX7_limbToLookAt 27 = .ok (.aload_n 1, 1) := by decide +kernel
theorem dX7_limbToLookAt_28 : decode cX7_limbToLookAt 28 = .ok (.getfield 73, 3) := by decide +kernel
theorem dX7_limbToLookAt_31 : decode cX7_limbToLookAt 31 = .ok (.if_icmp .ge 35, 3) := by decide +kernel
theorem dX7_limbToLookAt_34 : decode cX7_limbToLookAt 34 = .ok (.aload_n 0, 1) := by decide +kernel
theorem dX7_limbToLookAt_35 : decode cX7_limbToLookAt 35 = .ok (.aload_n 1, 1) := by decide +kernel
theorem dX7_limbToLookAt_36 : decode cX7_limbToLookAt 36 = .ok (.aload_n 2, 1) := by decide +kernel
theorem dX7_limbToLookAt_37 : decode cX7_limbToLookAt 37 = .ok (.iload 6, 2) := by decide +kernel
theorem dX7_limbToLookAt_39 : decode cX7_limbToLookAt 39 = .ok (.iload_n 3, 1) := by decide +kernel
theorem dX7_limbToLookAt_40 : decode cX7_limbToLookAt 40 = .ok (.invokevirtual 75, 3) := by decide +kernel
theorem dX7_limbToLookAt_43 : decode cX7_limbToLookAt 43 = .ok (.istore 7, 2) := by decide +kernel
theorem dX7_limbToLookAt_45 : decode cX7_limbToLookAt 45 = .ok (.iload 7, 2) := by decide +kernel
theorem dX7_limbToLookAt_47 : decode cX7_limbToLookAt 47 = .ok (.iload 4, 2) := by decide +kernel
theorem dX7_limbToLookAt_49 : decode cX7_limbToLookAt 49 = .ok (.if_icmp .ge 11, 3) := by decide +kernel
theorem dX7_limbToLookAt_52 : decode cX7_limbToLookAt 52 = .ok (.iload 7, 2) := by decide +kernel
theorem dX7_limbToLookAt_54 : decode cX7_limbToLookAt 54 = .ok (.istore 4, 2) := by decide +kernel
theorem dX7_limbToLookAt_56 : decode cX7_limbToLookAt 56 = .ok (.iload 6, 2) := by decide +kernel
theorem dX7_limbToLookAt_58 : decode cX7_limbToLookAt 58 = .ok (.istore 5, 2) := by decide +kernel
theorem dX7_limbToLookAt_60 : decode cX7_limbToLookAt 60 = .ok (.iinc 6 1, 3) := by decide +kernel
theorem dX7_limbToLookAt_63 : decode cX7_limbToLookAt 63 = .ok (.goto (-38), 3) := by decide +kernel
theorem dX7_limbToLookAt_66 : decode cX7_limbToLookAt 66 = .ok (.iload 5, 2) := by decide +kernel
theorem dX7_limbToLookAt_68 : decode cX7_limbToLookAt 68 = .ok (.ireturn, 1) := by decide +kernel
set_option maxRecDepth 20000 in
theorem ggX7_mostLeft_X7_tryGuess : GoodIn wsX7_mostLeft wsX7_tryGuess := goodIn_r _ [11, 2, 12, 13, 14, 15, 16, 17, 18, 19, 20, 21, 22, 23, 24, 25, 26, 27, 28, 29, 62, 63, 64, 65, 66, 67] (by decide +kernel) (by decide +kernel)
set_option maxRecDepth 20000 in
theorem gX7_mostLeft_X7_tryGuess : GoodIn wsX7_mostLeft (wsV RX7 57 RX7 yX7_tryGuess wsX7_tryGuess) := goodIn_app (goodIn_of _ (by decide +kernel)) ggX7_mostLeft_X7_tryGuess
set_option maxRecDepth 20000 in
theorem ggX7_mostLeft_X0_height : GoodIn wsX7_mostLeft wsX0_height := goodIn_r _ [34, 35, 36, 4, 5, 6, 37, 38, 39, 33, 40, 41, 42, 43, 15, 44, 17, 45, 46, 47, 48, 49, 50, 51, 52, 53, 54, 55, 56, 57, 68, 69, 70, 71, 72, 73, 74, 75, 76, 77, 78, 67] (by decide +kernel) (by decide +kernel)
set_option maxRecDepth 20000 in
theorem gX7_mostLeft_X0_height : GoodIn wsX7_mostLeft (wsV RX7 32 RX0 yX0_height wsX0_height) := goodIn_app (goodIn_of _ (by decide +kernel)) ggX7_mostLeft_X0_height
set_option maxRecDepth 20000 in
theorem ggX7_mostLeft_X7_howManyGuessed : GoodIn wsX7_mostLeft wsX7_howManyGuessed := goodIn_r _ [61, 1, 62, 63, 64, 65, 66] (by decide +kernel) (by decide +kernel)
set_option maxRecDepth 20000 in
theorem gX7_mostLeft_X7_howManyGuessed : GoodIn wsX7_mostLeft (wsV RX7 79 RX7 yX7_howManyGuessed wsX7_howManyGuessed) := goodIn_app (goodIn_of _ (by decide +kernel)) ggX7_mostLeft_X7_howManyGuessed
theorem dX7_mostLeft_0 : decode cX7_mostLeft 0 = .ok (.iconst 0, 1) := by decide +kernel
theorem dX7_mostLeft_1 : decode cX7_mostLeft 1 = .ok (.istore 5, 2) := by decide +kernel
theorem dX7_mostLeft_3 : decode cX7_mostLeft 3 = .ok (.iconst 0, 1) := by decide +kernel
theorem dX7_mostLeft_4 : decode cX7_mostLeft 4 = .ok (.istore 6, 2) := by decide +kernel
theorem dX7_mostLeft_6 : decode cX7_mostLeft 6 = .ok (.iload 6, 2) := by decide +kernel
theorem dX7_mostLeft_8 : decode cX7_mostLeft 8 = .ok (.bipush 7, 2) := by decide +kernel
theorem dX7_mostLeft_10 : decode cX7_mostLeft 10 = .ok (.if_icmp .ge 46, 3) := by decide +kernel
theorem dX7_mostLeft_13 : decode cX7_mostLeft 13 = .ok (.iload 4, 2) := by decide +kernel
theorem dX7_mostLeft_15 : decode cX7_mostLeft 15 = .ok (.iload 6, 2) := by decide +kernel
theorem dX7_mostLeft_17 : decode cX7_mostLeft 17 = .ok (.ishr, 1) := by decide +kernel
theorem dX7_mostLeft_18 : decode cX7_mostLeft 18 = .ok (.iconst 1, 1) := by decide +kernel
theorem dX7_mostLeft_19 : decode cX7_mostLeft 19 = .ok (.iand, 1) := by decide +kernel
theorem dX7_mostLeft_20 : decode cX7_mostLeft 20 = .ok (.iconst 1, 1) := by decide +kernel
theorem dX7_mostLeft_21 : decode cX7_mostLeft 21 = .ok (.if_icmp .ne 29, 3) := by decide +kernel
theorem dX7_mostLeft_24 : decode cX7_mostLeft 24 = .ok (.aload_n 0, 1) := by decide +kernel
theorem dX7_mostLeft_25 : decode cX7_mostLeft 25 = .ok (.aload_n 2, 1) := by decide +kernel
theorem dX7_mostLeft_26 : decode cX7_mostLeft 26 = .ok (.iload 6, 2) := by decide +kernel
theorem dX7_mostLeft_28 : decode cX7_mostLeft 28 = .ok (.invokevirtual 57, 3) := by decide +kernel
theorem dX7_mostLeft_31 : decode cX7_mostLeft 31 = .ok (.aload_n 0, 1) := by decide +kernel
theorem dX7_mostLeft_32 : decode cX7_mostLeft 32 = .ok (.getfield 18, 3) := by decide +kernel
theorem dX7_mostLeft_35 : decode cX7_mostLeft 35 = .ok (.iload 5, 2) := by decide +kernel
theorem dX7_mostLeft_37 : decode cX7_mostLeft 37 = .ok (.aload_n 1, 1) := by decide +kernel
theorem dX7_mostLeft_38 : decode cX7_mostLeft 38 = .ok (.aload_n 0, 1) := by decide +kernel
theorem dX7_mostLeft_39 : decode cX7_mostLeft 39 = .ok (.getfield 24, 3) := by decide +kernel
theorem dX7_mostLeft_42 : decode cX7_mostLeft 42 = .ok (.iload_n 3, 1) := by decide +kernel
theorem dX7_mostLeft_43 : decode cX7_mostLeft 43 = .ok (.invokevirtual 32, 3) := by decide +kernel
theorem dX7_mostLeft_46 : decode cX7_mostLeft 46 = .ok (.iastore, 1) := by decide +kernel
theorem dX7_mostLeft_47 : decode cX7_mostLeft 47 = .ok (.iinc 5 1, 3) := by decide +kernel
theorem dX7_mostLeft_50 : decode cX7_mostLeft 50 = .ok (.iinc 6 1, 3) := by decide +kernel
theorem dX7_mostLeft_53 : decode cX7_mostLeft 53 = .ok (.goto (-47), 3) := by decide +kernel
theorem dX7_mostLeft_56 : decode cX7_mostLeft 56 = .ok (.iconst 0, 1) := by decide +kernel
theorem dX7_mostLeft_57 : decode cX7_mostLeft 57 = .ok (.istore 6, 2) := by decide +kernel
theorem dX7_mostLeft_59 : decode cX7_mostLeft 59 = .ok (.iconst 0, 1) := by decide +kernel
theorem dX7_mostLeft_60 : decode cX7_mostLeft 60 = .ok (.istore 7, 2) := by decide +kernel
theorem dX7_mostLeft_62 : decode cX7_mostLeft 62 = .ok (.iload 7, 2) := by decide +kernel
theorem dX7_mostLeft_64 : decode cX7_mostLeft 64 = .ok (.iload 5, 2) := by decide +kernel
theorem dX7_mostLeft_66 : decode cX7_mostLeft 66 = .ok (.if_icmp .ge 29, 3) := by decide +kernel
theorem dX7_mostLeft_69 : decode cX7_mostLeft 69 = .ok (.iload 6, 2) := by decide +kernel
theorem dX7_mostLeft_71 : decode cX7_mostLeft 71 = .ok (.aload_n 0, 1) := by decide +kernel
theorem dX7_mostLeft_72 : decode cX7_mostLeft 72 = .ok (.aload_n 0, 1) := by decide +kernel
theorem dX7_mostLeft_73 : decode cX7_mostLeft 73 = .ok (.getfield 18, 3) := by decide +kernel
theorem dX7_mostLeft_76 : decode cX7_mostLeft 76 = .ok (.iload 7, 2) := by decide +kernel
theorem dX7_mostLeft_78 : decode cX7_mostLeft 78 = .ok (.iaload, 1) := by decide +kernel
theorem dX7_mostLeft_79 : decode cX7_mostLeft 79 = .ok (.iload 5, 2) := by decide +kernel
theorem dX7_mostLeft_81 : decode cX7_mostLeft 81 = .ok (.invokevirtual 79, 3) := by decide +kernel
theorem dX7_mostLeft_84 : decode cX7_mostLeft 84 = .ok (.invokestatic 83, 3) := by decide +kernel
theorem dX7_mostLeft_87 : decode cX7_mostLeft 87 = .ok (.istore 6, 2) := by decide +kernel
theorem dX7_mostLeft_89 : decode cX7_mostLeft 89 = .ok (.iinc 7 1, 3) := by decide +kernel
theorem dX7_mostLeft_92 : decode cX7_mostLeft 92 = .ok (.goto (-30), 3) := by decide +kernel
theorem dX7_mostLeft_95 : decode cX7_mostLeft 95 = .ok (.iload 6, 2) := by decide +kernel
theorem dX7_mostLeft_97 : decode cX7_mostLeft 97 = .ok (.ireturn, 1) := by decide +kernel
theorem dX7_howManyGuessed_0 : decode cX7_howManyGuessed 0 = .ok (.iconst 0, 1) := by decide +kernel
theorem dX7_howManyGuessed_1 : decode cX7_howManyGuessed 1 = .ok (.istore_n 3, 1) := by decide +kernel
theorem dX7_howManyGuessed_2 : decode cX7_howManyGuessed 2 = .ok (.iconst 0, 1) := by decide +kernel
theorem dX7_howManyGuessed_3 : decode cX7_howManyGuessed 3 = .ok (.istore 4, 2) := by decide +kernel
theorem dX7_howManyGuessed_5 : decode cX7_howManyGuessed 5 = .ok (.iload 4, 2) := by decide +kernel
theorem dX7_howManyGuessed_7 : decode cX7_howManyGuessed 7 = .ok (.iload_n 2, 1) := by decide +kernel
theorem dX7_howManyGuessed_8 : decode cX7_howManyGuessed 8 = .ok (.if_icmp .ge 23, 3) := by decide +kernel
theorem dX7_howManyGuessed_11 : decode cX7_howManyGuessed 11 = .ok (.aload_n 0, 1) := by decide +kernel
theorem dX7_howManyGuessed_12 : decode cX7_howManyGuessed 12 = .ok (.getfield 18, 3) := by decide +kernel
theorem dX7_howManyGuessed_15 : decode cX7_howManyGuessed 15 = .ok (.iload 4, 2) := by decide +kernel
theorem dX7_howManyGuessed_17 : decode cX7_howManyGuessed 17 = .ok (.iaload, 1) := by decide +kernel
theorem dX7_howManyGuessed_18 : decode cX7_howManyGuessed 18 = .ok (.iload_n 1, 1) := by decide +kernel
theorem dX7_howManyGuessed_19 : decode cX7_howManyGuessed 19 = .ok (.if_icmp .ne 6, 3) := by decide +kernel
theorem dX7_howManyGuessed_22 : decode cX7_howManyGuessed 22 = .ok (.iinc 3 1, 3) := by decide +kernel
theorem dX7_howManyGuessed_25 : decode cX7_howManyGuessed 25 = .ok (.iinc 4 1, 3) := by decide +kernel
theorem dX7_howManyGuessed_28 : decode cX7_howManyGuessed 28 = .ok (.goto (-23), 3) := by decide +kernel
theorem dX7_howManyGuessed_31 : decode cX7_howManyGuessed 31 = .ok (.iload_n 3, 1) := by decide +kernel
theorem dX7_howManyGuessed_32 : decode cX7_howManyGuessed 32 = .ok (.ireturn, 1) := by decide +kernel
set_option maxRecDepth 20000 in
theorem ggX8_init_X6_init : GoodIn wsX8_init wsX6_init := goodIn_r _ [36, 37, 2, 3, 38, 39, 40, 41, 95, 96, 97, 98, 99, 100, 101, 102, 103] (by decide +kernel) (by decide +kernel)
set_option maxRecDepth 20000 in
theorem gX8_init_X6_init_n11 : GoodIn wsX8_init (wsX6_init) := ggX8_init_X6_init
set_option maxRecDepth 20000 in
theorem ggX8_init_X0_init : GoodIn wsX8_init wsX0_init := goodIn_r _ [43, 44, 2, 3, 40, 45, 46, 47, 48, 49, 50, 51, 31, 32, 52, 53, 54, 55, 56, 57, 113, 114, 115, 116, 117, 118, 119, 120, 121, 122, 123, 136] (by decide +kernel) (by decide +kernel)
set_option maxRecDepth 20000 in
theorem gX8_init_X0_init_n18 : GoodIn wsX8_init (wsX0_init) := ggX8_init_X0_init
set_option maxRecDepth 20000 in
theorem ggX8_init_X5_init : GoodIn wsX8_init wsX5_init := goodIn_r _ [59, 60, 2, 3, 61, 31, 32, 62, 63, 64, 65, 66, 54, 55, 56, 40, 57, 67, 68, 69, 70, 136, 124, 125, 126, 137, 138, 139] (by decide +kernel) (by decide +kernel)
set_option maxRecDepth 20000 in
theorem gX8_init_X5_init_n28 : GoodIn wsX8_init (wsX5_init) := ggX8_init_X5_init
set_option maxRecDepth 20000 in
theorem ggX8_init_X7_init : GoodIn wsX8_init wsX7_init := goodIn_r _ [72, 73, 2, 3, 40, 74, 75, 76, 77, 31, 32, 78, 54, 55, 56, 57, 127, 128, 129, 130, 131, 136] (by decide +kernel) (by decide +kernel)
set_option maxRecDepth 20000 in
theorem gX8_init_X7_init_n39 : GoodIn wsX8_init (wsX7_init) := ggX8_init_X7_init
set_option maxRecDepth 20000 in
theorem ggX8_init_X2_init : GoodIn wsX8_init wsX2_init := goodIn_r _ [80, 81, 2, 3, 40, 82, 83, 132, 133, 134] (by decide +kernel) (by decide +kernel)
set_option maxRecDepth 20000 in
theorem gX8_init_X2_init_n46 : GoodIn wsX8_init (wsX2_init) := ggX8_init_X2_init
set_option maxRecDepth 20000 in
theorem ggX8_init_X1_init : GoodIn wsX8_init wsX1_init := goodIn_r _ [85, 86, 2, 3] (by decide +kernel) (by decide +kernel)
set_option maxRecDepth 20000 in
theorem gX8_init_X1_init_n53 : GoodIn wsX8_init (wsX1_init) := ggX8_init_X1_init
set_option maxRecDepth 20000 in
theorem ggX8_init_X4_init : GoodIn wsX8_init wsX4_init := goodIn_r _ [55, 56, 2, 3, 40, 57, 136] (by decide +kernel) (by decide +kernel)
set_option maxRecDepth 20000 in
theorem gX8_init_X4_init_n60 : GoodIn wsX8_init (wsX4_init) := ggX8_init_X4_init
set_option maxRecDepth 20000 in
theorem ggX8_init_X4_empty : GoodIn wsX8_init wsX4_empty := goodIn_r _ [90, 57, 91, 92, 93, 94, 136] (by decide +kernel) (by decide +kernel)
set_option maxRecDepth 20000 in
theorem gX8_init_X4_empty : GoodIn wsX8_init (wsV RX8 68 RX4 yX4_empty wsX4_empty) := goodIn_app (goodIn_of _ (by decide +kernel)) ggX8_init_X4_empty
theorem dX8_init_0 : decode cX8_init 0 = .ok (.aload_n 0, 1) := by decide +kernel
theorem dX8_init_1 : decode cX8_init 1 = .ok (.invokespecial 3, 3) := by decide +kernel
theorem dX8_init_4 : decode cX8_init 4 = .ok (.aload_n 0, 1) := by decide +kernel
theorem dX8_init_5 : decode cX8_init 5 = .ok (.new 9, 3) := by decide +kernel
theorem dX8_init_8 : decode cX8_init 8 = .ok (.dup, 1) := by decide +kernel
theorem dX8_init_9 : decode cX8_init 9 = .ok (.invokespecial 11, 3) := by decide +kernel
theorem dX8_init_12 : decode cX8_init 12 = .ok (.putfield 12, 3) := by decide +kernel
theorem dX8_init_15 : decode cX8_init 15 = .ok (.aload_n 0, 1) := by decide +kernel
theorem dX8_init_16 : decode cX8_init 16 = .ok (.new 16, 3) := by decide +kernel
theorem dX8_init_19 : decode cX8_init 19 = .ok (.dup, 1) := by decide +kernel
theorem dX8_init_20 : decode cX8_init 20 = .ok (.invokespecial 18, 3) := by decide +kernel
theorem dX8_init_23 : decode cX8_init 23 = .ok (.putfield 19, 3) := by decide +kernel
theorem dX8_init_26 : decode cX8_init 26 = .ok (.aload_n 0, 1) := by decide +kernel
theorem dX8_init_27 : decode cX8_init 27 = .ok (.new 16, 3) := by decide +kernel
theorem dX8_init_30 : decode cX8_init 30 = .ok (.dup, 1) := by decide +kernel
theorem dX8_init_31 : decode cX8_init 31 = .ok (.invokespecial 18, 3) := by decide +kernel
theorem dX8_init_34 : decode cX8_init 34 = .ok (.putfield 23, 3) := by decide +kernel
theorem dX8_init_37 : decode cX8_init 37 = .ok (.aload_n 0, 1) := by decide +kernel
theorem dX8_init_38 : decode cX8_init 38 = .ok (.new 26, 3) := by decide +kernel
theorem dX8_init_41 : decode cX8_init 41 = .ok (.dup, 1) := by decide +kernel
theorem dX8_init_42 : decode cX8_init 42 = .ok (.invokespecial 28, 3) := by decide +kernel
theorem dX8_init_45 : decode cX8_init 45 = .ok (.putfield 29, 3) := by decide +kernel
theorem dX8_init_48 : decode cX8_init 48 = .ok (.aload_n 0, 1) := by decide +kernel
theorem dX8_init_49 : decode cX8_init 49 = .ok (.iconst 2, 1) := by decide +kernel
theorem dX8_init_50 : decode cX8_init 50 = .ok (.anewarray 26, 3) := by decide +kernel
theorem dX8_init_53 : decode cX8_init 53 = .ok (.dup, 1) := by decide +kernel
theorem dX8_init_54 : decode cX8_init 54 = .ok (.iconst 0, 1) := by decide +kernel
theorem dX8_init_55 : decode cX8_init 55 = .ok (.new 26, 3) := by decide +kernel
theorem dX8_init_58 : decode cX8_init 58 = .ok (.dup, 1) := by decide +kernel
theorem dX8_init_59 : decode cX8_init 59 = .ok (.invokespecial 28, 3) := by decide +kernel
theorem dX8_init_62 : decode cX8_init 62 = .ok (.aastore, 1) := by decide +kernel
theorem dX8_init_63 : decode cX8_init 63 = .ok (.dup, 1) := by decide +kernel
theorem dX8_init_64 : decode cX8_init 64 = .ok (.iconst 1, 1) := by decide +kernel
theorem dX8_init_65 : decode cX8_init 65 = .ok (.new 26, 3) := by decide +kernel
theorem dX8_init_68 : decode cX8_init 68 = .ok (.dup, 1) := by decide +kernel
theorem dX8_init_69 : decode cX8_init 69 = .ok (.invokespecial 28, 3) := by decide +kernel
theorem dX8_init_72 : decode cX8_init 72 = .ok (.aastore, 1) := by decide +kernel
theorem dX8_init_73 : decode cX8_init 73 = .ok (.putfield 33, 3) := by decide +kernel
theorem dX8_init_76 : decode cX8_init 76 = .ok (.aload_n 0, 1) := by decide +kernel
theorem dX8_init_77 : decode cX8_init 77 = .ok (.new 37, 3) := by decide +kernel
theorem dX8_init_80 : decode cX8_init 80 = .ok (.dup, 1) := by decide +kernel
theorem dX8_init_81 : decode cX8_init 81 = .ok (.invokespecial 39, 3) := by decide +kernel
theorem dX8_init_84 : decode cX8_init 84 = .ok (.putfield 40, 3) := by decide +kernel
theorem dX8_init_87 : decode cX8_init 87 = .ok (.aload_n 0, 1) := by decide +kernel
theorem dX8_init_88 : decode cX8_init 88 = .ok (.new 44, 3) := by decide +kernel
theorem dX8_init_91 : decode cX8_init 91 = .ok (.dup, 1) := by decide +kernel
theorem dX8_init_92 : decode cX8_init 92 = .ok (.invokespecial 46, 3) := by decide +kernel
theorem dX8_init_95 : decode cX8_init 95 = .ok (.putfield 47, 3) := by decide +kernel
theorem dX8_init_98 : decode cX8_init 98 = .ok (.aload_n 0, 1) := by decide +kernel
theorem dX8_init_99 : decode cX8_init 99 = .ok (.new 51, 3) := by decide +kernel
theorem dX8_init_102 : decode cX8_init 102 = .ok (.dup, 1) := by decide +kernel
theorem dX8_init_103 : decode cX8_init 103 = .ok (.invokespecial 53, 3) := by decide +kernel
theorem dX8_init_106 : decode cX8_init 106 = .ok (.putfield 54, 3) := by decide +kernel
theorem dX8_init_109 : decode cX8_init 109 = .ok (.aload_n 0, 1) := by decide +kernel
theorem dX8_init_110 : decode cX8_init 110 = .ok (.new 58, 3) := by decide +kernel
theorem dX8_init_113 : decode cX8_init 113 = .ok (.dup, 1) := by decide +kernel
theorem dX8_init_114 : decode cX8_init 114 = .ok (.invokespecial 60, 3) := by decide +kernel
theorem dX8_init_117 : decode cX8_init 117 = .ok (.putfield 61, 3) := by decide +kernel
theorem dX8_init_120 : decode cX8_init 120 = .ok (.aload_n 0, 1) := by decide +kernel
theorem dX8_init_121 : decode cX8_init 121 = .ok (.getfield 29, 3) := by decide +kernel
theorem dX8_init_124 : decode cX8_init 124 = .ok (.getfield 65, 3) := by decide +kernel
theorem dX8_init_127 : decode cX8_init 127 = .ok (.invokevirtual 68, 3) := by decide +kernel
theorem dX8_init_130 : decode cX8_init 130 = .ok (.return_, 1) := by decide +kernel
set_option maxRecDepth 20000 in
theorem ggX8_type_X6_add : GoodIn wsX8_type wsX6_add := goodIn_r _ [6, 7, 8, 22, 23, 24, 25, 26, 27, 28, 29, 30] (by decide +kernel) (by decide +kernel)
set_option maxRecDepth 20000 in
theorem gX8_type_X6_add : GoodIn wsX8_type (wsV RX8 71 RX6 yX6_add wsX6_add) := goodIn_app (goodIn_of _ (by decide +kernel)) ggX8_type_X6_add
set_option maxRecDepth 20000 in
theorem ggX8_type_X6_size : GoodIn wsX8_type wsX6_size := goodIn_r _ [12, 7, 22, 23, 24, 25, 26, 27, 28, 29, 30] (by decide +kernel) (by decide +kernel)
set_option maxRecDepth 20000 in
theorem gX8_type_X6_size : GoodIn wsX8_type (wsV RX8 75 RX6 yX6_size wsX6_size) := goodIn_app (goodIn_of _ (by decide +kernel)) ggX8_type_X6_size
theorem dX8_type_0 : decode cX8_type 0 = .ok (.iload_n 1, 1) := by decide +kernel
theorem dX8_type_1 : decode cX8_type 1 = .ok (.ifCond .lt 10, 3) := by decide +kernel
theorem dX8_type_4 : decode cX8_type 4 = .ok (.iload_n 1, 1) := by decide +kernel
theorem dX8_type_5 : decode cX8_type 5 = .ok (.sipush 255, 3) := by decide +kernel
theorem dX8_type_8 : decode cX8_type 8 = .ok (.if_icmp .le 5, 3) := by decide +kernel
theorem dX8_type_11 : decode cX8_type 11 = .ok (.iconst (-1), 1) := by decide +kernel
theorem dX8_type_12 : decode cX8_type 12 = .ok (.ireturn, 1) := by decide +kernel
theorem dX8_type_13 : decode cX8_type 13 = .ok (.aload_n 0, 1) := by decide +kernel
theorem dX8_type_14 : decode cX8_type 14 = .ok (.getfield 12, 3) := by decide +kernel
theorem dX8_type_17 : decode cX8_type 17 = .ok (.iload_n 1, 1) := by decide +kernel
theorem dX8_type_18 : decode cX8_type 18 = .ok (.invokevirtual 71, 3) := by decide +kernel
theorem dX8_type_21 : decode cX8_type 21 = .ok (.ifCond .eq 13, 3) := by decide +kernel
theorem dX8_type_24 : decode cX8_type 24 = .ok (.aload_n 0, 1) := by decide +kernel
theorem dX8_type_25 : decode cX8_type 25 = .ok (.getfield 12, 3) := by decide +kernel
theorem dX8_type_28 : decode cX8_type 28 = .ok (.invokevirtual 75, 3) := by decide +kernel
theorem dX8_type_31 : decode cX8_type 31 = .ok (.goto 5, 3) := by decide +kernel
theorem dX8_type_34 : decode cX8_type 34 = .ok (.bipush (-3), 2) := by decide +kernel
theorem dX8_type_36 : decode cX8_type 36 = .ok (.ireturn, 1) := by decide +kernel
set_option maxRecDepth 20000 in
theorem ggX8_clear_X6_empty : GoodIn wsX8_clear wsX6_empty := goodIn_r _ [6, 7, 17, 18, 19, 20, 21, 22, 23, 24, 25] (by decide +kernel) (by decide +kernel)
set_option maxRecDepth 20000 in
theorem gX8_clear_X6_empty : GoodIn wsX8_clear (wsV RX8 79 RX6 yX6_empty wsX6_empty) := goodIn_app (goodIn_of _ (by decide +kernel)) ggX8_clear_X6_empty
theorem dX8_clear_0 : decode cX8_clear 0 = .ok (.aload_n 0, 1) := by decide +kernel
theorem dX8_clear_1 : decode cX8_clear 1 = .ok (.getfield 12, 3) := by decide +kernel
theorem dX8_clear_4 : decode cX8_clear 4 = .ok (.invokevirtual 79, 3) := by decide +kernel
theorem dX8_clear_7 : decode cX8_clear 7 = .ok (.ireturn, 1) := by decide +kernel
set_option maxRecDepth 20000 in
theorem ggX8_puppet_X6_readInto : GoodIn wsX8_puppet wsX6_readInto := goodIn_r _ [13, 14, 15, 16, 17, 18, 19, 20, 21, 22, 23, 24, 25, 26, 27, 28, 29, 30, 31, 32, 33, 34, 35, 36, 37, 38, 39, 40, 12, 41, 42, 43, 44, 45, 46, 47, 48, 49, 50, 51, 52, 53, 54, 55, 56, 57, 58, 59, 60, 61, 62, 63, 64, 65, 66, 67, 68, 69, 70, 71, 72, 73, 74, 75, 76, 77, 78, 79, 80, 81, 82, 83, 84, 85, 86, 87, 88, 89, 90, 91, 92, 93, 94, 95, 96, 97, 98, 99, 100, 101, 102, 103, 104, 105, 106, 107, 108, 109, 110, 111, 112, 113, 114, 115, 116, 117, 118, 119, 120, 121, 122, 123, 124, 125, 126, 127, 128, 129, 130, 131, 132, 133, 134, 135, 136, 137, 138, 139, 201, 202, 203, 204, 205, 206, 207, 208, 209, 187, 188, 189, 190, 191, 192, 193, 194, 195, 196, 197, 210] (by decide +kernel) (by decide +kernel)
set_option maxRecDepth 20000 in
theorem gX8_puppet_X6_readInto : GoodIn wsX8_puppet (wsV RX8 81 RX6 yX6_readInto wsX6_readInto) := goodIn_app (goodIn_of _ (by decide +kernel)) ggX8_puppet_X6_readInto
set_option maxRecDepth 20000 in
theorem ggX8_puppet_X6_empty : GoodIn wsX8_puppet wsX6_empty := goodIn_r _ [143, 42, 201, 202, 203, 204, 205, 206, 207, 208, 209] (by decide +kernel) (by decide +kernel)
set_option maxRecDepth 20000 in
theorem gX8_puppet_X6_empty : GoodIn wsX8_puppet (wsV RX8 79 RX6 yX6_empty wsX6_empty) := goodIn_app (goodIn_of _ (by decide +kernel)) ggX8_puppet_X6_empty
set_option maxRecDepth 20000 in
theorem ggX8_puppet_X0_copyFrom : GoodIn wsX8_puppet wsX0_copyFrom := goodIn_r _ [147, 101, 148, 149, 150, 151, 102, 103, 113, 130, 131, 104, 27, 24, 25, 26, 152, 153, 154, 31, 155, 33, 156, 187, 188, 189, 190, 191, 192, 193, 194, 195, 196, 197, 210] (by decide +kernel) (by decide +kernel)
set_option maxRecDepth 20000 in
theorem gX8_puppet_X0_copyFrom : GoodIn wsX8_puppet (wsV RX8 85 RX0 yX0_copyFrom wsX0_copyFrom) := goodIn_app (goodIn_of _ (by decide +kernel)) ggX8_puppet_X0_copyFrom
set_option maxRecDepth 20000 in
theorem ggX8_puppet_X5_begin : GoodIn wsX8_puppet wsX5_begin := goodIn_r _ [161, 162, 163, 164, 153, 154, 31, 155, 33, 156, 149, 150, 151, 165, 166, 167, 168, 169, 170, 171, 198, 199, 200, 210, 211, 212, 213] (by decide +kernel) (by decide +kernel)
set_option maxRecDepth 20000 in
theorem gX8_puppet_X5_begin : GoodIn wsX8_puppet (wsV RX8 92 RX5 yX5_begin wsX5_begin) := goodIn_app (goodIn_of _ (by decide +kernel)) ggX8_puppet_X5_begin
set_option maxRecDepth 20000 in
theorem ggX8_puppet_X7_empty : GoodIn wsX8_puppet wsX7_empty := goodIn_r _ [176, 177, 214, 215, 216, 217, 218] (by decide +kernel) (by decide +kernel)
set_option maxRecDepth 20000 in
theorem gX8_puppet_X7_empty : GoodIn wsX8_puppet (wsV RX8 100 RX7 yX7_empty wsX7_empty) := goodIn_app (goodIn_of _ (by decide +kernel)) ggX8_puppet_X7_empty
theorem dX8_puppet_0 : decode cX8_puppet 0 = .ok (.aload_n 0, 1) := by decide +kernel
theorem dX8_puppet_1 : decode cX8_puppet 1 = .ok (.getfield 12, 3) := by decide +kernel
theorem dX8_puppet_4 : decode cX8_puppet 4 = .ok (.aload_n 0, 1) := by decide +kernel
theorem dX8_puppet_5 : decode cX8_puppet 5 = .ok (.getfield 23, 3) := by decide +kernel
theorem dX8_puppet_8 : decode cX8_puppet 8 = .ok (.invokevirtual 81, 3) := by decide +kernel
theorem dX8_puppet_11 : decode cX8_puppet 11 = .ok (.istore_n 1, 1) := by decide +kernel
theorem dX8_puppet_12 : decode cX8_puppet 12 = .ok (.iload_n 1, 1) := by decide +kernel
theorem dX8_puppet_13 : decode cX8_puppet 13 = .ok (.ifCond .ge 5, 3) := by decide +kernel
theorem dX8_puppet_16 : decode cX8_puppet 16 = .ok (.iload_n 1, 1) := by decide +kernel
theorem dX8_puppet_17 : decode cX8_puppet 17 = .ok (.ireturn, 1) := by decide +kernel
theorem dX8_puppet_18 : decode cX8_puppet 18 = .ok (.aload_n 0, 1) := by decide +kernel
theorem dX8_puppet_19 : decode cX8_puppet 19 = .ok (.getfield 12, 3) := by decide +kernel
theorem dX8_puppet_22 : decode cX8_puppet 22 = .ok (.invokevirtual 79, 3) := by decide +kernel
theorem dX8_puppet_25 : decode cX8_puppet 25 = .ok (.pop, 1) := by decide +kernel
theorem dX8_puppet_26 : decode cX8_puppet 26 = .ok (.aload_n 0, 1) := by decide +kernel
theorem dX8_puppet_27 : decode cX8_puppet 27 = .ok (.getfield 19, 3) := by decide +kernel
theorem dX8_puppet_30 : decode cX8_puppet 30 = .ok (.aload_n 0, 1) := by decide +kernel
theorem dX8_puppet_31 : decode cX8_puppet 31 = .ok (.getfield 23, 3) := by decide +kernel
theorem dX8_puppet_34 : decode cX8_puppet 34 = .ok (.invokevirtual 85, 3) := by decide +kernel
theorem dX8_puppet_37 : decode cX8_puppet 37 = .ok (.aload_n 0, 1) := by decide +kernel
theorem dX8_puppet_38 : decode cX8_puppet 38 = .ok (.getfield 29, 3) := by decide +kernel
theorem dX8_puppet_41 : decode cX8_puppet 41 = .ok (.aload_n 0, 1) := by decide +kernel
theorem dX8_puppet_42 : decode cX8_puppet 42 = .ok (.getfield 19, 3) := by decide +kernel
theorem dX8_puppet_45 : decode cX8_puppet 45 = .ok (.getfield 89, 3) := by decide +kernel
theorem dX8_puppet_48 : decode cX8_puppet 48 = .ok (.invokevirtual 92, 3) := by decide +kernel
theorem dX8_puppet_51 : decode cX8_puppet 51 = .ok (.iconst 0, 1) := by decide +kernel
theorem dX8_puppet_52 : decode cX8_puppet 52 = .ok (.istore_n 2, 1) := by decide +kernel
theorem dX8_puppet_53 : decode cX8_puppet 53 = .ok (.iload_n 2, 1) := by decide +kernel
theorem dX8_puppet_54 : decode cX8_puppet 54 = .ok (.iconst 2, 1) := by decide +kernel
theorem dX8_puppet_55 : decode cX8_puppet 55 = .ok (.if_icmp .ge 19, 3) := by decide +kernel
theorem dX8_puppet_58 : decode cX8_puppet 58 = .ok (.aload_n 0, 1) := by decide +kernel
theorem dX8_puppet_59 : decode cX8_puppet 59 = .ok (.getfield 33, 3) := by decide +kernel
theorem dX8_puppet_62 : decode cX8_puppet 62 = .ok (.iload_n 2, 1) := by decide +kernel
theorem dX8_puppet_63 : decode cX8_puppet 63 = .ok (.aaload, 1) := by decide +kernel
theorem dX8_puppet_64 : decode cX8_puppet 64 = .ok (.iconst 0, 1) := by decide +kernel
theorem dX8_puppet_65 : decode cX8_puppet 65 = .ok (.putfield 96, 3) := by decide +kernel
theorem dX8_puppet_68 : decode cX8_puppet 68 = .ok (.iinc 2 1, 3) := by decide +kernel
theorem dX8_puppet_71 : decode cX8_puppet 71 = .ok (.goto (-18), 3) := by decide +kernel
theorem dX8_puppet_74 : decode cX8_puppet 74 = .ok (.aload_n 0, 1) := by decide +kernel
theorem dX8_puppet_75 : decode cX8_puppet 75 = .ok (.getfield 40, 3) := by decide +kernel
theorem dX8_puppet_78 : decode cX8_puppet 78 = .ok (.invokevirtual 100, 3) := by decide +kernel
theorem dX8_puppet_81 : decode cX8_puppet 81 = .ok (.pop, 1) := by decide +kernel
theorem dX8_puppet_82 : decode cX8_puppet 82 = .ok (.iload_n 1, 1) := by decide +kernel
theorem dX8_puppet_83 : decode cX8_puppet 83 = .ok (.ireturn, 1) := by decide +kernel
set_option maxRecDepth 20000 in
theorem ggX8_limb_X8_isLimb : GoodIn wsX8_limb wsX8_isLimb := goodIn_r _ [11, 1, 12, 50, 51, 52, 53, 54, 55, 56, 57, 58, 59, 60, 61, 62, 63, 64, 65, 66, 67, 68, 69] (by decide +kernel) (by decide +kernel)
set_option maxRecDepth 20000 in
theorem gX8_limb_X8_isLimb : GoodIn wsX8_limb (wsV RX8 101 RX8 yX8_isLimb wsX8_isLimb) := goodIn_app (goodIn_of _ (by decide +kernel)) ggX8_limb_X8_isLimb
set_option maxRecDepth 20000 in
theorem ggX8_limb_X0_height : GoodIn wsX8_limb wsX0_height := goodIn_r _ [17, 18, 19, 20, 21, 22, 23, 24, 25, 16, 26, 27, 28, 29, 30, 31, 32, 33, 34, 35, 36, 37, 38, 39, 40, 41, 42, 43, 44, 45, 59, 60, 61, 62, 63, 64, 65, 66, 67, 68, 69, 73] (by decide +kernel) (by decide +kernel)
set_option maxRecDepth 20000 in
theorem gX8_limb_X0_height : GoodIn wsX8_limb (wsV RX8 114 RX0 yX0_height wsX0_height) := goodIn_app (goodIn_of _ (by decide +kernel)) ggX8_limb_X0_height
set_option maxRecDepth 20000 in
theorem ggX8_limb_X0_bearer : GoodIn wsX8_limb wsX0_bearer := goodIn_r _ [49, 18, 23, 24, 25, 16, 26, 27, 28, 29, 30, 31, 32, 33, 34, 35, 36, 37, 38, 39, 40, 41, 42, 43, 44, 45, 59, 60, 61, 62, 63, 64, 65, 66, 67, 68, 69, 73] (by decide +kernel) (by decide +kernel)
set_option maxRecDepth 20000 in
theorem gX8_limb_X0_bearer : GoodIn wsX8_limb (wsV RX8 118 RX0 yX0_bearer wsX0_bearer) := goodIn_app (goodIn_of _ (by decide +kernel)) ggX8_limb_X0_bearer
theorem dX8_limb_0 : decode cX8_limb 0 = .ok (.aload_n 0, 1) := by decide +kernel
theorem dX8_limb_1 : decode cX8_limb 1 = .ok (.iload_n 1, 1) := by decide +kernel
theorem dX8_limb_2 : decode cX8_limb 2 = .ok (.invokevirtual 101, 3) := by decide +kernel
theorem dX8_limb_5 : decode cX8_limb 5 = .ok (.ifCond .ne 5, 3) := by decide +kernel
theorem dX8_limb_8 : decode cX8_limb 8 = .ok (.iconst (-1), 1) := by decide +kernel
theorem dX8_limb_9 : decode cX8_limb 9 = .ok (.ireturn, 1) := by decide +kernel
theorem dX8_limb_10 : decode cX8_limb 10 = .ok (.iload_n 2, 1) := by decide +kernel
theorem dX8_limb_11 : decode cX8_limb 11 = .ok (.tableswitch 104 0 4 #[33, 52, 62, 72, 88], 33) := by decide +kernel
theorem dX8_limb_44 : decode cX8_limb 44 = .ok (.iload_n 1, 1) := by decide +kernel
theorem dX8_limb_45 : decode cX8_limb 45 = .ok (.ifCond .ne 8, 3) := by decide +kernel
theorem dX8_limb_48 : decode cX8_limb 48 = .ok (.bipush (-9), 2) := by decide +kernel
theorem dX8_limb_50 : decode cX8_limb 50 = .ok (.goto 12, 3) := by decide +kernel
theorem dX8_limb_53 : decode cX8_limb 53 = .ok (.aload_n 0, 1) := by decide +kernel
theorem dX8_limb_54 : decode cX8_limb 54 = .ok (.getfield 19, 3) := by decide +kernel
theorem dX8_limb_57 : decode cX8_limb 57 = .ok (.getfield 104, 3) := by decide +kernel
theorem dX8_limb_60 : decode cX8_limb 60 = .ok (.iload_n 1, 1) := by decide +kernel
theorem dX8_limb_61 : decode cX8_limb 61 = .ok (.iaload, 1) := by decide +kernel
theorem dX8_limb_62 : decode cX8_limb 62 = .ok (.ireturn, 1) := by decide +kernel
theorem dX8_limb_63 : decode cX8_limb 63 = .ok (.aload_n 0, 1) := by decide +kernel
theorem dX8_limb_64 : decode cX8_limb 64 = .ok (.getfield 19, 3) := by decide +kernel
theorem dX8_limb_67 : decode cX8_limb 67 = .ok (.getfield 108, 3) := by decide +kernel
theorem dX8_limb_70 : decode cX8_limb 70 = .ok (.iload_n 1, 1) := by decide +kernel
theorem dX8_limb_71 : decode cX8_limb 71 = .ok (.iaload, 1) := by decide +kernel
theorem dX8_limb_72 : decode cX8_limb 72 = .ok (.ireturn, 1) := by decide +kernel
theorem dX8_limb_73 : decode cX8_limb 73 = .ok (.aload_n 0, 1) := by decide +kernel
theorem dX8_limb_74 : decode cX8_limb 74 = .ok (.getfield 19, 3) := by decide +kernel
theorem dX8_limb_77 : decode cX8_limb 77 = .ok (.getfield 111, 3) := by decide +kernel
theorem dX8_limb_80 : decode cX8_limb 80 = .ok (.iload_n 1, 1) := by decide +kernel
theorem dX8_limb_81 : decode cX8_limb 81 = .ok (.iaload, 1) := by decide +kernel
theorem dX8_limb_82 : decode cX8_limb 82 = .ok (.ireturn, 1) := by decide +kernel
theorem dX8_limb_83 : decode cX8_limb 83 = .ok (.aload_n 0, 1) := by decide +kernel
theorem dX8_limb_84 : decode cX8_limb 84 = .ok (.getfield 19, 3) := by decide +kernel
theorem dX8_limb_87 : decode cX8_limb 87 = .ok (.aload_n 0, 1) := by decide +kernel
theorem dX8_limb_88 : decode cX8_limb 88 = .ok (.getfield 29, 3) := by decide +kernel
theorem dX8_limb_91 : decode cX8_limb 91 = .ok (.getfield 65, 3) := by decide +kernel
theorem dX8_limb_94 : decode cX8_limb 94 = .ok (.iload_n 1, 1) := by decide +kernel
theorem dX8_limb_95 : decode cX8_limb 95 = .ok (.invokevirtual 114, 3) := by decide +kernel
theorem dX8_limb_98 : decode cX8_limb 98 = .ok (.ireturn, 1) := by decide +kernel
theorem dX8_limb_99 : decode cX8_limb 99 = .ok (.aload_n 0, 1) := by decide +kernel
theorem dX8_limb_100 : decode cX8_limb 100 = .ok (.getfield 19, 3) := by decide +kernel
theorem dX8_limb_103 : decode cX8_limb 103 = .ok (.aload_n 0, 1) := by decide +kernel
theorem dX8_limb_104 : decode cX8_limb 104 = .ok (.getfield 29, 3) := by decide +kernel
theorem dX8_limb_107 : decode cX8_limb 107 = .ok (.getfield 65, 3) := by decide +kernel
theorem dX8_limb_110 : decode cX8_limb 110 = .ok (.iload_n 1, 1) := by decide +kernel
theorem dX8_limb_111 : decode cX8_limb 111 = .ok (.invokevirtual 118, 3) := by decide +kernel
theorem dX8_limb_114 : decode cX8_limb 114 = .ok (.ireturn, 1) := by decide +kernel
theorem dX8_limb_115 : decode cX8_limb 115 = .ok (.iconst (-1), 1) := by decide +kernel
theorem dX8_limb_116 : decode cX8_limb 116 = .ok (.ireturn, 1) := by decide +kernel
set_option maxRecDepth 20000 in
theorem ggX8_string_X8_isString : GoodIn wsX8_string wsX8_isString := goodIn_r _ [10, 4, 11, 70, 71, 72, 73, 74, 75, 76, 77, 78, 82, 83, 84, 85, 86, 87, 88, 89, 90, 91, 92] (by decide +kernel) (by decide +kernel)
set_option maxRecDepth 20000 in
theorem gX8_string_X8_isString : GoodIn wsX8_string (wsV RX8 121 RX8 yX8_isString wsX8_isString) := goodIn_app (goodIn_of _ (by decide +kernel)) ggX8_string_X8_isString
set_option maxRecDepth 20000 in
theorem ggX8_string_X4_limbOf : GoodIn wsX8_string wsX4_limbOf := goodIn_r _ [16, 17, 93] (by decide +kernel) (by decide +kernel)
set_option maxRecDepth 20000 in
theorem gX8_string_X4_limbOf : GoodIn wsX8_string (wsV RX8 125 RX4 yX4_limbOf wsX4_limbOf) := goodIn_app (goodIn_of _ (by decide +kernel)) ggX8_string_X4_limbOf
set_option maxRecDepth 20000 in
theorem ggX8_string_X4_holeOf : GoodIn wsX8_string wsX4_holeOf := goodIn_r _ [21, 17, 93] (by decide +kernel) (by decide +kernel)
set_option maxRecDepth 20000 in
theorem gX8_string_X4_holeOf : GoodIn wsX8_string (wsV RX8 129 RX4 yX4_holeOf wsX4_holeOf) := goodIn_app (goodIn_of _ (by decide +kernel)) ggX8_string_X4_holeOf
set_option maxRecDepth 20000 in
theorem ggX8_string_X4_lengthOf : GoodIn wsX8_string wsX4_lengthOf := goodIn_r _ [25, 17, 93] (by decide +kernel) (by decide +kernel)
set_option maxRecDepth 20000 in
theorem gX8_string_X4_lengthOf : GoodIn wsX8_string (wsV RX8 132 RX4 yX4_lengthOf wsX4_lengthOf) := goodIn_app (goodIn_of _ (by decide +kernel)) ggX8_string_X4_lengthOf
set_option maxRecDepth 20000 in
theorem ggX8_string_X4_endOf : GoodIn wsX8_string wsX4_endOf := goodIn_r _ [29, 17, 93] (by decide +kernel) (by decide +kernel)
set_option maxRecDepth 20000 in
theorem gX8_string_X4_endOf : GoodIn wsX8_string (wsV RX8 138 RX4 yX4_endOf wsX4_endOf) := goodIn_app (goodIn_of _ (by decide +kernel)) ggX8_string_X4_endOf
set_option maxRecDepth 20000 in
theorem ggX8_string_X0_isTaut : GoodIn wsX8_string wsX0_isTaut := goodIn_r _ [34, 35, 27, 28, 15, 29, 17, 36, 37, 38, 39, 40, 13, 14, 16, 41, 42, 43, 33, 44, 45, 46, 47, 48, 49, 50, 51, 52, 53, 54, 55, 56, 57, 58, 93, 82, 83, 84, 85, 86, 87, 88, 89, 90, 91, 92] (by decide +kernel) (by decide +kernel)
set_option maxRecDepth 20000 in
theorem gX8_string_X0_isTaut : GoodIn wsX8_string (wsV RX8 141 RX0 yX0_isTaut wsX0_isTaut) := goodIn_app (goodIn_of _ (by decide +kernel)) ggX8_string_X0_isTaut
set_option maxRecDepth 20000 in
theorem ggX8_string_X0_load : GoodIn wsX8_string wsX0_load := goodIn_r _ [62, 63, 64, 65, 66, 67, 33, 68, 45, 50, 51, 52, 53, 36, 37, 38, 15, 39, 17, 35, 27, 28, 29, 40, 13, 14, 16, 54, 55, 56, 57, 58, 82, 83, 84, 85, 86, 87, 88, 89, 90, 91, 92, 93] (by decide +kernel) (by decide +kernel)
set_option maxRecDepth 20000 in
theorem gX8_string_X0_load : GoodIn wsX8_string (wsV RX8 145 RX0 yX0_load wsX0_load) := goodIn_app (goodIn_of _ (by decide +kernel)) ggX8_string_X0_load
set_option maxRecDepth 20000 in
theorem ggX8_string_X4_isCut : GoodIn wsX8_string wsX4_isCut := goodIn_r _ [39, 17, 93] (by decide +kernel) (by decide +kernel)
set_option maxRecDepth 20000 in
theorem gX8_string_X4_isCut : GoodIn wsX8_string (wsV RX8 148 RX4 yX4_isCut wsX4_isCut) := goodIn_app (goodIn_of _ (by decide +kernel)) ggX8_string_X4_isCut
theorem dX8_string_0 : decode cX8_string 0 = .ok (.aload_n 0, 1) := by decide +kernel
theorem dX8_string_1 : decode cX8_string 1 = .ok (.iload_n 1, 1) := by decide +kernel
theorem dX8_string_2 : decode cX8_string 2 = .ok (.invokevirtual 121, 3) := by decide +kernel
theorem dX8_string_5 : decode cX8_string 5 = .ok (.ifCond .ne 6, 3) := by decide +kernel
theorem dX8_string_8 : decode cX8_string 8 = .ok (.ldc 124, 2) := by decide +kernel
theorem dX8_string_10 : decode cX8_string 10 = .ok (.ireturn, 1) := by decide +kernel
theorem dX8_string_11 : decode cX8_string 11 = .ok (.iload_n 2, 1) := by decide +kernel
theorem dX8_string_12 : decode cX8_string 12 = .ok (.tableswitch 166 0 7 #[48, 60, 72, 84, 94, 106, 130, 146], 48) := by decide +kernel
theorem dX8_string_60 : decode cX8_string 60 = .ok (.aload_n 0, 1) := by decide +kernel
theorem dX8_string_61 : decode cX8_string 61 = .ok (.getfield 29, 3) := by decide +kernel
theorem dX8_string_64 : decode cX8_string 64 = .ok (.getfield 65, 3) := by decide +kernel
theorem dX8_string_67 : decode cX8_string 67 = .ok (.iload_n 1, 1) := by decide +kernel
theorem dX8_string_68 : decode cX8_string 68 = .ok (.invokevirtual 125, 3) := by decide +kernel
theorem dX8_string_71 : decode cX8_string 71 = .ok (.ireturn, 1) := by decide +kernel
theorem dX8_string_72 : decode cX8_string 72 = .ok (.aload_n 0, 1) := by decide +kernel
theorem dX8_string_73 : decode cX8_string 73 = .ok (.getfield 29, 3) := by decide +kernel
theorem dX8_string_76 : decode cX8_string 76 = .ok (.getfield 65, 3) := by decide +kernel
theorem dX8_string_79 : decode cX8_string 79 = .ok (.iload_n 1, 1) := by decide +kernel
theorem dX8_string_80 : decode cX8_string 80 = .ok (.invokevirtual 129, 3) := by decide +kernel
theorem dX8_string_83 : decode cX8_string 83 = .ok (.ireturn, 1) := by decide +kernel
theorem dX8_string_84 : decode cX8_string 84 = .ok (.aload_n 0, 1) := by decide +kernel
theorem dX8_string_85 : decode cX8_string 85 = .ok (.getfield 29, 3) := by decide +kernel
theorem dX8_string_88 : decode cX8_string 88 = .ok (.getfield 65, 3) := by decide +kernel
theorem dX8_string_91 : decode cX8_string 91 = .ok (.iload_n 1, 1) := by decide +kernel
theorem dX8_string_92 : decode cX8_string 92 = .ok (.invokevirtual 132, 3) := by decide +kernel
theorem dX8_string_95 : decode cX8_string 95 = .ok (.ireturn, 1) := by decide +kernel
theorem dX8_string_96 : decode cX8_string 96 = .ok (.aload_n 0, 1) := by decide +kernel
theorem dX8_string_97 : decode cX8_string 97 = .ok (.getfield 19, 3) := by decide +kernel
theorem dX8_string_100 : decode cX8_string 100 = .ok (.getfield 135, 3) := by decide +kernel
theorem dX8_string_103 : decode cX8_string 103 = .ok (.iload_n 1, 1) := by decide +kernel
theorem dX8_string_104 : decode cX8_string 104 = .ok (.iaload, 1) := by decide +kernel
theorem dX8_string_105 : decode cX8_string 105 = .ok (.ireturn, 1) := by decide +kernel
theorem dX8_string_106 : decode cX8_string 106 = .ok (.aload_n 0, 1) := by decide +kernel
theorem dX8_string_107 : decode cX8_string 107 = .ok (.getfield 29, 3) := by decide +kernel
theorem dX8_string_110 : decode cX8_string 110 = .ok (.getfield 65, 3) := by decide +kernel
theorem dX8_string_113 : decode cX8_string 113 = .ok (.iload_n 1, 1) := by decide +kernel
theorem dX8_string_114 : decode cX8_string 114 = .ok (.invokevirtual 138, 3) := by decide +kernel
theorem dX8_string_117 : decode cX8_string 117 = .ok (.ireturn, 1) := by decide +kernel
theorem dX8_string_118 : decode cX8_string 118 = .ok (.aload_n 0, 1) := by decide +kernel
theorem dX8_string_119 : decode cX8_string 119 = .ok (.getfield 19, 3) := by decide +kernel
theorem dX8_string_122 : decode cX8_string 122 = .ok (.aload_n 0, 1) := by decide +kernel
theorem dX8_string_123 : decode cX8_string 123 = .ok (.getfield 29, 3) := by decide +kernel
theorem dX8_string_126 : decode cX8_string 126 = .ok (.getfield 65, 3) := by decide +kernel
theorem dX8_string_129 : decode cX8_string 129 = .ok (.iload_n 1, 1) := by decide +kernel
theorem dX8_string_130 : decode cX8_string 130 = .ok (.invokevirtual 141, 3) := by decide +kernel
theorem dX8_string_133 : decode cX8_string 133 = .ok (.ifCond .eq 7, 3) := by decide +kernel
theorem dX8_string_136 : decode cX8_string 136 = .ok (.iconst 1, 1) := by decide +kernel
theorem dX8_string_137 : decode cX8_string 137 = .ok (.goto 4, 3) := by decide +kernel
theorem dX8_string_140 : decode cX8_string 140 = .ok (.iconst 0, 1) := by decide +kernel
theorem dX8_string_141 : decode cX8_string 141 = .ok (.ireturn, 1) := by decide +kernel
theorem dX8_string_142 : decode cX8_string 142 = .ok (.aload_n 0, 1) := by decide +kernel
theorem dX8_string_143 : decode cX8_string 143 = .ok (.getfield 19, 3) := by decide +kernel
theorem dX8_string_146 : decode cX8_string 146 = .ok (.aload_n 0, 1) := by decide +kernel
theorem dX8_string_147 : decode cX8_string 147 = .ok (.getfield 29, 3) := by decide +kernel
theorem dX8_string_150 : decode cX8_string 150 = .ok (.getfield 65, 3) := by decide +kernel
theorem dX8_string_153 : decode cX8_string 153 = .ok (.iload_n 1, 1) := by decide +kernel
theorem dX8_string_154 : decode cX8_string 154 = .ok (.invokevirtual 145, 3) := by decide +kernel
theorem dX8_string_157 : decode cX8_string 157 = .ok (.ireturn, 1) := by decide +kernel
theorem dX8_string_158 : decode cX8_string 158 = .ok (.aload_n 0, 1) := by decide +kernel
theorem dX8_string_159 : decode cX8_string 159 = .ok (.getfield 29, 3) := by decide +kernel
theorem dX8_string_162 : decode cX8_string 162 = .ok (.getfield 65, 3) := by decide +kernel
theorem dX8_string_165 : decode cX8_string 165 = .ok (.iload_n 1, 1) := by decide +kernel
theorem dX8_string_166 : decode cX8_string 166 = .ok (.invokevirtual 148, 3) := by decide +kernel
theorem dX8_string_169 : decode cX8_string 169 = .ok (.ifCond .eq 7, 3) := by decide +kernel
theorem dX8_string_172 : decode cX8_string 172 = .ok (.iconst 1, 1) := by decide +kernel
theorem dX8_string_173 : decode cX8_string 173 = .ok (.goto 4, 3) := by decide +kernel
theorem dX8_string_176 : decode cX8_string 176 = .ok (.iconst 0, 1) := by decide +kernel
theorem dX8_string_177 : decode cX8_string 177 = .ok (.ireturn, 1) := by decide +kernel
theorem dX8_string_178 : decode cX8_string 178 = .ok (.ldc 124, 2) := by decide +kernel
theorem dX8_string_180 : decode cX8_string 180 = .ok (.ireturn, 1) := by decide +kernel
set_option maxRecDepth 20000 in
theorem ggX8_beat_X8_isBeat : GoodIn wsX8_beat wsX8_isBeat := goodIn_r _ [9, 2, 10, 11, 12, 13, 14, 15, 16, 17, 18, 19, 20, 21, 22, 23, 24, 25, 26, 27, 28, 29, 30] (by decide +kernel) (by decide +kernel)
set_option maxRecDepth 20000 in
theorem gX8_beat_X8_isBeat : GoodIn wsX8_beat (wsV RX8 151 RX8 yX8_isBeat wsX8_isBeat) := goodIn_app (goodIn_of _ (by decide +kernel)) ggX8_beat_X8_isBeat
theorem dX8_beat_0 : decode cX8_beat 0 = .ok (.aload_n 0, 1) := by decide +kernel
theorem dX8_beat_1 : decode cX8_beat 1 = .ok (.iload_n 1, 1) := by decide +kernel
theorem dX8_beat_2 : decode cX8_beat 2 = .ok (.invokevirtual 151, 3) := by decide +kernel
theorem dX8_beat_5 : decode cX8_beat 5 = .ok (.ifCond .ne 6, 3) := by decide +kernel
theorem dX8_beat_8 : decode cX8_beat 8 = .ok (.ldc 124, 2) := by decide +kernel
theorem dX8_beat_10 : decode cX8_beat 10 = .ok (.ireturn, 1) := by decide +kernel
theorem dX8_beat_11 : decode cX8_beat 11 = .ok (.iload_n 2, 1) := by decide +kernel
theorem dX8_beat_12 : decode cX8_beat 12 = .ok (.lookupswitch 48 #[(0, 28), (1, 38)], 28) := by decide +kernel
theorem dX8_beat_40 : decode cX8_beat 40 = .ok (.aload_n 0, 1) := by decide +kernel
theorem dX8_beat_41 : decode cX8_beat 41 = .ok (.getfield 19, 3) := by decide +kernel
theorem dX8_beat_44 : decode cX8_beat 44 = .ok (.getfield 154, 3) := by decide +kernel
theorem dX8_beat_47 : decode cX8_beat 47 = .ok (.iload_n 1, 1) := by decide +kernel
theorem dX8_beat_48 : decode cX8_beat 48 = .ok (.iaload, 1) := by decide +kernel
theorem dX8_beat_49 : decode cX8_beat 49 = .ok (.ireturn, 1) := by decide +kernel
theorem dX8_beat_50 : decode cX8_beat 50 = .ok (.aload_n 0, 1) := by decide +kernel
theorem dX8_beat_51 : decode cX8_beat 51 = .ok (.getfield 19, 3) := by decide +kernel
theorem dX8_beat_54 : decode cX8_beat 54 = .ok (.getfield 157, 3) := by decide +kernel
theorem dX8_beat_57 : decode cX8_beat 57 = .ok (.iload_n 1, 1) := by decide +kernel
theorem dX8_beat_58 : decode cX8_beat 58 = .ok (.iaload, 1) := by decide +kernel
theorem dX8_beat_59 : decode cX8_beat 59 = .ok (.ireturn, 1) := by decide +kernel
theorem dX8_beat_60 : decode cX8_beat 60 = .ok (.ldc 124, 2) := by decide +kernel
theorem dX8_beat_62 : decode cX8_beat 62 = .ok (.ireturn, 1) := by decide +kernel
set_option maxRecDepth 20000 in
theorem ggX8_far_X8_isLimb : GoodIn wsX8_far wsX8_isLimb := goodIn_r _ [6, 1, 7, 14, 15, 16, 17, 18, 19, 20, 21, 22, 23, 24, 25, 26, 27, 28, 29, 30, 31, 32, 33] (by decide +kernel) (by decide +kernel)
set_option maxRecDepth 20000 in
theorem gX8_far_X8_isLimb : GoodIn wsX8_far (wsV RX8 101 RX8 yX8_isLimb wsX8_isLimb) := goodIn_app (goodIn_of _ (by decide +kernel)) ggX8_far_X8_isLimb
set_option maxRecDepth 20000 in
theorem ggX8_far_X0_apart : GoodIn wsX8_far wsX0_apart := goodIn_r _ [12, 13, 23, 24, 25, 26, 27, 28, 29, 30, 31, 32, 33] (by decide +kernel) (by decide +kernel)
set_option maxRecDepth 20000 in
theorem gX8_far_X0_apart : GoodIn wsX8_far (wsV RX8 160 RX0 yX0_apart wsX0_apart) := goodIn_app (goodIn_of _ (by decide +kernel)) ggX8_far_X0_apart
theorem dX8_far_0 : decode cX8_far 0 = .ok (.aload_n 0, 1) := by decide +kernel
theorem dX8_far_1 : decode cX8_far 1 = .ok (.iload_n 1, 1) := by decide +kernel
theorem dX8_far_2 : decode cX8_far 2 = .ok (.invokevirtual 101, 3) := by decide +kernel
theorem dX8_far_5 : decode cX8_far 5 = .ok (.ifCond .eq 23, 3) := by decide +kernel
theorem dX8_far_8 : decode cX8_far 8 = .ok (.aload_n 0, 1) := by decide +kernel
theorem dX8_far_9 : decode cX8_far 9 = .ok (.iload_n 2, 1) := by decide +kernel
theorem dX8_far_10 : decode cX8_far 10 = .ok (.invokevirtual 101, 3) := by decide +kernel
theorem dX8_far_13 : decode cX8_far 13 = .ok (.ifCond .eq 15, 3) := by decide +kernel
theorem dX8_far_16 : decode cX8_far 16 = .ok (.aload_n 0, 1) := by decide +kernel
theorem dX8_far_17 : decode cX8_far 17 = .ok (.getfield 19, 3) := by decide +kernel
theorem dX8_far_20 : decode cX8_far 20 = .ok (.iload_n 1, 1) := by decide +kernel
theorem dX8_far_21 : decode cX8_far 21 = .ok (.iload_n 2, 1) := by decide +kernel
theorem dX8_far_22 : decode cX8_far 22 = .ok (.invokevirtual 160, 3) := by decide +kernel
theorem dX8_far_25 : decode cX8_far 25 = .ok (.goto 4, 3) := by decide +kernel
theorem dX8_far_28 : decode cX8_far 28 = .ok (.iconst (-1), 1) := by decide +kernel
theorem dX8_far_29 : decode cX8_far 29 = .ok (.ireturn, 1) := by decide +kernel
set_option maxRecDepth 20000 in
theorem ggX8_lifts_X4_lift : GoodIn wsX8_lifts wsX4_lift := goodIn_r _ [7, 8, 52] (by decide +kernel) (by decide +kernel)
set_option maxRecDepth 20000 in
theorem gX8_lifts_X4_lift : GoodIn wsX8_lifts (wsV RX8 164 RX4 yX4_lift wsX4_lift) := goodIn_app (goodIn_of _ (by decide +kernel)) ggX8_lifts_X4_lift
set_option maxRecDepth 20000 in
theorem ggX8_lifts_X5_remember : GoodIn wsX8_lifts wsX5_remember := goodIn_r _ [13, 14, 15, 16, 17, 18, 19, 20, 21, 22, 23, 24, 25, 26, 27, 28, 29, 30, 6, 31, 8, 32, 33, 34, 35, 49, 50, 51, 53, 54, 55, 52] (by decide +kernel) (by decide +kernel)
set_option maxRecDepth 20000 in
theorem gX8_lifts_X5_remember : GoodIn wsX8_lifts (wsV RX8 167 RX5 yX5_remember wsX5_remember) := goodIn_app (goodIn_of _ (by decide +kernel)) ggX8_lifts_X5_remember
set_option maxRecDepth 20000 in
theorem ggX8_lifts_X4_setLift : GoodIn wsX8_lifts wsX4_setLift := goodIn_r _ [39, 8, 52] (by decide +kernel) (by decide +kernel)
set_option maxRecDepth 20000 in
theorem gX8_lifts_X4_setLift : GoodIn wsX8_lifts (wsV RX8 170 RX4 yX4_setLift wsX4_setLift) := goodIn_app (goodIn_of _ (by decide +kernel)) ggX8_lifts_X4_setLift
theorem dX8_lifts_0 : decode cX8_lifts 0 = .ok (.iload_n 1, 1) := by decide +kernel
theorem dX8_lifts_1 : decode cX8_lifts 1 = .ok (.bipush (-5), 2) := by decide +kernel
theorem dX8_lifts_3 : decode cX8_lifts 3 = .ok (.if_icmp .lt 12, 3) := by decide +kernel
theorem dX8_lifts_6 : decode cX8_lifts 6 = .ok (.iload_n 1, 1) := by decide +kernel
theorem dX8_lifts_7 : decode cX8_lifts 7 = .ok (.iconst 5, 1) := by decide +kernel
theorem dX8_lifts_8 : decode cX8_lifts 8 = .ok (.if_icmp .gt 7, 3) := by decide +kernel
theorem dX8_lifts_11 : decode cX8_lifts 11 = .ok (.iload_n 1, 1) := by decide +kernel
theorem dX8_lifts_12 : decode cX8_lifts 12 = .ok (.ifCond .ne 5, 3) := by decide +kernel
theorem dX8_lifts_15 : decode cX8_lifts 15 = .ok (.iconst (-1), 1) := by decide +kernel
theorem dX8_lifts_16 : decode cX8_lifts 16 = .ok (.ireturn, 1) := by decide +kernel
theorem dX8_lifts_17 : decode cX8_lifts 17 = .ok (.aload_n 0, 1) := by decide +kernel
theorem dX8_lifts_18 : decode cX8_lifts 18 = .ok (.getfield 29, 3) := by decide +kernel
theorem dX8_lifts_21 : decode cX8_lifts 21 = .ok (.getfield 65, 3) := by decide +kernel
theorem dX8_lifts_24 : decode cX8_lifts 24 = .ok (.invokevirtual 164, 3) := by decide +kernel
theorem dX8_lifts_27 : decode cX8_lifts 27 = .ok (.iload_n 1, 1) := by decide +kernel
theorem dX8_lifts_28 : decode cX8_lifts 28 = .ok (.iadd, 1) := by decide +kernel
theorem dX8_lifts_29 : decode cX8_lifts 29 = .ok (.istore_n 2, 1) := by decide +kernel
theorem dX8_lifts_30 : decode cX8_lifts 30 = .ok (.iload_n 2, 1) := by decide +kernel
theorem dX8_lifts_31 : decode cX8_lifts 31 = .ok (.ifCond .lt 9, 3) := by decide +kernel
theorem dX8_lifts_34 : decode cX8_lifts 34 = .ok (.iload_n 2, 1) := by decide +kernel
theorem dX8_lifts_35 : decode cX8_lifts 35 = .ok (.bipush 40, 2) := by decide +kernel
theorem dX8_lifts_37 : decode cX8_lifts 37 = .ok (.if_icmp .le 6, 3) := by decide +kernel
theorem dX8_lifts_40 : decode cX8_lifts 40 = .ok (.bipush (-2), 2) := by decide +kernel
theorem dX8_lifts_42 : decode cX8_lifts 42 = .ok (.ireturn, 1) := by decide +kernel
theorem dX8_lifts_43 : decode cX8_lifts 43 = .ok (.aload_n 0, 1) := by decide +kernel
theorem dX8_lifts_44 : decode cX8_lifts 44 = .ok (.getfield 29, 3) := by decide +kernel
theorem dX8_lifts_47 : decode cX8_lifts 47 = .ok (.invokevirtual 167, 3) := by decide +kernel
theorem dX8_lifts_50 : decode cX8_lifts 50 = .ok (.aload_n 0, 1) := by decide +kernel
theorem dX8_lifts_51 : decode cX8_lifts 51 = .ok (.getfield 29, 3) := by decide +kernel
theorem dX8_lifts_54 : decode cX8_lifts 54 = .ok (.getfield 65, 3) := by decide +kernel
theorem dX8_lifts_57 : decode cX8_lifts 57 = .ok (.iload_n 2, 1) := by decide +kernel
theorem dX8_lifts_58 : decode cX8_lifts 58 = .ok (.invokevirtual 170, 3) := by decide +kernel
theorem dX8_lifts_61 : decode cX8_lifts 61 = .ok (.iload_n 2, 1) := by decide +kernel
theorem dX8_lifts_62 : decode cX8_lifts 62 = .ok (.ireturn, 1) := by decide +kernel
set_option maxRecDepth 20000 in
theorem ggX8_tilts_X4_tilt : GoodIn wsX8_tilts wsX4_tilt := goodIn_r _ [8, 9, 53] (by decide +kernel) (by decide +kernel)
set_option maxRecDepth 20000 in
theorem gX8_tilts_X4_tilt : GoodIn wsX8_tilts (wsV RX8 174 RX4 yX4_tilt wsX4_tilt) := goodIn_app (goodIn_of _ (by decide +kernel)) ggX8_tilts_X4_tilt
set_option maxRecDepth 20000 in
theorem ggX8_tilts_X5_remember : GoodIn wsX8_tilts wsX5_remember := goodIn_r _ [14, 15, 16, 17, 18, 19, 20, 21, 22, 23, 24, 25, 26, 27, 28, 29, 30, 31, 7, 32, 9, 33, 34, 35, 36, 50, 51, 52, 54, 55, 56, 53] (by decide +kernel) (by decide +kernel)
set_option maxRecDepth 20000 in
theorem gX8_tilts_X5_remember : GoodIn wsX8_tilts (wsV RX8 167 RX5 yX5_remember wsX5_remember) := goodIn_app (goodIn_of _ (by decide +kernel)) ggX8_tilts_X5_remember
set_option maxRecDepth 20000 in
theorem ggX8_tilts_X4_setTilt : GoodIn wsX8_tilts wsX4_setTilt := goodIn_r _ [40, 9, 53] (by decide +kernel) (by decide +kernel)
set_option maxRecDepth 20000 in
theorem gX8_tilts_X4_setTilt : GoodIn wsX8_tilts (wsV RX8 177 RX4 yX4_setTilt wsX4_setTilt) := goodIn_app (goodIn_of _ (by decide +kernel)) ggX8_tilts_X4_setTilt
theorem dX8_tilts_0 : decode cX8_tilts 0 = .ok (.aload_n 0, 1) := by decide +kernel
theorem dX8_tilts_1 : decode cX8_tilts 1 = .ok (.getfield 29, 3) := by decide +kernel
theorem dX8_tilts_4 : decode cX8_tilts 4 = .ok (.getfield 65, 3) := by decide +kernel
theorem dX8_tilts_7 : decode cX8_tilts 7 = .ok (.invokevirtual 174, 3) := by decide +kernel
theorem dX8_tilts_10 : decode cX8_tilts 10 = .ok (.istore_n 2, 1) := by decide +kernel
theorem dX8_tilts_11 : decode cX8_tilts 11 = .ok (.iload_n 1, 1) := by decide +kernel
theorem dX8_tilts_12 : decode cX8_tilts 12 = .ok (.bipush (-3), 2) := by decide +kernel
theorem dX8_tilts_14 : decode cX8_tilts 14 = .ok (.if_icmp .lt 13, 3) := by decide +kernel
theorem dX8_tilts_17 : decode cX8_tilts 17 = .ok (.iload_n 1, 1) := by decide +kernel
theorem dX8_tilts_18 : decode cX8_tilts 18 = .ok (.iconst 3, 1) := by decide +kernel
theorem dX8_tilts_19 : decode cX8_tilts 19 = .ok (.if_icmp .gt 8, 3) := by decide +kernel
theorem dX8_tilts_22 : decode cX8_tilts 22 = .ok (.iload_n 1, 1) := by decide +kernel
theorem dX8_tilts_23 : decode cX8_tilts 23 = .ok (.iload_n 2, 1) := by decide +kernel
theorem dX8_tilts_24 : decode cX8_tilts 24 = .ok (.if_icmp .ne 6, 3) := by decide +kernel
theorem dX8_tilts_27 : decode cX8_tilts 27 = .ok (.ldc 124, 2) := by decide +kernel
theorem dX8_tilts_29 : decode cX8_tilts 29 = .ok (.ireturn, 1) := by decide +kernel
theorem dX8_tilts_30 : decode cX8_tilts 30 = .ok (.aload_n 0, 1) := by decide +kernel
theorem dX8_tilts_31 : decode cX8_tilts 31 = .ok (.getfield 29, 3) := by decide +kernel
theorem dX8_tilts_34 : decode cX8_tilts 34 = .ok (.invokevirtual 167, 3) := by decide +kernel
theorem dX8_tilts_37 : decode cX8_tilts 37 = .ok (.aload_n 0, 1) := by decide +kernel
theorem dX8_tilts_38 : decode cX8_tilts 38 = .ok (.getfield 29, 3) := by decide +kernel
theorem dX8_tilts_41 : decode cX8_tilts 41 = .ok (.getfield 65, 3) := by decide +kernel
theorem dX8_tilts_44 : decode cX8_tilts 44 = .ok (.iload_n 1, 1) := by decide +kernel
theorem dX8_tilts_45 : decode cX8_tilts 45 = .ok (.invokevirtual 177, 3) := by decide +kernel
theorem dX8_tilts_48 : decode cX8_tilts 48 = .ok (.iload_n 2, 1) := by decide +kernel
theorem dX8_tilts_49 : decode cX8_tilts 49 = .ok (.ireturn, 1) := by decide +kernel
set_option maxRecDepth 20000 in
theorem ggX8_cuts_X8_isString : GoodIn wsX8_cuts wsX8_isString := goodIn_r _ [7, 8, 9, 94, 95, 96, 97, 98, 99, 100, 101, 102, 106, 107, 108, 109, 110, 111, 112, 113, 114, 115, 116] (by decide +kernel) (by decide +kernel)
set_option maxRecDepth 20000 in
theorem gX8_cuts_X8_isString : GoodIn wsX8_cuts (wsV RX8 121 RX8 yX8_isString wsX8_isString) := goodIn_app (goodIn_of _ (by decide +kernel)) ggX8_cuts_X8_isString
set_option maxRecDepth 20000 in
theorem ggX8_cuts_X4_isCut : GoodIn wsX8_cuts wsX4_isCut := goodIn_r _ [14, 15, 117] (by decide +kernel) (by decide +kernel)
set_option maxRecDepth 20000 in
theorem gX8_cuts_X4_isCut : GoodIn wsX8_cuts (wsV RX8 148 RX4 yX4_isCut wsX4_isCut) := goodIn_app (goodIn_of _ (by decide +kernel)) ggX8_cuts_X4_isCut
set_option maxRecDepth 20000 in
theorem ggX8_cuts_X5_remember : GoodIn wsX8_cuts wsX5_remember := goodIn_r _ [20, 21, 22, 23, 24, 25, 26, 27, 28, 29, 30, 31, 32, 33, 34, 35, 36, 37, 13, 38, 15, 39, 40, 41, 42, 103, 104, 105, 118, 119, 120, 117] (by decide +kernel) (by decide +kernel)
set_option maxRecDepth 20000 in
theorem gX8_cuts_X5_remember : GoodIn wsX8_cuts (wsV RX8 167 RX5 yX5_remember wsX5_remember) := goodIn_app (goodIn_of _ (by decide +kernel)) ggX8_cuts_X5_remember
set_option maxRecDepth 20000 in
theorem ggX8_cuts_X4_cut : GoodIn wsX8_cuts wsX4_cut := goodIn_r _ [46, 15, 117] (by decide +kernel) (by decide +kernel)
set_option maxRecDepth 20000 in
theorem gX8_cuts_X4_cut : GoodIn wsX8_cuts (wsV RX8 180 RX4 yX4_cut wsX4_cut) := goodIn_app (goodIn_of _ (by decide +kernel)) ggX8_cuts_X4_cut
set_option maxRecDepth 20000 in
theorem ggX8_cuts_X4_setCut : GoodIn wsX8_cuts wsX4_setCut := goodIn_r _ [50, 15, 117] (by decide +kernel) (by decide +kernel)
set_option maxRecDepth 20000 in
theorem gX8_cuts_X4_setCut : GoodIn wsX8_cuts (wsV RX8 183 RX4 yX4_setCut wsX4_setCut) := goodIn_app (goodIn_of _ (by decide +kernel)) ggX8_cuts_X4_setCut
set_option maxRecDepth 20000 in
theorem ggX8_cuts_X8_howManyGrounded : GoodIn wsX8_cuts wsX8_howManyGrounded := goodIn_r _ [54, 8, 1, 2, 55, 56, 57, 58, 59, 60, 61, 62, 63, 64, 65, 66, 67, 33, 68, 69, 70, 71, 72, 73, 11, 12, 13, 14, 15, 74, 75, 76, 77, 78, 79, 80, 81, 82, 83, 84, 85, 86, 87, 88, 89, 90, 91, 92, 93, 94, 95, 96, 97, 98, 99, 100, 101, 102, 103, 104, 105, 106, 107, 108, 109, 110, 111, 112, 113, 114, 115, 116, 117] (by decide +kernel) (by decide +kernel)
set_option maxRecDepth 20000 in
theorem gX8_cuts_X8_howManyGrounded : GoodIn wsX8_cuts (wsV RX8 186 RX8 yX8_howManyGrounded wsX8_howManyGrounded) := goodIn_app (goodIn_of _ (by decide +kernel)) ggX8_cuts_X8_howManyGrounded
theorem dX8_cuts_0 : decode cX8_cuts 0 = .ok (.aload_n 0, 1) := by decide +kernel
theorem dX8_cuts_1 : decode cX8_cuts 1 = .ok (.iload_n 1, 1) := by decide +kernel
theorem dX8_cuts_2 : decode cX8_cuts 2 = .ok (.invokevirtual 121, 3) := by decide +kernel
theorem dX8_cuts_5 : decode cX8_cuts 5 = .ok (.ifCond .ne 5, 3) := by decide +kernel
theorem dX8_cuts_8 : decode cX8_cuts 8 = .ok (.iconst (-1), 1) := by decide +kernel
theorem dX8_cuts_9 : decode cX8_cuts 9 = .ok (.ireturn, 1) := by decide +kernel
theorem dX8_cuts_10 : decode cX8_cuts 10 = .ok (.aload_n 0, 1) := by decide +kernel
theorem dX8_cuts_11 : decode cX8_cuts 11 = .ok (.getfield 29, 3) := by decide +kernel
theorem dX8_cuts_14 : decode cX8_cuts 14 = .ok (.getfield 65, 3) := by decide +kernel
theorem dX8_cuts_17 : decode cX8_cuts 17 = .ok (.iload_n 1, 1) := by decide +kernel
theorem dX8_cuts_18 : decode cX8_cuts 18 = .ok (.invokevirtual 148, 3) := by decide +kernel
theorem dX8_cuts_21 : decode cX8_cuts 21 = .ok (.ifCond .eq 6, 3) := by decide +kernel
theorem dX8_cuts_24 : decode cX8_cuts 24 = .ok (.bipush (-2), 2) := by decide +kernel
theorem dX8_cuts_26 : decode cX8_cuts 26 = .ok (.ireturn, 1) := by decide +kernel
theorem dX8_cuts_27 : decode cX8_cuts 27 = .ok (.aload_n 0, 1) := by decide +kernel
theorem dX8_cuts_28 : decode cX8_cuts 28 = .ok (.getfield 29, 3) := by decide +kernel
theorem dX8_cuts_31 : decode cX8_cuts 31 = .ok (.invokevirtual 167, 3) := by decide +kernel
theorem dX8_cuts_34 : decode cX8_cuts 34 = .ok (.aload_n 0, 1) := by decide +kernel
theorem dX8_cuts_35 : decode cX8_cuts 35 = .ok (.getfield 29, 3) := by decide +kernel
theorem dX8_cuts_38 : decode cX8_cuts 38 = .ok (.getfield 65, 3) := by decide +kernel
theorem dX8_cuts_41 : decode cX8_cuts 41 = .ok (.aload_n 0, 1) := by decide +kernel
theorem dX8_cuts_42 : decode cX8_cuts 42 = .ok (.getfield 29, 3) := by decide +kernel
theorem dX8_cuts_45 : decode cX8_cuts 45 = .ok (.getfield 65, 3) := by decide +kernel
theorem dX8_cuts_48 : decode cX8_cuts 48 = .ok (.invokevirtual 180, 3) := by decide +kernel
theorem dX8_cuts_51 : decode cX8_cuts 51 = .ok (.iconst 1, 1) := by decide +kernel
theorem dX8_cuts_52 : decode cX8_cuts 52 = .ok (.iload_n 1, 1) := by decide +kernel
theorem dX8_cuts_53 : decode cX8_cuts 53 = .ok (.ishl, 1) := by decide +kernel
theorem dX8_cuts_54 : decode cX8_cuts 54 = .ok (.ior, 1) := by decide +kernel
theorem dX8_cuts_55 : decode cX8_cuts 55 = .ok (.invokevirtual 183, 3) := by decide +kernel
theorem dX8_cuts_58 : decode cX8_cuts 58 = .ok (.aload_n 0, 1) := by decide +kernel
theorem dX8_cuts_59 : decode cX8_cuts 59 = .ok (.invokevirtual 186, 3) := by decide +kernel
theorem dX8_cuts_62 : decode cX8_cuts 62 = .ok (.ireturn, 1) := by decide +kernel
set_option maxRecDepth 20000 in
theorem ggX8_ties_X8_isString : GoodIn wsX8_ties wsX8_isString := goodIn_r _ [7, 8, 9, 107, 108, 109, 110, 111, 112, 113, 114, 115, 119, 120, 121, 122, 123, 124, 125, 126, 127, 128, 129] (by decide +kernel) (by decide +kernel)
set_option maxRecDepth 20000 in
theorem gX8_ties_X8_isString : GoodIn wsX8_ties (wsV RX8 121 RX8 yX8_isString wsX8_isString) := goodIn_app (goodIn_of _ (by decide +kernel)) ggX8_ties_X8_isString
set_option maxRecDepth 20000 in
theorem ggX8_ties_X8_isLimb : GoodIn wsX8_ties wsX8_isLimb := goodIn_r _ [13, 8, 14, 107, 108, 109, 110, 111, 112, 113, 114, 115, 119, 120, 121, 122, 123, 124, 125, 126, 127, 128, 129] (by decide +kernel) (by decide +kernel)
set_option maxRecDepth 20000 in
theorem gX8_ties_X8_isLimb : GoodIn wsX8_ties (wsV RX8 101 RX8 yX8_isLimb wsX8_isLimb) := goodIn_app (goodIn_of _ (by decide +kernel)) ggX8_ties_X8_isLimb
set_option maxRecDepth 20000 in
theorem ggX8_ties_X4_isCut : GoodIn wsX8_ties wsX4_isCut := goodIn_r _ [19, 20, 130] (by decide +kernel) (by decide +kernel)
set_option maxRecDepth 20000 in
theorem gX8_ties_X4_isCut : GoodIn wsX8_ties (wsV RX8 148 RX4 yX4_isCut wsX4_isCut) := goodIn_app (goodIn_of _ (by decide +kernel)) ggX8_ties_X4_isCut
set_option maxRecDepth 20000 in
theorem ggX8_ties_X5_remember : GoodIn wsX8_ties wsX5_remember := goodIn_r _ [25, 26, 27, 28, 29, 30, 31, 32, 33, 34, 35, 36, 37, 38, 39, 40, 41, 42, 18, 43, 20, 44, 45, 46, 47, 116, 117, 118, 131, 132, 133, 130] (by decide +kernel) (by decide +kernel)
set_option maxRecDepth 20000 in
theorem gX8_ties_X5_remember : GoodIn wsX8_ties (wsV RX8 167 RX5 yX5_remember wsX5_remember) := goodIn_app (goodIn_of _ (by decide +kernel)) ggX8_ties_X5_remember
set_option maxRecDepth 20000 in
theorem ggX8_ties_X4_cut : GoodIn wsX8_ties wsX4_cut := goodIn_r _ [51, 20, 130] (by decide +kernel) (by decide +kernel)
set_option maxRecDepth 20000 in
theorem gX8_ties_X4_cut : GoodIn wsX8_ties (wsV RX8 180 RX4 yX4_cut wsX4_cut) := goodIn_app (goodIn_of _ (by decide +kernel)) ggX8_ties_X4_cut
set_option maxRecDepth 20000 in
theorem ggX8_ties_X4_setCut : GoodIn wsX8_ties wsX4_setCut := goodIn_r _ [55, 20, 130] (by decide +kernel) (by decide +kernel)
set_option maxRecDepth 20000 in
theorem gX8_ties_X4_setCut : GoodIn wsX8_ties (wsV RX8 183 RX4 yX4_setCut wsX4_setCut) := goodIn_app (goodIn_of _ (by decide +kernel)) ggX8_ties_X4_setCut
set_option maxRecDepth 20000 in
theorem ggX8_ties_X4_setLimb : GoodIn wsX8_ties wsX4_setLimb := goodIn_r _ [59, 20, 130] (by decide +kernel) (by decide +kernel)
set_option maxRecDepth 20000 in
theorem gX8_ties_X4_setLimb : GoodIn wsX8_ties (wsV RX8 189 RX4 yX4_setLimb wsX4_setLimb) := goodIn_app (goodIn_of _ (by decide +kernel)) ggX8_ties_X4_setLimb
set_option maxRecDepth 20000 in
theorem ggX8_ties_X4_setLength : GoodIn wsX8_ties wsX4_setLength := goodIn_r _ [63, 20, 130] (by decide +kernel) (by decide +kernel)
set_option maxRecDepth 20000 in
theorem gX8_ties_X4_setLength : GoodIn wsX8_ties (wsV RX8 193 RX4 yX4_setLength wsX4_setLength) := goodIn_app (goodIn_of _ (by decide +kernel)) ggX8_ties_X4_setLength
set_option maxRecDepth 20000 in
theorem ggX8_ties_X8_howManyGrounded : GoodIn wsX8_ties wsX8_howManyGrounded := goodIn_r _ [67, 8, 1, 2, 68, 69, 70, 71, 72, 73, 74, 75, 76, 77, 78, 79, 80, 38, 81, 82, 83, 84, 85, 86, 16, 17, 18, 19, 20, 87, 88, 89, 90, 91, 92, 93, 94, 95, 96, 97, 98, 99, 100, 101, 102, 103, 104, 105, 106, 107, 108, 109, 110, 111, 112, 113, 114, 115, 116, 117, 118, 119, 120, 121, 122, 123, 124, 125, 126, 127, 128, 129, 130] (by decide +kernel) (by decide +kernel)
set_option maxRecDepth 20000 in
theorem gX8_ties_X8_howManyGrounded : GoodIn wsX8_ties (wsV RX8 186 RX8 yX8_howManyGrounded wsX8_howManyGrounded) := goodIn_app (goodIn_of _ (by decide +kernel)) ggX8_ties_X8_howManyGrounded
theorem dX8_ties_0 : decode cX8_ties 0 = .ok (.aload_n 0, 1) := by decide +kernel
theorem dX8_ties_1 : decode cX8_ties 1 = .ok (.iload_n 1, 1) := by decide +kernel
theorem dX8_ties_2 : decode cX8_ties 2 = .ok (.invokevirtual 121, 3) := by decide +kernel
theorem dX8_ties_5 : decode cX8_ties 5 = .ok (.ifCond .eq 21, 3) := by decide +kernel
theorem dX8_ties_8 : decode cX8_ties 8 = .ok (.aload_n 0, 1) := by decide +kernel
theorem dX8_ties_9 : decode cX8_ties 9 = .ok (.iload_n 2, 1) := by decide +kernel
theorem dX8_ties_10 : decode cX8_ties 10 = .ok (.invokevirtual 101, 3) := by decide +kernel
theorem dX8_ties_13 : decode cX8_ties 13 = .ok (.ifCond .eq 13, 3) := by decide +kernel
theorem dX8_ties_16 : decode cX8_ties 16 = .ok (.iload_n 3, 1) := by decide +kernel
theorem dX8_ties_17 : decode cX8_ties 17 = .ok (.ifCond .lt 9, 3) := by decide +kernel
theorem dX8_ties_20 : decode cX8_ties 20 = .ok (.iload_n 3, 1) := by decide +kernel
theorem dX8_ties_21 : decode cX8_ties 21 = .ok (.bipush 40, 2) := by decide +kernel
theorem dX8_ties_23 : decode cX8_ties 23 = .ok (.if_icmp .le 5, 3) := by decide +kernel
theorem dX8_ties_26 : decode cX8_ties 26 = .ok (.iconst (-1), 1) := by decide +kernel
theorem dX8_ties_27 : decode cX8_ties 27 = .ok (.ireturn, 1) := by decide +kernel
theorem dX8_ties_28 : decode cX8_ties 28 = .ok (.aload_n 0, 1) := by decide +kernel
theorem dX8_ties_29 : decode cX8_ties 29 = .ok (.getfield 29, 3) := by decide +kernel
theorem dX8_ties_32 : decode cX8_ties 32 = .ok (.getfield 65, 3) := by decide +kernel
theorem dX8_ties_35 : decode cX8_ties 35 = .ok (.iload_n 1, 1) := by decide +kernel
theorem dX8_ties_36 : decode cX8_ties 36 = .ok (.invokevirtual 148, 3) := by decide +kernel
theorem dX8_ties_39 : decode cX8_ties 39 = .ok (.ifCond .ne 6, 3) := by decide +kernel
theorem dX8_ties_42 : decode cX8_ties 42 = .ok (.bipush (-2), 2) := by decide +kernel
theorem dX8_ties_44 : decode cX8_ties 44 = .ok (.ireturn, 1) := by decide +kernel
theorem dX8_ties_45 : decode cX8_ties 45 = .ok (.aload_n 0, 1) := by decide +kernel
theorem dX8_ties_46 : decode cX8_ties 46 = .ok (.getfield 29, 3) := by decide +kernel
theorem dX8_ties_49 : decode cX8_ties 49 = .ok (.invokevirtual 167, 3) := by decide +kernel
theorem dX8_ties_52 : decode cX8_ties 52 = .ok (.aload_n 0, 1) := by decide +kernel
theorem dX8_ties_53 : decode cX8_ties 53 = .ok (.getfield 29, 3) := by decide +kernel
theorem dX8_ties_56 : decode cX8_ties 56 = .ok (.getfield 65, 3) := by decide +kernel
theorem dX8_ties_59 : decode cX8_ties 59 = .ok (.aload_n 0, 1) := by decide +kernel
theorem dX8_ties_60 : decode cX8_ties 60 = .ok (.getfield 29, 3) := by decide +kernel
theorem dX8_ties_63 : decode cX8_ties 63 = .ok (.getfield 65, 3) := by decide +kernel
theorem dX8_ties_66 : decode cX8_ties 66 = .ok (.invokevirtual 180, 3) := by decide +kernel
theorem dX8_ties_69 : decode cX8_ties 69 = .ok (.iconst 1, 1) := by decide +kernel
theorem dX8_ties_70 : decode cX8_ties 70 = .ok (.iload_n 1, 1) := by decide +kernel
theorem dX8_ties_71 : decode cX8_ties 71 = .ok (.ishl, 1) := by decide +kernel
theorem dX8_ties_72 : decode cX8_ties 72 = .ok (.iconst (-1), 1) := by decide +kernel
theorem dX8_ties_73 : decode cX8_ties 73 = .ok (.ixor, 1) := by decide +kernel
theorem dX8_ties_74 : decode cX8_ties 74 = .ok (.iand, 1) := by decide +kernel
theorem dX8_ties_75 : decode cX8_ties 75 = .ok (.invokevirtual 183, 3) := by decide +kernel
theorem dX8_ties_78 : decode cX8_ties 78 = .ok (.aload_n 0, 1) := by decide +kernel
theorem dX8_ties_79 : decode cX8_ties 79 = .ok (.getfield 29, 3) := by decide +kernel
theorem dX8_ties_82 : decode cX8_ties 82 = .ok (.getfield 65, 3) := by decide +kernel
theorem dX8_ties_85 : decode cX8_ties 85 = .ok (.iload_n 1, 1) := by decide +kernel
theorem dX8_ties_86 : decode cX8_ties 86 = .ok (.iload_n 2, 1) := by decide +kernel
theorem dX8_ties_87 : decode cX8_ties 87 = .ok (.invokevirtual 189, 3) := by decide +kernel
theorem dX8_ties_90 : decode cX8_ties 90 = .ok (.aload_n 0, 1) := by decide +kernel
theorem dX8_ties_91 : decode cX8_ties 91 = .ok (.getfield 29, 3) := by decide +kernel
theorem dX8_ties_94 : decode cX8_ties 94 = .ok (.getfield 65, 3) := by decide +kernel
theorem dX8_ties_97 : decode cX8_ties 97 = .ok (.iload_n 1, 1) := by decide +kernel
theorem dX8_ties_98 : decode cX8_ties 98 = .ok (.iload_n 3, 1) := by decide +kernel
theorem dX8_ties_99 : decode cX8_ties 99 = .ok (.invokevirtual 193, 3) := by decide +kernel
theorem dX8_ties_102 : decode cX8_ties 102 = .ok (.aload_n 0, 1) := by decide +kernel
theorem dX8_ties_103 : decode cX8_ties 103 = .ok (.invokevirtual 186, 3) := by decide +kernel
theorem dX8_ties_106 : decode cX8_ties 106 = .ok (.ireturn, 1) := by decide +kernel
set_option maxRecDepth 20000 in
theorem ggX8_hangs_X8_isString : GoodIn wsX8_hangs wsX8_isString := goodIn_r _ [7, 8, 9, 47, 48, 49, 50, 51, 52, 53, 54, 55, 59, 60, 61, 62, 63, 64, 65, 66, 67, 68, 69] (by decide +kernel) (by decide +kernel)
set_option maxRecDepth 20000 in
theorem gX8_hangs_X8_isString : GoodIn wsX8_hangs (wsV RX8 121 RX8 yX8_isString wsX8_isString) := goodIn_app (goodIn_of _ (by decide +kernel)) ggX8_hangs_X8_isString
set_option maxRecDepth 20000 in
theorem ggX8_hangs_X4_holeOf : GoodIn wsX8_hangs wsX4_holeOf := goodIn_r _ [14, 15, 70] (by decide +kernel) (by decide +kernel)
set_option maxRecDepth 20000 in
theorem gX8_hangs_X4_holeOf : GoodIn wsX8_hangs (wsV RX8 129 RX4 yX4_holeOf wsX4_holeOf) := goodIn_app (goodIn_of _ (by decide +kernel)) ggX8_hangs_X4_holeOf
set_option maxRecDepth 20000 in
theorem ggX8_hangs_X5_remember : GoodIn wsX8_hangs wsX5_remember := goodIn_r _ [20, 21, 22, 23, 24, 25, 26, 27, 28, 29, 30, 31, 32, 33, 34, 35, 36, 37, 13, 38, 15, 39, 40, 41, 42, 56, 57, 58, 71, 72, 73, 70] (by decide +kernel) (by decide +kernel)
set_option maxRecDepth 20000 in
theorem gX8_hangs_X5_remember : GoodIn wsX8_hangs (wsV RX8 167 RX5 yX5_remember wsX5_remember) := goodIn_app (goodIn_of _ (by decide +kernel)) ggX8_hangs_X5_remember
set_option maxRecDepth 20000 in
theorem ggX8_hangs_X4_setHole : GoodIn wsX8_hangs wsX4_setHole := goodIn_r _ [46, 15, 70] (by decide +kernel) (by decide +kernel)
set_option maxRecDepth 20000 in
theorem gX8_hangs_X4_setHole : GoodIn wsX8_hangs (wsV RX8 196 RX4 yX4_setHole wsX4_setHole) := goodIn_app (goodIn_of _ (by decide +kernel)) ggX8_hangs_X4_setHole
theorem dX8_hangs_0 : decode cX8_hangs 0 = .ok (.aload_n 0, 1) := by decide +kernel
theorem dX8_hangs_1 : decode cX8_hangs 1 = .ok (.iload_n 1, 1) := by decide +kernel
theorem dX8_hangs_2 : decode cX8_hangs 2 = .ok (.invokevirtual 121, 3) := by decide +kernel
theorem dX8_hangs_5 : decode cX8_hangs 5 = .ok (.ifCond .eq 13, 3) := by decide +kernel
theorem dX8_hangs_8 : decode cX8_hangs 8 = .ok (.iload_n 2, 1) := by decide +kernel
theorem dX8_hangs_9 : decode cX8_hangs 9 = .ok (.ifCond .lt 9, 3) := by decide +kernel
theorem dX8_hangs_12 : decode cX8_hangs 12 = .ok (.iload_n 2, 1) := by decide +kernel
theorem dX8_hangs_13 : decode cX8_hangs 13 = .ok (.bipush 6, 2) := by decide +kernel
theorem dX8_hangs_15 : decode cX8_hangs 15 = .ok (.if_icmp .le 5, 3) := by decide +kernel
theorem dX8_hangs_18 : decode cX8_hangs 18 = .ok (.iconst (-1), 1) := by decide +kernel
theorem dX8_hangs_19 : decode cX8_hangs 19 = .ok (.ireturn, 1) := by decide +kernel
theorem dX8_hangs_20 : decode cX8_hangs 20 = .ok (.aload_n 0, 1) := by decide +kernel
theorem dX8_hangs_21 : decode cX8_hangs 21 = .ok (.getfield 29, 3) := by decide +kernel
theorem dX8_hangs_24 : decode cX8_hangs 24 = .ok (.getfield 65, 3) := by decide +kernel
theorem dX8_hangs_27 : decode cX8_hangs 27 = .ok (.iload_n 1, 1) := by decide +kernel
theorem dX8_hangs_28 : decode cX8_hangs 28 = .ok (.invokevirtual 129, 3) := by decide +kernel
theorem dX8_hangs_31 : decode cX8_hangs 31 = .ok (.istore_n 3, 1) := by decide +kernel
theorem dX8_hangs_32 : decode cX8_hangs 32 = .ok (.iload_n 3, 1) := by decide +kernel
theorem dX8_hangs_33 : decode cX8_hangs 33 = .ok (.iload_n 2, 1) := by decide +kernel
theorem dX8_hangs_34 : decode cX8_hangs 34 = .ok (.if_icmp .ne 6, 3) := by decide +kernel
theorem dX8_hangs_37 : decode cX8_hangs 37 = .ok (.bipush (-2), 2) := by decide +kernel
theorem dX8_hangs_39 : decode cX8_hangs 39 = .ok (.ireturn, 1) := by decide +kernel
theorem dX8_hangs_40 : decode cX8_hangs 40 = .ok (.aload_n 0, 1) := by decide +kernel
theorem dX8_hangs_41 : decode cX8_hangs 41 = .ok (.getfield 29, 3) := by decide +kernel
theorem dX8_hangs_44 : decode cX8_hangs 44 = .ok (.invokevirtual 167, 3) := by decide +kernel
theorem dX8_hangs_47 : decode cX8_hangs 47 = .ok (.aload_n 0, 1) := by decide +kernel
theorem dX8_hangs_48 : decode cX8_hangs 48 = .ok (.getfield 29, 3) := by decide +kernel
theorem dX8_hangs_51 : decode cX8_hangs 51 = .ok (.getfield 65, 3) := by decide +kernel
theorem dX8_hangs_54 : decode cX8_hangs 54 = .ok (.iload_n 1, 1) := by decide +kernel
theorem dX8_hangs_55 : decode cX8_hangs 55 = .ok (.iload_n 2, 1) := by decide +kernel
theorem dX8_hangs_56 : decode cX8_hangs 56 = .ok (.invokevirtual 196, 3) := by decide +kernel
theorem dX8_hangs_59 : decode cX8_hangs 59 = .ok (.iload_n 3, 1) := by decide +kernel
theorem dX8_hangs_60 : decode cX8_hangs 60 = .ok (.ireturn, 1) := by decide +kernel
set_option maxRecDepth 20000 in
theorem ggX8_holds_X5_remember : GoodIn wsX8_holds wsX5_remember := goodIn_r _ [8, 9, 10, 11, 12, 13, 14, 15, 16, 17, 18, 19, 20, 21, 22, 23, 24, 25, 26, 27, 28, 29, 30, 31, 32, 88, 89, 90, 91, 92, 93, 94] (by decide +kernel) (by decide +kernel)
set_option maxRecDepth 20000 in
theorem gX8_holds_X5_remember : GoodIn wsX8_holds (wsV RX8 167 RX5 yX5_remember wsX5_remember) := goodIn_app (goodIn_of _ (by decide +kernel)) ggX8_holds_X5_remember
set_option maxRecDepth 20000 in
theorem ggX8_holds_X0_mostOverloaded : GoodIn wsX8_holds wsX0_mostOverloaded := goodIn_r _ [37, 38, 39, 40, 41, 42, 36, 43, 44, 45, 46, 47, 48, 49, 50, 51, 52, 53, 54, 55, 56, 26, 57, 28, 58, 59, 60, 61, 62, 63, 64, 65, 66, 67, 68, 69, 70, 95, 96, 97, 98, 99, 100, 101, 102, 103, 104, 105, 94] (by decide +kernel) (by decide +kernel)
set_option maxRecDepth 20000 in
theorem gX8_holds_X0_mostOverloaded : GoodIn wsX8_holds (wsV RX8 199 RX0 yX0_mostOverloaded wsX0_mostOverloaded) := goodIn_app (goodIn_of _ (by decide +kernel)) ggX8_holds_X0_mostOverloaded
set_option maxRecDepth 20000 in
theorem ggX8_holds_X4_cut : GoodIn wsX8_holds wsX4_cut := goodIn_r _ [74, 28, 94] (by decide +kernel) (by decide +kernel)
set_option maxRecDepth 20000 in
theorem gX8_holds_X4_cut : GoodIn wsX8_holds (wsV RX8 180 RX4 yX4_cut wsX4_cut) := goodIn_app (goodIn_of _ (by decide +kernel)) ggX8_holds_X4_cut
set_option maxRecDepth 20000 in
theorem ggX8_holds_X4_setCut : GoodIn wsX8_holds wsX4_setCut := goodIn_r _ [78, 28, 94] (by decide +kernel) (by decide +kernel)
set_option maxRecDepth 20000 in
theorem gX8_holds_X4_setCut : GoodIn wsX8_holds (wsV RX8 183 RX4 yX4_setCut wsX4_setCut) := goodIn_app (goodIn_of _ (by decide +kernel)) ggX8_holds_X4_setCut
theorem dX8_holds_0 : decode cX8_holds 0 = .ok (.aload_n 0, 1) := by decide +kernel
theorem dX8_holds_1 : decode cX8_holds 1 = .ok (.getfield 29, 3) := by decide +kernel
theorem dX8_holds_4 : decode cX8_holds 4 = .ok (.invokevirtual 167, 3) := by decide +kernel
theorem dX8_holds_7 : decode cX8_holds 7 = .ok (.iconst 0, 1) := by decide +kernel
theorem dX8_holds_8 : decode cX8_holds 8 = .ok (.istore_n 1, 1) := by decide +kernel
theorem dX8_holds_9 : decode cX8_holds 9 = .ok (.aload_n 0, 1) := by decide +kernel
theorem dX8_holds_10 : decode cX8_holds 10 = .ok (.getfield 19, 3) := by decide +kernel
theorem dX8_holds_13 : decode cX8_holds 13 = .ok (.aload_n 0, 1) := by decide +kernel
theorem dX8_holds_14 : decode cX8_holds 14 = .ok (.getfield 29, 3) := by decide +kernel
theorem dX8_holds_17 : decode cX8_holds 17 = .ok (.getfield 65, 3) := by decide +kernel
theorem dX8_holds_20 : decode cX8_holds 20 = .ok (.invokevirtual 199, 3) := by decide +kernel
theorem dX8_holds_23 : decode cX8_holds 23 = .ok (.istore_n 2, 1) := by decide +kernel
theorem dX8_holds_24 : decode cX8_holds 24 = .ok (.iload_n 2, 1) := by decide +kernel
theorem dX8_holds_25 : decode cX8_holds 25 = .ok (.bipush (-9), 2) := by decide +kernel
theorem dX8_holds_27 : decode cX8_holds 27 = .ok (.if_icmp .eq 54, 3) := by decide +kernel
theorem dX8_holds_30 : decode cX8_holds 30 = .ok (.iload_n 1, 1) := by decide +kernel
theorem dX8_holds_31 : decode cX8_holds 31 = .ok (.bipush 6, 2) := by decide +kernel
theorem dX8_holds_33 : decode cX8_holds 33 = .ok (.if_icmp .ge 48, 3) := by decide +kernel
theorem dX8_holds_36 : decode cX8_holds 36 = .ok (.aload_n 0, 1) := by decide +kernel
theorem dX8_holds_37 : decode cX8_holds 37 = .ok (.getfield 29, 3) := by decide +kernel
theorem dX8_holds_40 : decode cX8_holds 40 = .ok (.getfield 65, 3) := by decide +kernel
theorem dX8_holds_43 : decode cX8_holds 43 = .ok (.aload_n 0, 1) := by decide +kernel
theorem dX8_holds_44 : decode cX8_holds 44 = .ok (.getfield 29, 3) := by decide +kernel
theorem dX8_holds_47 : decode cX8_holds 47 = .ok (.getfield 65, 3) := by decide +kernel
theorem dX8_holds_50 : decode cX8_holds 50 = .ok (.invokevirtual 180, 3) := by decide +kernel
theorem dX8_holds_53 : decode cX8_holds 53 = .ok (.iconst 1, 1) := by decide +kernel
theorem dX8_holds_54 : decode cX8_holds 54 = .ok (.iload_n 2, 1) := by decide +kernel
theorem dX8_holds_55 : decode cX8_holds 55 = .ok (.ishl, 1) := by decide +kernel
theorem dX8_holds_56 : decode cX8_holds 56 = .ok (.ior, 1) := by decide +kernel
theorem dX8_holds_57 : decode cX8_holds 57 = .ok (.invokevirtual 183, 3) := by decide +kernel
theorem dX8_holds_60 : decode cX8_holds 60 = .ok (.iinc 1 1, 3) := by decide +kernel
theorem dX8_holds_63 : decode cX8_holds 63 = .ok (.aload_n 0, 1) := by decide +kernel
theorem dX8_holds_64 : decode cX8_holds 64 = .ok (.getfield 19, 3) := by decide +kernel
theorem dX8_holds_67 : decode cX8_holds 67 = .ok (.aload_n 0, 1) := by decide +kernel
theorem dX8_holds_68 : decode cX8_holds 68 = .ok (.getfield 29, 3) := by decide +kernel
theorem dX8_holds_71 : decode cX8_holds 71 = .ok (.getfield 65, 3) := by decide +kernel
theorem dX8_holds_74 : decode cX8_holds 74 = .ok (.invokevirtual 199, 3) := by decide +kernel
theorem dX8_holds_77 : decode cX8_holds 77 = .ok (.istore_n 2, 1) := by decide +kernel
theorem dX8_holds_78 : decode cX8_holds 78 = .ok (.goto (-54), 3) := by decide +kernel
theorem dX8_holds_81 : decode cX8_holds 81 = .ok (.iload_n 1, 1) := by decide +kernel
theorem dX8_holds_82 : decode cX8_holds 82 = .ok (.ireturn, 1) := by decide +kernel
set_option maxRecDepth 20000 in
theorem ggX8_beats_X8_isBeat : GoodIn wsX8_beats wsX8_isBeat := goodIn_r _ [8, 2, 9, 99, 100, 101, 102, 103, 104, 105, 106, 107, 111, 112, 113, 114, 115, 116, 117, 118, 119, 120, 121] (by decide +kernel) (by decide +kernel)
set_option maxRecDepth 20000 in
theorem gX8_beats_X8_isBeat : GoodIn wsX8_beats (wsV RX8 151 RX8 yX8_isBeat wsX8_isBeat) := goodIn_app (goodIn_of _ (by decide +kernel)) ggX8_beats_X8_isBeat
set_option maxRecDepth 20000 in
theorem ggX8_beats_X5_remember : GoodIn wsX8_beats wsX5_remember := goodIn_r _ [14, 15, 16, 17, 18, 19, 20, 21, 22, 23, 24, 25, 26, 27, 28, 29, 30, 31, 32, 33, 34, 35, 36, 37, 38, 108, 109, 110, 122, 123, 124, 125] (by decide +kernel) (by decide +kernel)
set_option maxRecDepth 20000 in
theorem gX8_beats_X5_remember : GoodIn wsX8_beats (wsV RX8 167 RX5 yX5_remember wsX5_remember) := goodIn_app (goodIn_of _ (by decide +kernel)) ggX8_beats_X5_remember
set_option maxRecDepth 20000 in
theorem ggX8_beats_X0_moveToBeat : GoodIn wsX8_beats wsX0_moveToBeat := goodIn_r _ [43, 44, 45, 46, 47, 48, 32, 49, 34, 50, 51, 52, 53, 111, 112, 113, 114, 115, 116, 117, 118, 119, 120, 121, 125] (by decide +kernel) (by decide +kernel)
set_option maxRecDepth 20000 in
theorem gX8_beats_X0_moveToBeat : GoodIn wsX8_beats (wsV RX8 203 RX0 yX0_moveToBeat wsX0_moveToBeat) := goodIn_app (goodIn_of _ (by decide +kernel)) ggX8_beats_X0_moveToBeat
set_option maxRecDepth 20000 in
theorem ggX8_beats_X8_howManyGrounded : GoodIn wsX8_beats wsX8_howManyGrounded := goodIn_r _ [57, 2, 1, 3, 58, 59, 60, 42, 61, 62, 63, 64, 65, 66, 67, 68, 69, 27, 70, 71, 72, 73, 74, 75, 76, 77, 32, 78, 34, 79, 80, 81, 82, 83, 84, 85, 86, 87, 88, 89, 90, 91, 92, 93, 94, 95, 96, 97, 98, 99, 100, 101, 102, 103, 104, 105, 106, 107, 108, 109, 110, 111, 112, 113, 114, 115, 116, 117, 118, 119, 120, 121, 125] (by decide +kernel) (by decide +kernel)
set_option maxRecDepth 20000 in
theorem gX8_beats_X8_howManyGrounded : GoodIn wsX8_beats (wsV RX8 186 RX8 yX8_howManyGrounded wsX8_howManyGrounded) := goodIn_app (goodIn_of _ (by decide +kernel)) ggX8_beats_X8_howManyGrounded
theorem dX8_beats_0 : decode cX8_beats 0 = .ok (.aload_n 0, 1) := by decide +kernel
theorem dX8_beats_1 : decode cX8_beats 1 = .ok (.iload_n 1, 1) := by decide +kernel
theorem dX8_beats_2 : decode cX8_beats 2 = .ok (.invokevirtual 151, 3) := by decide +kernel
theorem dX8_beats_5 : decode cX8_beats 5 = .ok (.ifCond .ne 5, 3) := by decide +kernel
theorem dX8_beats_8 : decode cX8_beats 8 = .ok (.iconst (-1), 1) := by decide +kernel
theorem dX8_beats_9 : decode cX8_beats 9 = .ok (.ireturn, 1) := by decide +kernel
theorem dX8_beats_10 : decode cX8_beats 10 = .ok (.aload_n 0, 1) := by decide +kernel
theorem dX8_beats_11 : decode cX8_beats 11 = .ok (.getfield 29, 3) := by decide +kernel
theorem dX8_beats_14 : decode cX8_beats 14 = .ok (.invokevirtual 167, 3) := by decide +kernel
theorem dX8_beats_17 : decode cX8_beats 17 = .ok (.aload_n 0, 1) := by decide +kernel
theorem dX8_beats_18 : decode cX8_beats 18 = .ok (.getfield 19, 3) := by decide +kernel
theorem dX8_beats_21 : decode cX8_beats 21 = .ok (.aload_n 0, 1) := by decide +kernel
theorem dX8_beats_22 : decode cX8_beats 22 = .ok (.getfield 29, 3) := by decide +kernel
theorem dX8_beats_25 : decode cX8_beats 25 = .ok (.getfield 65, 3) := by decide +kernel
theorem dX8_beats_28 : decode cX8_beats 28 = .ok (.iload_n 1, 1) := by decide +kernel
theorem dX8_beats_29 : decode cX8_beats 29 = .ok (.invokevirtual 203, 3) := by decide +kernel
theorem dX8_beats_32 : decode cX8_beats 32 = .ok (.aload_n 0, 1) := by decide +kernel
theorem dX8_beats_33 : decode cX8_beats 33 = .ok (.invokevirtual 186, 3) := by decide +kernel
theorem dX8_beats_36 : decode cX8_beats 36 = .ok (.ireturn, 1) := by decide +kernel
set_option maxRecDepth 20000 in
theorem ggX8_undo_X3_takeBack : GoodIn wsX8_undo wsX3_takeBack := goodIn_r _ [8, 9, 10, 11, 12, 13, 14, 15, 16, 17, 18, 19, 20, 21, 38, 39, 40, 41] (by decide +kernel) (by decide +kernel)
set_option maxRecDepth 20000 in
theorem gX8_undo_X3_takeBack : GoodIn wsX8_undo (wsV RX8 211 RX3 yX3_takeBack wsX3_takeBack) := goodIn_app (goodIn_of _ (by decide +kernel)) ggX8_undo_X3_takeBack
set_option maxRecDepth 20000 in
theorem ggX8_undo_X3_known : GoodIn wsX8_undo wsX3_known := goodIn_r _ [25, 9, 38, 39, 40] (by decide +kernel) (by decide +kernel)
set_option maxRecDepth 20000 in
theorem gX8_undo_X3_known : GoodIn wsX8_undo (wsV RX8 217 RX3 yX3_known wsX3_known) := goodIn_app (goodIn_of _ (by decide +kernel)) ggX8_undo_X3_known
theorem dX8_undo_0 : decode cX8_undo 0 = .ok (.aload_n 0, 1) := by decide +kernel
theorem dX8_undo_1 : decode cX8_undo 1 = .ok (.getfield 29, 3) := by decide +kernel
theorem dX8_undo_4 : decode cX8_undo 4 = .ok (.getfield 207, 3) := by decide +kernel
theorem dX8_undo_7 : decode cX8_undo 7 = .ok (.aload_n 0, 1) := by decide +kernel
theorem dX8_undo_8 : decode cX8_undo 8 = .ok (.getfield 29, 3) := by decide +kernel
theorem dX8_undo_11 : decode cX8_undo 11 = .ok (.getfield 65, 3) := by decide +kernel
theorem dX8_undo_14 : decode cX8_undo 14 = .ok (.invokevirtual 211, 3) := by decide +kernel
theorem dX8_undo_17 : decode cX8_undo 17 = .ok (.ifCond .eq 16, 3) := by decide +kernel
theorem dX8_undo_20 : decode cX8_undo 20 = .ok (.aload_n 0, 1) := by decide +kernel
theorem dX8_undo_21 : decode cX8_undo 21 = .ok (.getfield 29, 3) := by decide +kernel
theorem dX8_undo_24 : decode cX8_undo 24 = .ok (.getfield 207, 3) := by decide +kernel
theorem dX8_undo_27 : decode cX8_undo 27 = .ok (.invokevirtual 217, 3) := by decide +kernel
theorem dX8_undo_30 : decode cX8_undo 30 = .ok (.goto 5, 3) := by decide +kernel
theorem dX8_undo_33 : decode cX8_undo 33 = .ok (.bipush (-2), 2) := by decide +kernel
theorem dX8_undo_35 : decode cX8_undo 35 = .ok (.ireturn, 1) := by decide +kernel
set_option maxRecDepth 20000 in
theorem ggX8_now_X4_lift : GoodIn wsX8_now wsX4_lift := goodIn_r _ [9, 10, 117] (by decide +kernel) (by decide +kernel)
set_option maxRecDepth 20000 in
theorem gX8_now_X4_lift : GoodIn wsX8_now (wsV RX8 164 RX4 yX4_lift wsX4_lift) := goodIn_app (goodIn_of _ (by decide +kernel)) ggX8_now_X4_lift
set_option maxRecDepth 20000 in
theorem ggX8_now_X4_tilt : GoodIn wsX8_now wsX4_tilt := goodIn_r _ [14, 10, 117] (by decide +kernel) (by decide +kernel)
set_option maxRecDepth 20000 in
theorem gX8_now_X4_tilt : GoodIn wsX8_now (wsV RX8 174 RX4 yX4_tilt wsX4_tilt) := goodIn_app (goodIn_of _ (by decide +kernel)) ggX8_now_X4_tilt
set_option maxRecDepth 20000 in
theorem ggX8_now_X4_cut : GoodIn wsX8_now wsX4_cut := goodIn_r _ [18, 10, 117] (by decide +kernel) (by decide +kernel)
set_option maxRecDepth 20000 in
theorem gX8_now_X4_cut : GoodIn wsX8_now (wsV RX8 180 RX4 yX4_cut wsX4_cut) := goodIn_app (goodIn_of _ (by decide +kernel)) ggX8_now_X4_cut
set_option maxRecDepth 20000 in
theorem ggX8_now_X0_grounded : GoodIn wsX8_now wsX0_grounded := goodIn_r _ [23, 24, 25, 26, 27, 22, 28, 29, 30, 31, 32, 33, 34, 35, 36, 37, 38, 39, 40, 8, 41, 10, 42, 43, 44, 45, 46, 47, 48, 49, 50, 51, 52, 53, 54, 118, 119, 120, 121, 122, 123, 124, 125, 126, 127, 128, 117] (by decide +kernel) (by decide +kernel)
set_option maxRecDepth 20000 in
theorem gX8_now_X0_grounded : GoodIn wsX8_now (wsV RX8 220 RX0 yX0_grounded wsX0_grounded) := goodIn_app (goodIn_of _ (by decide +kernel)) ggX8_now_X0_grounded
set_option maxRecDepth 20000 in
theorem ggX8_now_X0_taut : GoodIn wsX8_now wsX0_taut := goodIn_r _ [58, 29, 59, 60, 61, 22, 62, 42, 43, 44, 8, 45, 10, 38, 39, 40, 41, 46, 47, 48, 49, 25, 26, 27, 28, 30, 31, 32, 33, 34, 35, 36, 37, 50, 51, 52, 53, 54, 118, 119, 120, 121, 122, 123, 124, 125, 126, 127, 128, 117] (by decide +kernel) (by decide +kernel)
set_option maxRecDepth 20000 in
theorem gX8_now_X0_taut : GoodIn wsX8_now (wsV RX8 223 RX0 yX0_taut wsX0_taut) := goodIn_app (goodIn_of _ (by decide +kernel)) ggX8_now_X0_taut
set_option maxRecDepth 20000 in
theorem ggX8_now_X0_heightsTogether : GoodIn wsX8_now wsX0_heightsTogether := goodIn_r _ [66, 24, 25, 26, 27, 22, 28, 29, 30, 31, 32, 33, 34, 35, 36, 37, 38, 39, 40, 8, 41, 10, 42, 43, 44, 45, 46, 47, 48, 49, 50, 51, 52, 53, 54, 118, 119, 120, 121, 122, 123, 124, 125, 126, 127, 128, 117] (by decide +kernel) (by decide +kernel)
set_option maxRecDepth 20000 in
theorem gX8_now_X0_heightsTogether : GoodIn wsX8_now (wsV RX8 226 RX0 yX0_heightsTogether wsX0_heightsTogether) := goodIn_app (goodIn_of _ (by decide +kernel)) ggX8_now_X0_heightsTogether
set_option maxRecDepth 20000 in
theorem ggX8_now_X8_needed : GoodIn wsX8_now wsX8_needed := goodIn_r _ [71, 3, 72, 1, 2, 73, 15, 16, 17, 8, 18, 10, 74, 75, 76, 77, 78, 79, 80, 81, 82, 83, 84, 85, 86, 87, 88, 89, 90, 91, 92, 93, 94, 95, 22, 96, 24, 25, 26, 27, 28, 29, 30, 31, 32, 33, 34, 35, 36, 37, 38, 39, 40, 41, 42, 43, 44, 45, 46, 47, 48, 49, 50, 51, 52, 53, 54, 105, 106, 107, 108, 109, 110, 111, 112, 113, 118, 119, 120, 121, 122, 123, 124, 125, 126, 127, 128, 114, 115, 116, 117] (by decide +kernel) (by decide +kernel)
set_option maxRecDepth 20000 in
theorem gX8_now_X8_needed : GoodIn wsX8_now (wsV RX8 229 RX8 yX8_needed wsX8_needed) := goodIn_app (goodIn_of _ (by decide +kernel)) ggX8_now_X8_needed
set_option maxRecDepth 20000 in
theorem ggX8_now_X0_crossings : GoodIn wsX8_now wsX0_crossings := goodIn_r _ [100, 29, 38, 39, 40, 8, 41, 10, 101, 102, 103, 104, 46, 47, 48, 49, 118, 119, 120, 121, 122, 123, 124, 125, 126, 127, 128, 117] (by decide +kernel) (by decide +kernel)
set_option maxRecDepth 20000 in
theorem gX8_now_X0_crossings : GoodIn wsX8_now (wsV RX8 232 RX0 yX0_crossings wsX0_crossings) := goodIn_app (goodIn_of _ (by decide +kernel)) ggX8_now_X0_crossings
theorem dX8_now_0 : decode cX8_now 0 = .ok (.iload_n 1, 1) := by decide +kernel
theorem dX8_now_1 : decode cX8_now 1 = .ok (.tableswitch 145 0 7 #[47, 58, 69, 80, 95, 110, 125, 130], 47) := by decide +kernel
theorem dX8_now_48 : decode cX8_now 48 = .ok (.aload_n 0, 1) := by decide +kernel
theorem dX8_now_49 : decode cX8_now 49 = .ok (.getfield 29, 3) := by decide +kernel
theorem dX8_now_52 : decode cX8_now 52 = .ok (.getfield 65, 3) := by decide +kernel
theorem dX8_now_55 : decode cX8_now 55 = .ok (.invokevirtual 164, 3) := by decide +kernel
theorem dX8_now_58 : decode cX8_now 58 = .ok (.ireturn, 1) := by decide +kernel
theorem dX8_now_59 : decode cX8_now 59 = .ok (.aload_n 0, 1) := by decide +kernel
theorem dX8_now_60 : decode cX8_now 60 = .ok (.getfield 29, 3) := by decide +kernel
theorem dX8_now_63 : decode cX8_now 63 = .ok (.getfield 65, 3) := by decide +kernel
theorem dX8_now_66 : decode cX8_now 66 = .ok (.invokevirtual 174, 3) := by decide +kernel
theorem dX8_now_69 : decode cX8_now 69 = .ok (.ireturn, 1) := by decide +kernel
theorem dX8_now_70 : decode cX8_now 70 = .ok (.aload_n 0, 1) := by decide +kernel
theorem dX8_now_71 : decode cX8_now 71 = .ok (.getfield 29, 3) := by decide +kernel
theorem dX8_now_74 : decode cX8_now 74 = .ok (.getfield 65, 3) := by decide +kernel
theorem dX8_now_77 : decode cX8_now 77 = .ok (.invokevirtual 180, 3) := by decide +kernel
theorem dX8_now_80 : decode cX8_now 80 = .ok (.ireturn, 1) := by decide +kernel
theorem dX8_now_81 : decode cX8_now 81 = .ok (.aload_n 0, 1) := by decide +kernel
theorem dX8_now_82 : decode cX8_now 82 = .ok (.getfield 19, 3) := by decide +kernel
theorem dX8_now_85 : decode cX8_now 85 = .ok (.aload_n 0, 1) := by decide +kernel
theorem dX8_now_86 : decode cX8_now 86 = .ok (.getfield 29, 3) := by decide +kernel
theorem dX8_now_89 : decode cX8_now 89 = .ok (.getfield 65, 3) := by decide +kernel
theorem dX8_now_92 : decode cX8_now 92 = .ok (.invokevirtual 220, 3) := by decide +kernel
theorem dX8_now_95 : decode cX8_now 95 = .ok (.ireturn, 1) := by decide +kernel
theorem dX8_now_96 : decode cX8_now 96 = .ok (.aload_n 0, 1) := by decide +kernel
theorem dX8_now_97 : decode cX8_now 97 = .ok (.getfield 19, 3) := by decide +kernel
theorem dX8_now_100 : decode cX8_now 100 = .ok (.aload_n 0, 1) := by decide +kernel
theorem dX8_now_101 : decode cX8_now 101 = .ok (.getfield 29, 3) := by decide +kernel
theorem dX8_now_104 : decode cX8_now 104 = .ok (.getfield 65, 3) := by decide +kernel
theorem dX8_now_107 : decode cX8_now 107 = .ok (.invokevirtual 223, 3) := by decide +kernel
theorem dX8_now_110 : decode cX8_now 110 = .ok (.ireturn, 1) := by decide +kernel
theorem dX8_now_111 : decode cX8_now 111 = .ok (.aload_n 0, 1) := by decide +kernel
theorem dX8_now_112 : decode cX8_now 112 = .ok (.getfield 19, 3) := by decide +kernel
theorem dX8_now_115 : decode cX8_now 115 = .ok (.aload_n 0, 1) := by decide +kernel
theorem dX8_now_116 : decode cX8_now 116 = .ok (.getfield 29, 3) := by decide +kernel
theorem dX8_now_119 : decode cX8_now 119 = .ok (.getfield 65, 3) := by decide +kernel
theorem dX8_now_122 : decode cX8_now 122 = .ok (.invokevirtual 226, 3) := by decide +kernel
theorem dX8_now_125 : decode cX8_now 125 = .ok (.ireturn, 1) := by decide +kernel
theorem dX8_now_126 : decode cX8_now 126 = .ok (.aload_n 0, 1) := by decide +kernel
theorem dX8_now_127 : decode cX8_now 127 = .ok (.invokevirtual 229, 3) := by decide +kernel
theorem dX8_now_130 : decode cX8_now 130 = .ok (.ireturn, 1) := by decide +kernel
theorem dX8_now_131 : decode cX8_now 131 = .ok (.aload_n 0, 1) := by decide +kernel
theorem dX8_now_132 : decode cX8_now 132 = .ok (.getfield 19, 3) := by decide +kernel
theorem dX8_now_135 : decode cX8_now 135 = .ok (.aload_n 0, 1) := by decide +kernel
theorem dX8_now_136 : decode cX8_now 136 = .ok (.getfield 29, 3) := by decide +kernel
theorem dX8_now_139 : decode cX8_now 139 = .ok (.getfield 65, 3) := by decide +kernel
theorem dX8_now_142 : decode cX8_now 142 = .ok (.invokevirtual 232, 3) := by decide +kernel
theorem dX8_now_145 : decode cX8_now 145 = .ok (.ireturn, 1) := by decide +kernel
theorem dX8_now_146 : decode cX8_now 146 = .ok (.ldc 124, 2) := by decide +kernel
theorem dX8_now_148 : decode cX8_now 148 = .ok (.ireturn, 1) := by decide +kernel
set_option maxRecDepth 20000 in
theorem ggX8_reach_X8_nearestGrounding : GoodIn wsX8_reach wsX8_nearestGrounding := goodIn_r _ [8, 9, 10, 11, 12, 13, 14, 15, 1, 16, 17, 18, 19, 20, 21, 22, 23, 24, 25, 26, 27, 28, 29, 30, 31, 32, 33, 34, 35, 36, 37, 38, 39, 40, 41, 42, 43, 44, 45, 46, 47, 48, 49, 50, 51, 52, 53, 54, 55, 56, 57, 58, 59, 60, 61, 62, 63, 64, 65, 66, 67, 68, 69, 70, 71, 72, 73, 74, 75, 76, 77, 78, 79, 80, 81, 82, 83, 84, 85, 97, 98, 99, 100, 86, 87, 88, 89, 90, 91, 92, 93, 94, 95, 96] (by decide +kernel) (by decide +kernel)
set_option maxRecDepth 20000 in
theorem gX8_reach_X8_nearestGrounding : GoodIn wsX8_reach (wsV RX8 239 RX8 yX8_nearestGrounding wsX8_nearestGrounding) := goodIn_app (goodIn_of _ (by decide +kernel)) ggX8_reach_X8_nearestGrounding
theorem dX8_reach_0 : decode cX8_reach 0 = .ok (.iload_n 1, 1) := by decide +kernel
theorem dX8_reach_1 : decode cX8_reach 1 = .ok (.ifCond .lt 25, 3) := by decide +kernel
theorem dX8_reach_4 : decode cX8_reach 4 = .ok (.iload_n 1, 1) := by decide +kernel
theorem dX8_reach_5 : decode cX8_reach 5 = .ok (.iconst 1, 1) := by decide +kernel
theorem dX8_reach_6 : decode cX8_reach 6 = .ok (.aload_n 0, 1) := by decide +kernel
theorem dX8_reach_7 : decode cX8_reach 7 = .ok (.getfield 19, 3) := by decide +kernel
theorem dX8_reach_10 : decode cX8_reach 10 = .ok (.getfield 235, 3) := by decide +kernel
theorem dX8_reach_13 : decode cX8_reach 13 = .ok (.ishl, 1) := by decide +kernel
theorem dX8_reach_14 : decode cX8_reach 14 = .ok (.if_icmp .ge 12, 3) := by decide +kernel
theorem dX8_reach_17 : decode cX8_reach 17 = .ok (.iload_n 2, 1) := by decide +kernel
theorem dX8_reach_18 : decode cX8_reach 18 = .ok (.ifCond .lt 8, 3) := by decide +kernel
theorem dX8_reach_21 : decode cX8_reach 21 = .ok (.iload_n 2, 1) := by decide +kernel
theorem dX8_reach_22 : decode cX8_reach 22 = .ok (.iconst 2, 1) := by decide +kernel
theorem dX8_reach_23 : decode cX8_reach 23 = .ok (.if_icmp .le 6, 3) := by decide +kernel
theorem dX8_reach_26 : decode cX8_reach 26 = .ok (.ldc 124, 2) := by decide +kernel
theorem dX8_reach_28 : decode cX8_reach 28 = .ok (.ireturn, 1) := by decide +kernel
theorem dX8_reach_29 : decode cX8_reach 29 = .ok (.aload_n 0, 1) := by decide +kernel
theorem dX8_reach_30 : decode cX8_reach 30 = .ok (.iload_n 1, 1) := by decide +kernel
theorem dX8_reach_31 : decode cX8_reach 31 = .ok (.invokevirtual 239, 3) := by decide +kernel
theorem dX8_reach_34 : decode cX8_reach 34 = .ok (.istore_n 3, 1) := by decide +kernel
theorem dX8_reach_35 : decode cX8_reach 35 = .ok (.iload_n 3, 1) := by decide +kernel
theorem dX8_reach_36 : decode cX8_reach 36 = .ok (.bipush (-9), 2) := by decide +kernel
theorem dX8_reach_38 : decode cX8_reach 38 = .ok (.if_icmp .ne 6, 3) := by decide +kernel
theorem dX8_reach_41 : decode cX8_reach 41 = .ok (.bipush (-9), 2) := by decide +kernel
theorem dX8_reach_43 : decode cX8_reach 43 = .ok (.ireturn, 1) := by decide +kernel
theorem dX8_reach_44 : decode cX8_reach 44 = .ok (.iload_n 2, 1) := by decide +kernel
theorem dX8_reach_45 : decode cX8_reach 45 = .ok (.lookupswitch 41 #[(0, 27), (1, 33)], 27) := by decide +kernel
theorem dX8_reach_72 : decode cX8_reach 72 = .ok (.iload_n 3, 1) := by decide +kernel
theorem dX8_reach_73 : decode cX8_reach 73 = .ok (.sipush 287, 3) := by decide +kernel
theorem dX8_reach_76 : decode cX8_reach 76 = .ok (.idiv, 1) := by decide +kernel
theorem dX8_reach_77 : decode cX8_reach 77 = .ok (.ireturn, 1) := by decide +kernel
theorem dX8_reach_78 : decode cX8_reach 78 = .ok (.iload_n 3, 1) := by decide +kernel
theorem dX8_reach_79 : decode cX8_reach 79 = .ok (.bipush 7, 2) := by decide +kernel
theorem dX8_reach_81 : decode cX8_reach 81 = .ok (.idiv, 1) := by decide +kernel
theorem dX8_reach_82 : decode cX8_reach 82 = .ok (.bipush 41, 2) := by decide +kernel
theorem dX8_reach_84 : decode cX8_reach 84 = .ok (.irem, 1) := by decide +kernel
theorem dX8_reach_85 : decode cX8_reach 85 = .ok (.ireturn, 1) := by decide +kernel
theorem dX8_reach_86 : decode cX8_reach 86 = .ok (.iload_n 3, 1) := by decide +kernel
theorem dX8_reach_87 : decode cX8_reach 87 = .ok (.bipush 7, 2) := by decide +kernel
theorem dX8_reach_89 : decode cX8_reach 89 = .ok (.irem, 1) := by decide +kernel
theorem dX8_reach_90 : decode cX8_reach 90 = .ok (.iconst 3, 1) := by decide +kernel
theorem dX8_reach_91 : decode cX8_reach 91 = .ok (.isub, 1) := by decide +kernel
theorem dX8_reach_92 : decode cX8_reach 92 = .ok (.ireturn, 1) := by decide +kernel
set_option maxRecDepth 20000 in
theorem ggX8_fell_X8_isLimb : GoodIn wsX8_fell wsX8_isLimb := goodIn_r _ [8, 1, 9, 39, 40, 41, 42, 43, 44, 45, 46, 47, 51, 52, 53, 54, 55, 56, 57, 58, 59, 60, 61] (by decide +kernel) (by decide +kernel)
set_option maxRecDepth 20000 in
theorem gX8_fell_X8_isLimb : GoodIn wsX8_fell (wsV RX8 101 RX8 yX8_isLimb wsX8_isLimb) := goodIn_app (goodIn_of _ (by decide +kernel)) ggX8_fell_X8_isLimb
set_option maxRecDepth 20000 in
theorem ggX8_fell_X0_lifters : GoodIn wsX8_fell wsX0_lifters := goodIn_r _ [14, 15, 16, 17, 18, 13, 19, 20, 21, 22, 23, 24, 25, 26, 27, 28, 29, 30, 31, 32, 33, 34, 35, 36, 37, 38, 51, 52, 53, 54, 55, 56, 57, 58, 59, 60, 61, 62] (by decide +kernel) (by decide +kernel)
set_option maxRecDepth 20000 in
theorem gX8_fell_X0_lifters : GoodIn wsX8_fell (wsV RX8 242 RX0 yX0_lifters wsX0_lifters) := goodIn_app (goodIn_of _ (by decide +kernel)) ggX8_fell_X0_lifters
theorem dX8_fell_0 : decode cX8_fell 0 = .ok (.aload_n 0, 1) := by decide +kernel
theorem dX8_fell_1 : decode cX8_fell 1 = .ok (.iload_n 1, 1) := by decide +kernel
theorem dX8_fell_2 : decode cX8_fell 2 = .ok (.invokevirtual 101, 3) := by decide +kernel
theorem dX8_fell_5 : decode cX8_fell 5 = .ok (.ifCond .eq 21, 3) := by decide +kernel
theorem dX8_fell_8 : decode cX8_fell 8 = .ok (.aload_n 0, 1) := by decide +kernel
theorem dX8_fell_9 : decode cX8_fell 9 = .ok (.getfield 19, 3) := by decide +kernel
theorem dX8_fell_12 : decode cX8_fell 12 = .ok (.aload_n 0, 1) := by decide +kernel
theorem dX8_fell_13 : decode cX8_fell 13 = .ok (.getfield 29, 3) := by decide +kernel
theorem dX8_fell_16 : decode cX8_fell 16 = .ok (.getfield 65, 3) := by decide +kernel
theorem dX8_fell_19 : decode cX8_fell 19 = .ok (.iload_n 1, 1) := by decide +kernel
theorem dX8_fell_20 : decode cX8_fell 20 = .ok (.invokevirtual 242, 3) := by decide +kernel
theorem dX8_fell_23 : decode cX8_fell 23 = .ok (.goto 4, 3) := by decide +kernel
theorem dX8_fell_26 : decode cX8_fell 26 = .ok (.iconst (-1), 1) := by decide +kernel
theorem dX8_fell_27 : decode cX8_fell 27 = .ok (.ireturn, 1) := by decide +kernel
set_option maxRecDepth 20000 in
theorem ggX8_path_X8_isLimb : GoodIn wsX8_path wsX8_isLimb := goodIn_r _ [5, 6, 7, 75, 76, 77, 78, 79, 80, 81, 82, 83, 84, 85, 86, 87, 88, 89, 90, 91, 92, 93, 94] (by decide +kernel) (by decide +kernel)
set_option maxRecDepth 20000 in
theorem gX8_path_X8_isLimb : GoodIn wsX8_path (wsV RX8 101 RX8 yX8_isLimb wsX8_isLimb) := goodIn_app (goodIn_of _ (by decide +kernel)) ggX8_path_X8_isLimb
set_option maxRecDepth 20000 in
theorem ggX8_path_X8_isBeat : GoodIn wsX8_path wsX8_isBeat := goodIn_r _ [11, 6, 12, 75, 76, 77, 78, 79, 80, 81, 82, 83, 84, 85, 86, 87, 88, 89, 90, 91, 92, 93, 94] (by decide +kernel) (by decide +kernel)
set_option maxRecDepth 20000 in
theorem gX8_path_X8_isBeat : GoodIn wsX8_path (wsV RX8 151 RX8 yX8_isBeat wsX8_isBeat) := goodIn_app (goodIn_of _ (by decide +kernel)) ggX8_path_X8_isBeat
set_option maxRecDepth 20000 in
theorem ggX8_path_X8_heightAtBeat : GoodIn wsX8_path wsX8_heightAtBeat := goodIn_r _ [16, 17, 18, 19, 6, 20, 21, 22, 23, 24, 25, 26, 27, 28, 29, 30, 31, 32, 33, 34, 35, 36, 37, 38, 39, 40, 41, 42, 43, 44, 45, 46, 47, 48, 49, 50, 51, 52, 53, 54, 55, 56, 57, 58, 59, 60, 61, 62, 63, 64, 65, 66, 67, 68, 69, 70, 71, 72, 73, 74, 75, 76, 77, 78, 79, 80, 81, 82, 83, 95, 96, 97, 98, 84, 85, 86, 87, 88, 89, 90, 91, 92, 93, 94] (by decide +kernel) (by decide +kernel)
set_option maxRecDepth 20000 in
theorem gX8_path_X8_heightAtBeat : GoodIn wsX8_path (wsV RX8 245 RX8 yX8_heightAtBeat wsX8_heightAtBeat) := goodIn_app (goodIn_of _ (by decide +kernel)) ggX8_path_X8_heightAtBeat
theorem dX8_path_0 : decode cX8_path 0 = .ok (.aload_n 0, 1) := by decide +kernel
theorem dX8_path_1 : decode cX8_path 1 = .ok (.iload_n 1, 1) := by decide +kernel
theorem dX8_path_2 : decode cX8_path 2 = .ok (.invokevirtual 101, 3) := by decide +kernel
theorem dX8_path_5 : decode cX8_path 5 = .ok (.ifCond .eq 20, 3) := by decide +kernel
theorem dX8_path_8 : decode cX8_path 8 = .ok (.aload_n 0, 1) := by decide +kernel
theorem dX8_path_9 : decode cX8_path 9 = .ok (.iload_n 2, 1) := by decide +kernel
theorem dX8_path_10 : decode cX8_path 10 = .ok (.invokevirtual 151, 3) := by decide +kernel
theorem dX8_path_13 : decode cX8_path 13 = .ok (.ifCond .eq 12, 3) := by decide +kernel
theorem dX8_path_16 : decode cX8_path 16 = .ok (.aload_n 0, 1) := by decide +kernel
theorem dX8_path_17 : decode cX8_path 17 = .ok (.iload_n 1, 1) := by decide +kernel
theorem dX8_path_18 : decode cX8_path 18 = .ok (.iload_n 2, 1) := by decide +kernel
theorem dX8_path_19 : decode cX8_path 19 = .ok (.invokevirtual 245, 3) := by decide +kernel
theorem dX8_path_22 : decode cX8_path 22 = .ok (.goto 4, 3) := by decide +kernel
theorem dX8_path_25 : decode cX8_path 25 = .ok (.iconst (-1), 1) := by decide +kernel
theorem dX8_path_26 : decode cX8_path 26 = .ok (.ireturn, 1) := by decide +kernel
set_option maxRecDepth 20000 in
theorem ggX8_nods_X8_isLimb : GoodIn wsX8_nods wsX8_isLimb := goodIn_r _ [7, 1, 8, 71, 72, 73, 74, 75, 76, 77, 78, 79, 80, 81, 82, 83, 84, 85, 86, 87, 88, 89, 90] (by decide +kernel) (by decide +kernel)
set_option maxRecDepth 20000 in
theorem gX8_nods_X8_isLimb : GoodIn wsX8_nods (wsV RX8 101 RX8 yX8_isLimb wsX8_isLimb) := goodIn_app (goodIn_of _ (by decide +kernel)) ggX8_nods_X8_isLimb
set_option maxRecDepth 20000 in
theorem ggX8_nods_X8_heightAtBeat : GoodIn wsX8_nods wsX8_heightAtBeat := goodIn_r _ [12, 13, 14, 15, 1, 16, 17, 18, 19, 20, 21, 22, 23, 24, 25, 26, 27, 28, 29, 30, 31, 32, 33, 34, 35, 36, 37, 38, 39, 40, 41, 42, 43, 44, 45, 46, 47, 48, 49, 50, 51, 52, 53, 54, 55, 56, 57, 58, 59, 60, 61, 62, 63, 64, 65, 66, 67, 68, 69, 70, 71, 72, 73, 74, 75, 76, 77, 78, 79, 91, 92, 93, 94, 80, 81, 82, 83, 84, 85, 86, 87, 88, 89, 90] (by decide +kernel) (by decide +kernel)
set_option maxRecDepth 20000 in
theorem gX8_nods_X8_heightAtBeat : GoodIn wsX8_nods (wsV RX8 245 RX8 yX8_heightAtBeat wsX8_heightAtBeat) := goodIn_app (goodIn_of _ (by decide +kernel)) ggX8_nods_X8_heightAtBeat
theorem dX8_nods_0 : decode cX8_nods 0 = .ok (.aload_n 0, 1) := by decide +kernel
theorem dX8_nods_1 : decode cX8_nods 1 = .ok (.iload_n 1, 1) := by decide +kernel
theorem dX8_nods_2 : decode cX8_nods 2 = .ok (.invokevirtual 101, 3) := by decide +kernel
theorem dX8_nods_5 : decode cX8_nods 5 = .ok (.ifCond .ne 5, 3) := by decide +kernel
theorem dX8_nods_8 : decode cX8_nods 8 = .ok (.iconst (-1), 1) := by decide +kernel
theorem dX8_nods_9 : decode cX8_nods 9 = .ok (.ireturn, 1) := by decide +kernel
theorem dX8_nods_10 : decode cX8_nods 10 = .ok (.iconst 0, 1) := by decide +kernel
theorem dX8_nods_11 : decode cX8_nods 11 = .ok (.istore_n 2, 1) := by decide +kernel
theorem dX8_nods_12 : decode cX8_nods 12 = .ok (.iconst 1, 1) := by decide +kernel
theorem dX8_nods_13 : decode cX8_nods 13 = .ok (.istore_n 3, 1) := by decide +kernel
theorem dX8_nods_14 : decode cX8_nods 14 = .ok (.iload_n 3, 1) := by decide +kernel
theorem dX8_nods_15 : decode cX8_nods 15 = .ok (.aload_n 0, 1) := by decide +kernel
theorem dX8_nods_16 : decode cX8_nods 16 = .ok (.getfield 19, 3) := by decide +kernel
theorem dX8_nods_19 : decode cX8_nods 19 = .ok (.getfield 248, 3) := by decide +kernel
theorem dX8_nods_22 : decode cX8_nods 22 = .ok (.iconst 1, 1) := by decide +kernel
theorem dX8_nods_23 : decode cX8_nods 23 = .ok (.isub, 1) := by decide +kernel
theorem dX8_nods_24 : decode cX8_nods 24 = .ok (.if_icmp .ge 46, 3) := by decide +kernel
theorem dX8_nods_27 : decode cX8_nods 27 = .ok (.aload_n 0, 1) := by decide +kernel
theorem dX8_nods_28 : decode cX8_nods 28 = .ok (.iload_n 1, 1) := by decide +kernel
theorem dX8_nods_29 : decode cX8_nods 29 = .ok (.iload_n 3, 1) := by decide +kernel
theorem dX8_nods_30 : decode cX8_nods 30 = .ok (.invokevirtual 245, 3) := by decide +kernel
theorem dX8_nods_33 : decode cX8_nods 33 = .ok (.istore 4, 2) := by decide +kernel
theorem dX8_nods_35 : decode cX8_nods 35 = .ok (.iload 4, 2) := by decide +kernel
theorem dX8_nods_37 : decode cX8_nods 37 = .ok (.aload_n 0, 1) := by decide +kernel
theorem dX8_nods_38 : decode cX8_nods 38 = .ok (.iload_n 1, 1) := by decide +kernel
theorem dX8_nods_39 : decode cX8_nods 39 = .ok (.iload_n 3, 1) := by decide +kernel
theorem dX8_nods_40 : decode cX8_nods 40 = .ok (.iconst 1, 1) := by decide +kernel
theorem dX8_nods_41 : decode cX8_nods 41 = .ok (.isub, 1) := by decide +kernel
theorem dX8_nods_42 : decode cX8_nods 42 = .ok (.invokevirtual 245, 3) := by decide +kernel
theorem dX8_nods_45 : decode cX8_nods 45 = .ok (.if_icmp .ge 19, 3) := by decide +kernel
theorem dX8_nods_48 : decode cX8_nods 48 = .ok (.iload 4, 2) := by decide +kernel
theorem dX8_nods_50 : decode cX8_nods 50 = .ok (.aload_n 0, 1) := by decide +kernel
theorem dX8_nods_51 : decode cX8_nods 51 = .ok (.iload_n 1, 1) := by decide +kernel
theorem dX8_nods_52 : decode cX8_nods 52 = .ok (.iload_n 3, 1) := by decide +kernel
theorem dX8_nods_53 : decode cX8_nods 53 = .ok (.iconst 1, 1) := by decide +kernel
theorem dX8_nods_54 : decode cX8_nods 54 = .ok (.iadd, 1) := by decide +kernel
theorem dX8_nods_55 : decode cX8_nods 55 = .ok (.invokevirtual 245, 3) := by decide +kernel
theorem dX8_nods_58 : decode cX8_nods 58 = .ok (.if_icmp .ge 6, 3) := by decide +kernel
theorem dX8_nods_61 : decode cX8_nods 61 = .ok (.iinc 2 1, 3) := by decide +kernel
theorem dX8_nods_64 : decode cX8_nods 64 = .ok (.iinc 3 1, 3) := by decide +kernel
theorem dX8_nods_67 : decode cX8_nods 67 = .ok (.goto (-53), 3) := by decide +kernel
theorem dX8_nods_70 : decode cX8_nods 70 = .ok (.iload_n 2, 1) := by decide +kernel
theorem dX8_nods_71 : decode cX8_nods 71 = .ok (.ireturn, 1) := by decide +kernel
set_option maxRecDepth 20000 in
theorem ggX8_play_X2_plan : GoodIn wsX8_play wsX2_plan := goodIn_r _ [10, 11, 12, 13, 14, 15, 16, 17, 18, 9, 19, 20, 21, 22, 23, 24, 25, 26, 27, 28, 29, 30, 31, 32, 33, 34, 35, 36, 37, 38, 39, 40, 41, 42, 43, 44, 45, 77, 78, 79, 63, 64, 65, 66, 67, 68, 69, 70, 71, 72, 73, 80] (by decide +kernel) (by decide +kernel)
set_option maxRecDepth 20000 in
theorem gX8_play_X2_plan : GoodIn wsX8_play (wsV RX8 251 RX2 yX2_plan wsX2_plan) := goodIn_app (goodIn_of _ (by decide +kernel)) ggX8_play_X2_plan
set_option maxRecDepth 20000 in
theorem ggX8_play_X2_moves : GoodIn wsX8_play wsX2_moves := goodIn_r _ [49, 11, 77, 78, 79] (by decide +kernel) (by decide +kernel)
set_option maxRecDepth 20000 in
theorem gX8_play_X2_moves : GoodIn wsX8_play (wsV RX8 255 RX2 yX2_moves wsX2_moves) := goodIn_app (goodIn_of _ (by decide +kernel)) ggX8_play_X2_moves
set_option maxRecDepth 20000 in
theorem ggX8_play_X2_beatAt : GoodIn wsX8_play wsX2_beatAt := goodIn_r _ [53, 13, 77, 78, 79] (by decide +kernel) (by decide +kernel)
set_option maxRecDepth 20000 in
theorem gX8_play_X2_beatAt : GoodIn wsX8_play (wsV RX8 258 RX2 yX2_beatAt wsX2_beatAt) := goodIn_app (goodIn_of _ (by decide +kernel)) ggX8_play_X2_beatAt
theorem dX8_play_0 : decode cX8_play 0 = .ok (.iload_n 1, 1) := by decide +kernel
theorem dX8_play_1 : decode cX8_play 1 = .ok (.iconst (-1), 1) := by decide +kernel
theorem dX8_play_2 : decode cX8_play 2 = .ok (.if_icmp .lt 9, 3) := by decide +kernel
theorem dX8_play_5 : decode cX8_play 5 = .ok (.iload_n 1, 1) := by decide +kernel
theorem dX8_play_6 : decode cX8_play 6 = .ok (.bipush 7, 2) := by decide +kernel
theorem dX8_play_8 : decode cX8_play 8 = .ok (.if_icmp .lt 5, 3) := by decide +kernel
theorem dX8_play_11 : decode cX8_play 11 = .ok (.iconst (-1), 1) := by decide +kernel
theorem dX8_play_12 : decode cX8_play 12 = .ok (.ireturn, 1) := by decide +kernel
theorem dX8_play_13 : decode cX8_play 13 = .ok (.iload_n 1, 1) := by decide +kernel
theorem dX8_play_14 : decode cX8_play 14 = .ok (.aload_n 0, 1) := by decide +kernel
theorem dX8_play_15 : decode cX8_play 15 = .ok (.getfield 19, 3) := by decide +kernel
theorem dX8_play_18 : decode cX8_play 18 = .ok (.getfield 248, 3) := by decide +kernel
theorem dX8_play_21 : decode cX8_play 21 = .ok (.if_icmp .lt 6, 3) := by decide +kernel
theorem dX8_play_24 : decode cX8_play 24 = .ok (.bipush (-9), 2) := by decide +kernel
theorem dX8_play_26 : decode cX8_play 26 = .ok (.ireturn, 1) := by decide +kernel
theorem dX8_play_27 : decode cX8_play 27 = .ok (.aload_n 0, 1) := by decide +kernel
theorem dX8_play_28 : decode cX8_play 28 = .ok (.getfield 47, 3) := by decide +kernel
theorem dX8_play_31 : decode cX8_play 31 = .ok (.aload_n 0, 1) := by decide +kernel
theorem dX8_play_32 : decode cX8_play 32 = .ok (.getfield 19, 3) := by decide +kernel
theorem dX8_play_35 : decode cX8_play 35 = .ok (.aload_n 0, 1) := by decide +kernel
theorem dX8_play_36 : decode cX8_play 36 = .ok (.getfield 29, 3) := by decide +kernel
theorem dX8_play_39 : decode cX8_play 39 = .ok (.getfield 65, 3) := by decide +kernel
theorem dX8_play_42 : decode cX8_play 42 = .ok (.invokevirtual 251, 3) := by decide +kernel
theorem dX8_play_45 : decode cX8_play 45 = .ok (.iload_n 1, 1) := by decide +kernel
theorem dX8_play_46 : decode cX8_play 46 = .ok (.ifCond .ge 13, 3) := by decide +kernel
theorem dX8_play_49 : decode cX8_play 49 = .ok (.aload_n 0, 1) := by decide +kernel
theorem dX8_play_50 : decode cX8_play 50 = .ok (.getfield 47, 3) := by decide +kernel
theorem dX8_play_53 : decode cX8_play 53 = .ok (.invokevirtual 255, 3) := by decide +kernel
theorem dX8_play_56 : decode cX8_play 56 = .ok (.goto 11, 3) := by decide +kernel
theorem dX8_play_59 : decode cX8_play 59 = .ok (.aload_n 0, 1) := by decide +kernel
theorem dX8_play_60 : decode cX8_play 60 = .ok (.getfield 47, 3) := by decide +kernel
theorem dX8_play_63 : decode cX8_play 63 = .ok (.iload_n 1, 1) := by decide +kernel
theorem dX8_play_64 : decode cX8_play 64 = .ok (.invokevirtual 258, 3) := by decide +kernel
theorem dX8_play_67 : decode cX8_play 67 = .ok (.ireturn, 1) := by decide +kernel
set_option maxRecDepth 20000 in
theorem ggX8_odds_X8_isLimb : GoodIn wsX8_odds wsX8_isLimb := goodIn_r _ [8, 1, 9, 52, 53, 54, 55, 56, 57, 58, 59, 60, 64, 65, 66, 67, 68, 69, 70, 71, 72, 73, 74] (by decide +kernel) (by decide +kernel)
set_option maxRecDepth 20000 in
theorem gX8_odds_X8_isLimb : GoodIn wsX8_odds (wsV RX8 101 RX8 yX8_isLimb wsX8_isLimb) := goodIn_app (goodIn_of _ (by decide +kernel)) ggX8_odds_X8_isLimb
set_option maxRecDepth 20000 in
theorem ggX8_odds_X0_lifters : GoodIn wsX8_odds wsX0_lifters := goodIn_r _ [14, 15, 16, 17, 18, 13, 19, 20, 21, 22, 23, 24, 25, 26, 27, 28, 29, 30, 31, 32, 33, 34, 35, 36, 37, 38, 64, 65, 66, 67, 68, 69, 70, 71, 72, 73, 74, 75] (by decide +kernel) (by decide +kernel)
set_option maxRecDepth 20000 in
theorem gX8_odds_X0_lifters : GoodIn wsX8_odds (wsV RX8 242 RX0 yX0_lifters wsX0_lifters) := goodIn_app (goodIn_of _ (by decide +kernel)) ggX8_odds_X0_lifters
set_option maxRecDepth 20000 in
theorem ggX8_odds_J6_bitCount_0f7a4 : GoodIn wsX8_odds wsJ6_bitCount_0f7a4 := goodIn_r _ [42, 43, 44, 45] (by decide +kernel) (by decide +kernel)
set_option maxRecDepth 20000 in
theorem gX8_odds_J6_bitCount_0f7a4 : GoodIn wsX8_odds (va_wsS RX8 261 yJ6_bitCount_0f7a4 wsJ6_bitCount_0f7a4) := goodIn_app (goodIn_of _ (by decide +kernel)) ggX8_odds_J6_bitCount_0f7a4
set_option maxRecDepth 20000 in
theorem ggX8_odds_X8_greatestSharedDivisor : GoodIn wsX8_odds wsX8_greatestSharedDivisor := goodIn_r _ [48] (by decide +kernel) (by decide +kernel)
set_option maxRecDepth 20000 in
theorem gX8_odds_X8_greatestSharedDivisor : GoodIn wsX8_odds (va_wsS RX8 266 yX8_greatestSharedDivisor wsX8_greatestSharedDivisor) := goodIn_app (goodIn_of _ (by decide +kernel)) ggX8_odds_X8_greatestSharedDivisor
set_option maxRecDepth 20000 in
theorem ggX8_odds_X8_power : GoodIn wsX8_odds wsX8_power := goodIn_r _ [51] (by decide +kernel) (by decide +kernel)
set_option maxRecDepth 20000 in
theorem gX8_odds_X8_power : GoodIn wsX8_odds (va_wsS RX8 269 yX8_power wsX8_power) := goodIn_app (goodIn_of _ (by decide +kernel)) ggX8_odds_X8_power
theorem dX8_odds_0 : decode cX8_odds 0 = .ok (.aload_n 0, 1) := by decide +kernel
theorem dX8_odds_1 : decode cX8_odds 1 = .ok (.iload_n 1, 1) := by decide +kernel
theorem dX8_odds_2 : decode cX8_odds 2 = .ok (.invokevirtual 101, 3) := by decide +kernel
theorem dX8_odds_5 : decode cX8_odds 5 = .ok (.ifCond .eq 22, 3) := by decide +kernel
theorem dX8_odds_8 : decode cX8_odds 8 = .ok (.iload_n 2, 1) := by decide +kernel
theorem dX8_odds_9 : decode cX8_odds 9 = .ok (.ifCond .lt 18, 3) := by decide +kernel
theorem dX8_odds_12 : decode cX8_odds 12 = .ok (.iload_n 2, 1) := by decide +kernel
theorem dX8_odds_13 : decode cX8_odds 13 = .ok (.bipush 10, 2) := by decide +kernel
theorem dX8_odds_15 : decode cX8_odds 15 = .ok (.if_icmp .gt 12, 3) := by decide +kernel
theorem dX8_odds_18 : decode cX8_odds 18 = .ok (.iload_n 3, 1) := by decide +kernel
theorem dX8_odds_19 : decode cX8_odds 19 = .ok (.ifCond .lt 8, 3) := by decide +kernel
theorem dX8_odds_22 : decode cX8_odds 22 = .ok (.iload_n 3, 1) := by decide +kernel
theorem dX8_odds_23 : decode cX8_odds 23 = .ok (.iconst 1, 1) := by decide +kernel
theorem dX8_odds_24 : decode cX8_odds 24 = .ok (.if_icmp .le 5, 3) := by decide +kernel
theorem dX8_odds_27 : decode cX8_odds 27 = .ok (.iconst (-1), 1) := by decide +kernel
theorem dX8_odds_28 : decode cX8_odds 28 = .ok (.ireturn, 1) := by decide +kernel
theorem dX8_odds_29 : decode cX8_odds 29 = .ok (.aload_n 0, 1) := by decide +kernel
theorem dX8_odds_30 : decode cX8_odds 30 = .ok (.getfield 19, 3) := by decide +kernel
theorem dX8_odds_33 : decode cX8_odds 33 = .ok (.aload_n 0, 1) := by decide +kernel
theorem dX8_odds_34 : decode cX8_odds 34 = .ok (.getfield 29, 3) := by decide +kernel
theorem dX8_odds_37 : decode cX8_odds 37 = .ok (.getfield 65, 3) := by decide +kernel
theorem dX8_odds_40 : decode cX8_odds 40 = .ok (.iload_n 1, 1) := by decide +kernel
theorem dX8_odds_41 : decode cX8_odds 41 = .ok (.invokevirtual 242, 3) := by decide +kernel
theorem dX8_odds_44 : decode cX8_odds 44 = .ok (.invokestatic 261, 3) := by decide +kernel
theorem dX8_odds_47 : decode cX8_odds 47 = .ok (.istore 4, 2) := by decide +kernel
theorem dX8_odds_49 : decode cX8_odds 49 = .ok (.iload_n 2, 1) := by decide +kernel
theorem dX8_odds_50 : decode cX8_odds 50 = .ok (.invokestatic 266, 3) := by decide +kernel
theorem dX8_odds_53 : decode cX8_odds 53 = .ok (.istore 5, 2) := by decide +kernel
theorem dX8_odds_55 : decode cX8_odds 55 = .ok (.iload_n 3, 1) := by decide +kernel
theorem dX8_odds_56 : decode cX8_odds 56 = .ok (.ifCond .ne 10, 3) := by decide +kernel
theorem dX8_odds_59 : decode cX8_odds 59 = .ok (.iload_n 2, 1) := by decide +kernel
theorem dX8_odds_60 : decode cX8_odds 60 = .ok (.iload 5, 2) := by decide +kernel
theorem dX8_odds_62 : decode cX8_odds 62 = .ok (.idiv, 1) := by decide +kernel
theorem dX8_odds_63 : decode cX8_odds 63 = .ok (.goto 8, 3) := by decide +kernel
theorem dX8_odds_66 : decode cX8_odds 66 = .ok (.bipush 10, 2) := by decide +kernel
theorem dX8_odds_68 : decode cX8_odds 68 = .ok (.iload 5, 2) := by decide +kernel
theorem dX8_odds_70 : decode cX8_odds 70 = .ok (.idiv, 1) := by decide +kernel
theorem dX8_odds_71 : decode cX8_odds 71 = .ok (.iload 4, 2) := by decide +kernel
theorem dX8_odds_73 : decode cX8_odds 73 = .ok (.invokestatic 269, 3) := by decide +kernel
theorem dX8_odds_76 : decode cX8_odds 76 = .ok (.ireturn, 1) := by decide +kernel
set_option maxRecDepth 20000 in
theorem ggX8_saw_X8_isLimb : GoodIn wsX8_saw wsX8_isLimb := goodIn_r _ [6, 7, 8, 21, 22, 23, 24, 25, 26, 27, 28, 29, 30, 31, 32, 33, 34, 35, 36, 37, 38, 39, 40] (by decide +kernel) (by decide +kernel)
set_option maxRecDepth 20000 in
theorem gX8_saw_X8_isLimb : GoodIn wsX8_saw (wsV RX8 101 RX8 yX8_isLimb wsX8_isLimb) := goodIn_app (goodIn_of _ (by decide +kernel)) ggX8_saw_X8_isLimb
set_option maxRecDepth 20000 in
theorem ggX8_saw_X7_add : GoodIn wsX8_saw wsX7_add := goodIn_r _ [13, 14, 15, 16, 41, 42, 43, 44, 45] (by decide +kernel) (by decide +kernel)
set_option maxRecDepth 20000 in
theorem gX8_saw_X7_add : GoodIn wsX8_saw (wsV RX8 272 RX7 yX7_add wsX7_add) := goodIn_app (goodIn_of _ (by decide +kernel)) ggX8_saw_X7_add
set_option maxRecDepth 20000 in
theorem ggX8_saw_X7_size : GoodIn wsX8_saw wsX7_size := goodIn_r _ [20, 14, 41, 42, 43, 44, 45] (by decide +kernel) (by decide +kernel)
set_option maxRecDepth 20000 in
theorem gX8_saw_X7_size : GoodIn wsX8_saw (wsV RX8 275 RX7 yX7_size wsX7_size) := goodIn_app (goodIn_of _ (by decide +kernel)) ggX8_saw_X7_size
theorem dX8_saw_0 : decode cX8_saw 0 = .ok (.aload_n 0, 1) := by decide +kernel
theorem dX8_saw_1 : decode cX8_saw 1 = .ok (.iload_n 1, 1) := by decide +kernel
theorem dX8_saw_2 : decode cX8_saw 2 = .ok (.invokevirtual 101, 3) := by decide +kernel
theorem dX8_saw_5 : decode cX8_saw 5 = .ok (.ifCond .eq 13, 3) := by decide +kernel
theorem dX8_saw_8 : decode cX8_saw 8 = .ok (.iload_n 2, 1) := by decide +kernel
theorem dX8_saw_9 : decode cX8_saw 9 = .ok (.ifCond .lt 9, 3) := by decide +kernel
theorem dX8_saw_12 : decode cX8_saw 12 = .ok (.iload_n 2, 1) := by decide +kernel
theorem dX8_saw_13 : decode cX8_saw 13 = .ok (.bipush 49, 2) := by decide +kernel
theorem dX8_saw_15 : decode cX8_saw 15 = .ok (.if_icmp .le 5, 3) := by decide +kernel
theorem dX8_saw_18 : decode cX8_saw 18 = .ok (.iconst (-1), 1) := by decide +kernel
theorem dX8_saw_19 : decode cX8_saw 19 = .ok (.ireturn, 1) := by decide +kernel
theorem dX8_saw_20 : decode cX8_saw 20 = .ok (.aload_n 0, 1) := by decide +kernel
theorem dX8_saw_21 : decode cX8_saw 21 = .ok (.getfield 40, 3) := by decide +kernel
theorem dX8_saw_24 : decode cX8_saw 24 = .ok (.iload_n 1, 1) := by decide +kernel
theorem dX8_saw_25 : decode cX8_saw 25 = .ok (.iload_n 2, 1) := by decide +kernel
theorem dX8_saw_26 : decode cX8_saw 26 = .ok (.invokevirtual 272, 3) := by decide +kernel
theorem dX8_saw_29 : decode cX8_saw 29 = .ok (.ifCond .eq 13, 3) := by decide +kernel
theorem dX8_saw_32 : decode cX8_saw 32 = .ok (.aload_n 0, 1) := by decide +kernel
theorem dX8_saw_33 : decode cX8_saw 33 = .ok (.getfield 40, 3) := by decide +kernel
theorem dX8_saw_36 : decode cX8_saw 36 = .ok (.invokevirtual 275, 3) := by decide +kernel
theorem dX8_saw_39 : decode cX8_saw 39 = .ok (.goto 5, 3) := by decide +kernel
theorem dX8_saw_42 : decode cX8_saw 42 = .ok (.bipush (-3), 2) := by decide +kernel
theorem dX8_saw_44 : decode cX8_saw 44 = .ok (.ireturn, 1) := by decide +kernel
set_option maxRecDepth 20000 in
theorem ggX8_forget_X7_empty : GoodIn wsX8_forget wsX7_empty := goodIn_r _ [6, 7, 17, 18, 19, 20, 21] (by decide +kernel) (by decide +kernel)
set_option maxRecDepth 20000 in
theorem gX8_forget_X7_empty : GoodIn wsX8_forget (wsV RX8 100 RX7 yX7_empty wsX7_empty) := goodIn_app (goodIn_of _ (by decide +kernel)) ggX8_forget_X7_empty
theorem dX8_forget_0 : decode cX8_forget 0 = .ok (.aload_n 0, 1) := by decide +kernel
theorem dX8_forget_1 : decode cX8_forget 1 = .ok (.getfield 40, 3) := by decide +kernel
theorem dX8_forget_4 : decode cX8_forget 4 = .ok (.invokevirtual 100, 3) := by decide +kernel
theorem dX8_forget_7 : decode cX8_forget 7 = .ok (.ireturn, 1) := by decide +kernel
set_option maxRecDepth 20000 in
theorem ggX8_suspects_X7_suspected : GoodIn wsX8_suspects wsX7_suspected := goodIn_r _ [9, 10, 11, 12, 13, 14, 15, 16, 17, 18, 19, 20, 8, 21, 22, 23, 24, 25, 26, 27, 28, 29, 30, 31, 32, 33, 34, 35, 36, 37, 38, 39, 40, 41, 42, 43, 44, 45, 46, 47, 48, 49, 50, 51, 52, 53, 54, 55, 56, 57, 58, 59, 60, 61, 62, 63, 64, 65, 66, 67, 68, 69, 70, 71, 72, 85, 86, 87, 88, 89, 90, 91, 92, 93, 94, 95, 96, 97, 98, 99, 100, 101] (by decide +kernel) (by decide +kernel)
set_option maxRecDepth 20000 in
theorem gX8_suspects_X7_suspected : GoodIn wsX8_suspects (wsV RX8 276 RX7 yX7_suspected wsX7_suspected) := goodIn_app (goodIn_of _ (by decide +kernel)) ggX8_suspects_X7_suspected
theorem dX8_suspects_0 : decode cX8_suspects 0 = .ok (.aload_n 0, 1) := by decide +kernel
theorem dX8_suspects_1 : decode cX8_suspects 1 = .ok (.getfield 40, 3) := by decide +kernel
theorem dX8_suspects_4 : decode cX8_suspects 4 = .ok (.aload_n 0, 1) := by decide +kernel
theorem dX8_suspects_5 : decode cX8_suspects 5 = .ok (.getfield 19, 3) := by decide +kernel
theorem dX8_suspects_8 : decode cX8_suspects 8 = .ok (.aload_n 0, 1) := by decide +kernel
theorem dX8_suspects_9 : decode cX8_suspects 9 = .ok (.getfield 29, 3) := by decide +kernel
theorem dX8_suspects_12 : decode cX8_suspects 12 = .ok (.getfield 65, 3) := by decide +kernel
theorem dX8_suspects_15 : decode cX8_suspects 15 = .ok (.invokevirtual 276, 3) := by decide +kernel
theorem dX8_suspects_18 : decode cX8_suspects 18 = .ok (.ireturn, 1) := by decide +kernel
set_option maxRecDepth 20000 in
theorem ggX8_holes_X8_isString : GoodIn wsX8_holes wsX8_isString := goodIn_r _ [9, 4, 10, 70, 71, 72, 73, 74, 75, 76, 77, 78, 82, 83, 84, 85, 86, 87, 88, 89, 90, 91, 92] (by decide +kernel) (by decide +kernel)
set_option maxRecDepth 20000 in
theorem gX8_holes_X8_isString : GoodIn wsX8_holes (wsV RX8 121 RX8 yX8_isString wsX8_isString) := goodIn_app (goodIn_of _ (by decide +kernel)) ggX8_holes_X8_isString
set_option maxRecDepth 20000 in
theorem ggX8_holes_X4_isCut : GoodIn wsX8_holes wsX4_isCut := goodIn_r _ [15, 16, 93] (by decide +kernel) (by decide +kernel)
set_option maxRecDepth 20000 in
theorem gX8_holes_X4_isCut : GoodIn wsX8_holes (wsV RX8 148 RX4 yX4_isCut wsX4_isCut) := goodIn_app (goodIn_of _ (by decide +kernel)) ggX8_holes_X4_isCut
set_option maxRecDepth 20000 in
theorem ggX8_holes_X7_fittingHoles : GoodIn wsX8_holes wsX7_fittingHoles := goodIn_r _ [21, 22, 23, 24, 25, 14, 26, 16, 27, 28, 29, 30, 31, 32, 33, 34, 35, 36, 37, 20, 38, 39, 40, 41, 42, 43, 44, 45, 46, 47, 48, 49, 50, 51, 52, 53, 54, 55, 56, 12, 13, 15, 57, 58, 59, 60, 61, 62, 63, 64, 65, 66, 67, 68, 69, 94, 95, 96, 97, 98, 93, 82, 83, 84, 85, 86, 87, 88, 89, 90, 91, 92] (by decide +kernel) (by decide +kernel)
set_option maxRecDepth 20000 in
theorem gX8_holes_X7_fittingHoles : GoodIn wsX8_holes (wsV RX8 280 RX7 yX7_fittingHoles wsX7_fittingHoles) := goodIn_app (goodIn_of _ (by decide +kernel)) ggX8_holes_X7_fittingHoles
theorem dX8_holes_0 : decode cX8_holes 0 = .ok (.aload_n 0, 1) := by decide +kernel
theorem dX8_holes_1 : decode cX8_holes 1 = .ok (.iload_n 1, 1) := by decide +kernel
theorem dX8_holes_2 : decode cX8_holes 2 = .ok (.invokevirtual 121, 3) := by decide +kernel
theorem dX8_holes_5 : decode cX8_holes 5 = .ok (.ifCond .ne 5, 3) := by decide +kernel
theorem dX8_holes_8 : decode cX8_holes 8 = .ok (.iconst (-1), 1) := by decide +kernel
theorem dX8_holes_9 : decode cX8_holes 9 = .ok (.ireturn, 1) := by decide +kernel
theorem dX8_holes_10 : decode cX8_holes 10 = .ok (.aload_n 0, 1) := by decide +kernel
theorem dX8_holes_11 : decode cX8_holes 11 = .ok (.getfield 29, 3) := by decide +kernel
theorem dX8_holes_14 : decode cX8_holes 14 = .ok (.getfield 65, 3) := by decide +kernel
theorem dX8_holes_17 : decode cX8_holes 17 = .ok (.iload_n 1, 1) := by decide +kernel
theorem dX8_holes_18 : decode cX8_holes 18 = .ok (.invokevirtual 148, 3) := by decide +kernel
theorem dX8_holes_21 : decode cX8_holes 21 = .ok (.ifCond .eq 8, 3) := by decide +kernel
theorem dX8_holes_24 : decode cX8_holes 24 = .ok (.bipush (-2), 2) := by decide +kernel
theorem dX8_holes_26 : decode cX8_holes 26 = .ok (.goto 22, 3) := by decide +kernel
theorem dX8_holes_29 : decode cX8_holes 29 = .ok (.aload_n 0, 1) := by decide +kernel
theorem dX8_holes_30 : decode cX8_holes 30 = .ok (.getfield 40, 3) := by decide +kernel
theorem dX8_holes_33 : decode cX8_holes 33 = .ok (.aload_n 0, 1) := by decide +kernel
theorem dX8_holes_34 : decode cX8_holes 34 = .ok (.getfield 19, 3) := by decide +kernel
theorem dX8_holes_37 : decode cX8_holes 37 = .ok (.aload_n 0, 1) := by decide +kernel
theorem dX8_holes_38 : decode cX8_holes 38 = .ok (.getfield 29, 3) := by decide +kernel
theorem dX8_holes_41 : decode cX8_holes 41 = .ok (.getfield 65, 3) := by decide +kernel
theorem dX8_holes_44 : decode cX8_holes 44 = .ok (.iload_n 1, 1) := by decide +kernel
theorem dX8_holes_45 : decode cX8_holes 45 = .ok (.invokevirtual 280, 3) := by decide +kernel
theorem dX8_holes_48 : decode cX8_holes 48 = .ok (.ireturn, 1) := by decide +kernel
set_option maxRecDepth 20000 in
theorem ggX8_look_X7_limbToLookAt : GoodIn wsX8_look wsX7_limbToLookAt := goodIn_r _ [9, 10, 11, 12, 13, 8, 14, 15, 16, 17, 18, 19, 20, 21, 22, 23, 24, 25, 26, 27, 28, 29, 30, 31, 32, 33, 34, 35, 36, 37, 38, 39, 40, 41, 42, 43, 44, 45, 46, 47, 48, 49, 50, 51, 52, 53, 54, 55, 56, 57, 58, 59, 60, 61, 62, 63, 64, 65, 66, 67, 68, 69, 70, 71, 72, 73, 74, 75, 76, 77, 78, 79, 80, 81, 82, 83, 84, 85, 86, 87, 100, 101, 102, 103, 104, 105, 106, 107, 108, 109, 110, 111, 112, 113, 114, 115, 116] (by decide +kernel) (by decide +kernel)
set_option maxRecDepth 20000 in
theorem gX8_look_X7_limbToLookAt : GoodIn wsX8_look (wsV RX8 284 RX7 yX7_limbToLookAt wsX7_limbToLookAt) := goodIn_app (goodIn_of _ (by decide +kernel)) ggX8_look_X7_limbToLookAt
theorem dX8_look_0 : decode cX8_look 0 = .ok (.aload_n 0, 1) := by decide +kernel
theorem dX8_look_1 : decode cX8_look 1 = .ok (.getfield 40, 3) := by decide +kernel
theorem dX8_look_4 : decode cX8_look 4 = .ok (.aload_n 0, 1) := by decide +kernel
theorem dX8_look_5 : decode cX8_look 5 = .ok (.getfield 19, 3) := by decide +kernel
theorem dX8_look_8 : decode cX8_look 8 = .ok (.aload_n 0, 1) := by decide +kernel
theorem dX8_look_9 : decode cX8_look 9 = .ok (.getfield 29, 3) := by decide +kernel
theorem dX8_look_12 : decode cX8_look 12 = .ok (.getfield 65, 3) := by decide +kernel
theorem dX8_look_15 : decode cX8_look 15 = .ok (.invokevirtual 284, 3) := by decide +kernel
theorem dX8_look_18 : decode cX8_look 18 = .ok (.ireturn, 1) := by decide +kernel
set_option maxRecDepth 20000 in
theorem ggX8_mark_X8_isLimb : GoodIn wsX8_mark wsX8_isLimb := goodIn_r _ [10, 3, 11, 85, 86, 87, 88, 89, 90, 91, 92, 93, 97, 98, 99, 100, 101, 102, 103, 104, 105, 106, 107] (by decide +kernel) (by decide +kernel)
set_option maxRecDepth 20000 in
theorem gX8_mark_X8_isLimb : GoodIn wsX8_mark (wsV RX8 101 RX8 yX8_isLimb wsX8_isLimb) := goodIn_app (goodIn_of _ (by decide +kernel)) ggX8_mark_X8_isLimb
set_option maxRecDepth 20000 in
theorem ggX8_mark_X1_asLimb : GoodIn wsX8_mark wsX1_asLimb := goodIn_r _ [16, 17, 18, 19, 20, 21, 22, 23, 24, 25, 26, 27, 28, 29, 30, 31, 32, 33, 34, 35, 36, 37, 38, 39, 40, 41, 42, 43, 44, 45, 46, 47, 48, 49, 50, 108, 97, 98, 99, 100, 101, 102, 103, 104, 105, 106, 107, 109] (by decide +kernel) (by decide +kernel)
set_option maxRecDepth 20000 in
theorem gX8_mark_X1_asLimb : GoodIn wsX8_mark (wsV RX8 287 RX1 yX1_asLimb wsX1_asLimb) := goodIn_app (goodIn_of _ (by decide +kernel)) ggX8_mark_X1_asLimb
set_option maxRecDepth 20000 in
theorem ggX8_mark_X1_asHead : GoodIn wsX8_mark wsX1_asHead := goodIn_r _ [54, 17, 55, 56, 57, 13, 14, 15, 16, 18, 19, 20, 21, 22, 23, 24, 25, 26, 27, 28, 29, 30, 31, 32, 33, 34, 35, 36, 37, 38, 39, 40, 41, 42, 43, 44, 45, 46, 47, 48, 49, 50, 108, 97, 98, 99, 100, 101, 102, 103, 104, 105, 106, 107, 109] (by decide +kernel) (by decide +kernel)
set_option maxRecDepth 20000 in
theorem gX8_mark_X1_asHead : GoodIn wsX8_mark (wsV RX8 290 RX1 yX1_asHead wsX1_asHead) := goodIn_app (goodIn_of _ (by decide +kernel)) ggX8_mark_X1_asHead
set_option maxRecDepth 20000 in
theorem ggX8_mark_X1_asFoot : GoodIn wsX8_mark wsX1_asFoot := goodIn_r _ [61, 17, 62, 63, 57, 13, 14, 15, 16, 18, 19, 20, 21, 22, 23, 24, 25, 26, 27, 28, 29, 30, 31, 32, 33, 34, 35, 36, 37, 38, 39, 40, 41, 42, 43, 44, 45, 46, 47, 48, 49, 50, 108, 97, 98, 99, 100, 101, 102, 103, 104, 105, 106, 107, 109] (by decide +kernel) (by decide +kernel)
set_option maxRecDepth 20000 in
theorem gX8_mark_X1_asFoot : GoodIn wsX8_mark (wsV RX8 293 RX1 yX1_asFoot wsX1_asFoot) := goodIn_app (goodIn_of _ (by decide +kernel)) ggX8_mark_X1_asFoot
set_option maxRecDepth 20000 in
theorem ggX8_mark_X1_asCrown : GoodIn wsX8_mark wsX1_asCrown := goodIn_r _ [67, 17, 68, 69, 52, 53, 15, 54, 55, 56, 57, 13, 14, 16, 18, 19, 20, 21, 22, 23, 24, 25, 26, 27, 28, 29, 30, 31, 32, 33, 34, 35, 36, 37, 38, 39, 40, 41, 42, 43, 44, 45, 46, 47, 48, 49, 50, 108, 97, 98, 99, 100, 101, 102, 103, 104, 105, 106, 107, 109] (by decide +kernel) (by decide +kernel)
set_option maxRecDepth 20000 in
theorem gX8_mark_X1_asCrown : GoodIn wsX8_mark (wsV RX8 296 RX1 yX1_asCrown wsX1_asCrown) := goodIn_app (goodIn_of _ (by decide +kernel)) ggX8_mark_X1_asCrown
set_option maxRecDepth 20000 in
theorem ggX8_mark_X1_asToe : GoodIn wsX8_mark wsX1_asToe := goodIn_r _ [73, 17, 74, 75, 59, 60, 15, 61, 62, 63, 57, 13, 14, 16, 18, 19, 20, 21, 22, 23, 24, 25, 26, 27, 28, 29, 30, 31, 32, 33, 34, 35, 36, 37, 38, 39, 40, 41, 42, 43, 44, 45, 46, 47, 48, 49, 50, 108, 97, 98, 99, 100, 101, 102, 103, 104, 105, 106, 107, 109] (by decide +kernel) (by decide +kernel)
set_option maxRecDepth 20000 in
theorem gX8_mark_X1_asToe : GoodIn wsX8_mark (wsV RX8 299 RX1 yX1_asToe wsX1_asToe) := goodIn_app (goodIn_of _ (by decide +kernel)) ggX8_mark_X1_asToe
set_option maxRecDepth 20000 in
theorem ggX8_mark_X1_asHand : GoodIn wsX8_mark wsX1_asHand := goodIn_r _ [79, 17, 80, 57, 13, 14, 15, 16, 18, 19, 20, 21, 22, 23, 24, 25, 26, 27, 28, 29, 30, 31, 32, 33, 34, 35, 36, 37, 38, 39, 40, 41, 42, 43, 44, 45, 46, 47, 48, 49, 50, 81, 82, 83, 84, 108, 97, 98, 99, 100, 101, 102, 103, 104, 105, 106, 107, 109] (by decide +kernel) (by decide +kernel)
set_option maxRecDepth 20000 in
theorem gX8_mark_X1_asHand : GoodIn wsX8_mark (wsV RX8 302 RX1 yX1_asHand wsX1_asHand) := goodIn_app (goodIn_of _ (by decide +kernel)) ggX8_mark_X1_asHand
theorem dX8_mark_0 : decode cX8_mark 0 = .ok (.aload_n 0, 1) := by decide +kernel
theorem dX8_mark_1 : decode cX8_mark 1 = .ok (.iload_n 2, 1) := by decide +kernel
theorem dX8_mark_2 : decode cX8_mark 2 = .ok (.invokevirtual 101, 3) := by decide +kernel
theorem dX8_mark_5 : decode cX8_mark 5 = .ok (.ifCond .ne 6, 3) := by decide +kernel
theorem dX8_mark_8 : decode cX8_mark 8 = .ok (.ldc 124, 2) := by decide +kernel
theorem dX8_mark_10 : decode cX8_mark 10 = .ok (.ireturn, 1) := by decide +kernel
theorem dX8_mark_11 : decode cX8_mark 11 = .ok (.iload_n 1, 1) := by decide +kernel
theorem dX8_mark_12 : decode cX8_mark 12 = .ok (.tableswitch 160 0 5 #[40, 60, 80, 100, 120, 140], 40) := by decide +kernel
theorem dX8_mark_52 : decode cX8_mark 52 = .ok (.aload_n 0, 1) := by decide +kernel
theorem dX8_mark_53 : decode cX8_mark 53 = .ok (.getfield 54, 3) := by decide +kernel
theorem dX8_mark_56 : decode cX8_mark 56 = .ok (.aload_n 0, 1) := by decide +kernel
theorem dX8_mark_57 : decode cX8_mark 57 = .ok (.getfield 19, 3) := by decide +kernel
theorem dX8_mark_60 : decode cX8_mark 60 = .ok (.aload_n 0, 1) := by decide +kernel
theorem dX8_mark_61 : decode cX8_mark 61 = .ok (.getfield 29, 3) := by decide +kernel
theorem dX8_mark_64 : decode cX8_mark 64 = .ok (.getfield 65, 3) := by decide +kernel
theorem dX8_mark_67 : decode cX8_mark 67 = .ok (.iload_n 2, 1) := by decide +kernel
theorem dX8_mark_68 : decode cX8_mark 68 = .ok (.invokevirtual 287, 3) := by decide +kernel
theorem dX8_mark_71 : decode cX8_mark 71 = .ok (.ireturn, 1) := by decide +kernel
theorem dX8_mark_72 : decode cX8_mark 72 = .ok (.aload_n 0, 1) := by decide +kernel
theorem dX8_mark_73 : decode cX8_mark 73 = .ok (.getfield 54, 3) := by decide +kernel
theorem dX8_mark_76 : decode cX8_mark 76 = .ok (.aload_n 0, 1) := by decide +kernel
theorem dX8_mark_77 : decode cX8_mark 77 = .ok (.getfield 19, 3) := by decide +kernel
theorem dX8_mark_80 : decode cX8_mark 80 = .ok (.aload_n 0, 1) := by decide +kernel
theorem dX8_mark_81 : decode cX8_mark 81 = .ok (.getfield 29, 3) := by decide +kernel
theorem dX8_mark_84 : decode cX8_mark 84 = .ok (.getfield 65, 3) := by decide +kernel
theorem dX8_mark_87 : decode cX8_mark 87 = .ok (.iload_n 2, 1) := by decide +kernel
theorem dX8_mark_88 : decode cX8_mark 88 = .ok (.invokevirtual 290, 3) := by decide +kernel
theorem dX8_mark_91 : decode cX8_mark 91 = .ok (.ireturn, 1) := by decide +kernel
theorem dX8_mark_92 : decode cX8_mark 92 = .ok (.aload_n 0, 1) := by decide +kernel
theorem dX8_mark_93 : decode cX8_mark 93 = .ok (.getfield 54, 3) := by decide +kernel
theorem dX8_mark_96 : decode cX8_mark 96 = .ok (.aload_n 0, 1) := by decide +kernel
theorem dX8_mark_97 : decode cX8_mark 97 = .ok (.getfield 19, 3) := by decide +kernel
theorem dX8_mark_100 : decode cX8_mark 100 = .ok (.aload_n 0, 1) := by decide +kernel
theorem dX8_mark_101 : decode cX8_mark 101 = .ok (.getfield 29, 3) := by decide +kernel
theorem dX8_mark_104 : decode cX8_mark 104 = .ok (.getfield 65, 3) := by decide +kernel
theorem dX8_mark_107 : decode cX8_mark 107 = .ok (.iload_n 2, 1) := by decide +kernel
theorem dX8_mark_108 : decode cX8_mark 108 = .ok (.invokevirtual 293, 3) := by decide +kernel
theorem dX8_mark_111 : decode cX8_mark 111 = .ok (.ireturn, 1) := by decide +kernel
theorem dX8_mark_112 : decode cX8_mark 112 = .ok (.aload_n 0, 1) := by decide +kernel
theorem dX8_mark_113 : decode cX8_mark 113 = .ok (.getfield 54, 3) := by decide +kernel
theorem dX8_mark_116 : decode cX8_mark 116 = .ok (.aload_n 0, 1) := by decide +kernel
theorem dX8_mark_117 : decode cX8_mark 117 = .ok (.getfield 19, 3) := by decide +kernel
theorem dX8_mark_120 : decode cX8_mark 120 = .ok (.aload_n 0, 1) := by decide +kernel
theorem dX8_mark_121 : decode cX8_mark 121 = .ok (.getfield 29, 3) := by decide +kernel
theorem dX8_mark_124 : decode cX8_mark 124 = .ok (.getfield 65, 3) := by decide +kernel
theorem dX8_mark_127 : decode cX8_mark 127 = .ok (.iload_n 2, 1) := by decide +kernel
theorem dX8_mark_128 : decode cX8_mark 128 = .ok (.invokevirtual 296, 3) := by decide +kernel
theorem dX8_mark_131 : decode cX8_mark 131 = .ok (.ireturn, 1) := by decide +kernel
theorem dX8_mark_132 : decode cX8_mark 132 = .ok (.aload_n 0, 1) := by decide +kernel
theorem dX8_mark_133 : decode cX8_mark 133 = .ok (.getfield 54, 3) := by decide +kernel
theorem dX8_mark_136 : decode cX8_mark 136 = .ok (.aload_n 0, 1) := by decide +kernel
theorem dX8_mark_137 : decode cX8_mark 137 = .ok (.getfield 19, 3) := by decide +kernel
theorem dX8_mark_140 : decode cX8_mark 140 = .ok (.aload_n 0, 1) := by decide +kernel
theorem dX8_mark_141 : decode cX8_mark 141 = .ok (.getfield 29, 3) := by decide +kernel
theorem dX8_mark_144 : decode cX8_mark 144 = .ok (.getfield 65, 3) := by decide +kernel
theorem dX8_mark_147 : decode cX8_mark 147 = .ok (.iload_n 2, 1) := by decide +kernel
theorem dX8_mark_148 : decode cX8_mark 148 = .ok (.invokevirtual 299, 3) := by decide +kernel
theorem dX8_mark_151 : decode cX8_mark 151 = .ok (.ireturn, 1) := by decide +kernel
theorem dX8_mark_152 : decode cX8_mark 152 = .ok (.aload_n 0, 1) := by decide +kernel
theorem dX8_mark_153 : decode cX8_mark 153 = .ok (.getfield 54, 3) := by decide +kernel
theorem dX8_mark_156 : decode cX8_mark 156 = .ok (.aload_n 0, 1) := by decide +kernel
theorem dX8_mark_157 : decode cX8_mark 157 = .ok (.getfield 19, 3) := by decide +kernel
theorem dX8_mark_160 : decode cX8_mark 160 = .ok (.aload_n 0, 1) := by decide +kernel
theorem dX8_mark_161 : decode cX8_mark 161 = .ok (.getfield 29, 3) := by decide +kernel
theorem dX8_mark_164 : decode cX8_mark 164 = .ok (.getfield 65, 3) := by decide +kernel
theorem dX8_mark_167 : decode cX8_mark 167 = .ok (.iload_n 2, 1) := by decide +kernel
theorem dX8_mark_168 : decode cX8_mark 168 = .ok (.invokevirtual 302, 3) := by decide +kernel
theorem dX8_mark_171 : decode cX8_mark 171 = .ok (.ireturn, 1) := by decide +kernel
theorem dX8_mark_172 : decode cX8_mark 172 = .ok (.ldc 124, 2) := by decide +kernel
theorem dX8_mark_174 : decode cX8_mark 174 = .ok (.ireturn, 1) := by decide +kernel
set_option maxRecDepth 20000 in
theorem ggX8_keep_X8_isImage : GoodIn wsX8_keep wsX8_isImage := goodIn_r _ [8] (by decide +kernel) (by decide +kernel)
set_option maxRecDepth 20000 in
theorem gX8_keep_X8_isImage : GoodIn wsX8_keep (va_wsS RX8 305 yX8_isImage wsX8_isImage) := goodIn_app (goodIn_of _ (by decide +kernel)) ggX8_keep_X8_isImage
set_option maxRecDepth 20000 in
theorem ggX8_keep_X5_copyFrom : GoodIn wsX8_keep wsX5_copyFrom := goodIn_r _ [13, 14, 15, 16, 17, 18, 19, 20, 21, 22, 23, 24, 25, 26, 27, 28, 29, 30, 31, 32, 33, 34, 48, 49, 50, 51, 52, 53, 54] (by decide +kernel) (by decide +kernel)
set_option maxRecDepth 20000 in
theorem gX8_keep_X5_copyFrom : GoodIn wsX8_keep (wsV RX8 308 RX5 yX5_copyFrom wsX5_copyFrom) := goodIn_app (goodIn_of _ (by decide +kernel)) ggX8_keep_X5_copyFrom
set_option maxRecDepth 20000 in
theorem ggX8_keep_X4_lift : GoodIn wsX8_keep wsX4_lift := goodIn_r _ [38, 21, 51] (by decide +kernel) (by decide +kernel)
set_option maxRecDepth 20000 in
theorem gX8_keep_X4_lift : GoodIn wsX8_keep (wsV RX8 164 RX4 yX4_lift wsX4_lift) := goodIn_app (goodIn_of _ (by decide +kernel)) ggX8_keep_X4_lift
theorem dX8_keep_0 : decode cX8_keep 0 = .ok (.iload_n 1, 1) := by decide +kernel
theorem dX8_keep_1 : decode cX8_keep 1 = .ok (.invokestatic 305, 3) := by decide +kernel
theorem dX8_keep_4 : decode cX8_keep 4 = .ok (.ifCond .ne 5, 3) := by decide +kernel
theorem dX8_keep_7 : decode cX8_keep 7 = .ok (.iconst (-1), 1) := by decide +kernel
theorem dX8_keep_8 : decode cX8_keep 8 = .ok (.ireturn, 1) := by decide +kernel
theorem dX8_keep_9 : decode cX8_keep 9 = .ok (.aload_n 0, 1) := by decide +kernel
theorem dX8_keep_10 : decode cX8_keep 10 = .ok (.getfield 33, 3) := by decide +kernel
theorem dX8_keep_13 : decode cX8_keep 13 = .ok (.iload_n 1, 1) := by decide +kernel
theorem dX8_keep_14 : decode cX8_keep 14 = .ok (.aaload, 1) := by decide +kernel
theorem dX8_keep_15 : decode cX8_keep 15 = .ok (.aload_n 0, 1) := by decide +kernel
theorem dX8_keep_16 : decode cX8_keep 16 = .ok (.getfield 29, 3) := by decide +kernel
theorem dX8_keep_19 : decode cX8_keep 19 = .ok (.invokevirtual 308, 3) := by decide +kernel
theorem dX8_keep_22 : decode cX8_keep 22 = .ok (.aload_n 0, 1) := by decide +kernel
theorem dX8_keep_23 : decode cX8_keep 23 = .ok (.getfield 33, 3) := by decide +kernel
theorem dX8_keep_26 : decode cX8_keep 26 = .ok (.iload_n 1, 1) := by decide +kernel
theorem dX8_keep_27 : decode cX8_keep 27 = .ok (.aaload, 1) := by decide +kernel
theorem dX8_keep_28 : decode cX8_keep 28 = .ok (.iconst 1, 1) := by decide +kernel
theorem dX8_keep_29 : decode cX8_keep 29 = .ok (.putfield 96, 3) := by decide +kernel
theorem dX8_keep_32 : decode cX8_keep 32 = .ok (.aload_n 0, 1) := by decide +kernel
theorem dX8_keep_33 : decode cX8_keep 33 = .ok (.getfield 29, 3) := by decide +kernel
theorem dX8_keep_36 : decode cX8_keep 36 = .ok (.getfield 65, 3) := by decide +kernel
theorem dX8_keep_39 : decode cX8_keep 39 = .ok (.invokevirtual 164, 3) := by decide +kernel
theorem dX8_keep_42 : decode cX8_keep 42 = .ok (.ireturn, 1) := by decide +kernel
set_option maxRecDepth 20000 in
theorem ggX8_back_X8_isImage : GoodIn wsX8_back wsX8_isImage := goodIn_r _ [8] (by decide +kernel) (by decide +kernel)
set_option maxRecDepth 20000 in
theorem gX8_back_X8_isImage : GoodIn wsX8_back (va_wsS RX8 305 yX8_isImage wsX8_isImage) := goodIn_app (goodIn_of _ (by decide +kernel)) ggX8_back_X8_isImage
set_option maxRecDepth 20000 in
theorem ggX8_back_X5_copyFrom : GoodIn wsX8_back wsX5_copyFrom := goodIn_r _ [13, 14, 15, 16, 17, 18, 19, 20, 21, 22, 23, 24, 25, 26, 27, 28, 29, 30, 31, 32, 33, 34, 48, 49, 50, 51, 52, 53, 54] (by decide +kernel) (by decide +kernel)
set_option maxRecDepth 20000 in
theorem gX8_back_X5_copyFrom : GoodIn wsX8_back (wsV RX8 308 RX5 yX5_copyFrom wsX5_copyFrom) := goodIn_app (goodIn_of _ (by decide +kernel)) ggX8_back_X5_copyFrom
set_option maxRecDepth 20000 in
theorem ggX8_back_X4_lift : GoodIn wsX8_back wsX4_lift := goodIn_r _ [38, 21, 51] (by decide +kernel) (by decide +kernel)
set_option maxRecDepth 20000 in
theorem gX8_back_X4_lift : GoodIn wsX8_back (wsV RX8 164 RX4 yX4_lift wsX4_lift) := goodIn_app (goodIn_of _ (by decide +kernel)) ggX8_back_X4_lift
theorem dX8_back_0 : decode cX8_back 0 = .ok (.iload_n 1, 1) := by decide +kernel
theorem dX8_back_1 : decode cX8_back 1 = .ok (.invokestatic 305, 3) := by decide +kernel
theorem dX8_back_4 : decode cX8_back 4 = .ok (.ifCond .ne 5, 3) := by decide +kernel
theorem dX8_back_7 : decode cX8_back 7 = .ok (.iconst (-1), 1) := by decide +kernel
theorem dX8_back_8 : decode cX8_back 8 = .ok (.ireturn, 1) := by decide +kernel
theorem dX8_back_9 : decode cX8_back 9 = .ok (.aload_n 0, 1) := by decide +kernel
theorem dX8_back_10 : decode cX8_back 10 = .ok (.getfield 33, 3) := by decide +kernel
theorem dX8_back_13 : decode cX8_back 13 = .ok (.iload_n 1, 1) := by decide +kernel
theorem dX8_back_14 : decode cX8_back 14 = .ok (.aaload, 1) := by decide +kernel
theorem dX8_back_15 : decode cX8_back 15 = .ok (.getfield 96, 3) := by decide +kernel
theorem dX8_back_18 : decode cX8_back 18 = .ok (.ifCond .ne 6, 3) := by decide +kernel
theorem dX8_back_21 : decode cX8_back 21 = .ok (.bipush (-2), 2) := by decide +kernel
theorem dX8_back_23 : decode cX8_back 23 = .ok (.ireturn, 1) := by decide +kernel
theorem dX8_back_24 : decode cX8_back 24 = .ok (.aload_n 0, 1) := by decide +kernel
theorem dX8_back_25 : decode cX8_back 25 = .ok (.getfield 29, 3) := by decide +kernel
theorem dX8_back_28 : decode cX8_back 28 = .ok (.aload_n 0, 1) := by decide +kernel
theorem dX8_back_29 : decode cX8_back 29 = .ok (.getfield 33, 3) := by decide +kernel
theorem dX8_back_32 : decode cX8_back 32 = .ok (.iload_n 1, 1) := by decide +kernel
theorem dX8_back_33 : decode cX8_back 33 = .ok (.aaload, 1) := by decide +kernel
theorem dX8_back_34 : decode cX8_back 34 = .ok (.invokevirtual 308, 3) := by decide +kernel
theorem dX8_back_37 : decode cX8_back 37 = .ok (.aload_n 0, 1) := by decide +kernel
theorem dX8_back_38 : decode cX8_back 38 = .ok (.getfield 29, 3) := by decide +kernel
theorem dX8_back_41 : decode cX8_back 41 = .ok (.getfield 65, 3) := by decide +kernel
theorem dX8_back_44 : decode cX8_back 44 = .ok (.invokevirtual 164, 3) := by decide +kernel
theorem dX8_back_47 : decode cX8_back 47 = .ok (.ireturn, 1) := by decide +kernel
set_option maxRecDepth 20000 in
theorem ggX8_count_X7_size : GoodIn wsX8_count wsX7_size := goodIn_r _ [13, 14, 50, 51, 52, 53, 54] (by decide +kernel) (by decide +kernel)
set_option maxRecDepth 20000 in
theorem gX8_count_X7_size : GoodIn wsX8_count (wsV RX8 275 RX7 yX7_size wsX7_size) := goodIn_app (goodIn_of _ (by decide +kernel)) ggX8_count_X7_size
set_option maxRecDepth 20000 in
theorem ggX8_count_X3_known : GoodIn wsX8_count wsX3_known := goodIn_r _ [19, 20, 55, 56, 57] (by decide +kernel) (by decide +kernel)
set_option maxRecDepth 20000 in
theorem gX8_count_X3_known : GoodIn wsX8_count (wsV RX8 217 RX3 yX3_known wsX3_known) := goodIn_app (goodIn_of _ (by decide +kernel)) ggX8_count_X3_known
set_option maxRecDepth 20000 in
theorem ggX8_count_X6_size : GoodIn wsX8_count wsX6_size := goodIn_r _ [25, 26, 58, 59, 60, 61, 62, 63, 64, 65, 66] (by decide +kernel) (by decide +kernel)
set_option maxRecDepth 20000 in
theorem gX8_count_X6_size : GoodIn wsX8_count (wsV RX8 75 RX6 yX6_size wsX6_size) := goodIn_app (goodIn_of _ (by decide +kernel)) ggX8_count_X6_size
theorem dX8_count_0 : decode cX8_count 0 = .ok (.iload_n 1, 1) := by decide +kernel
theorem dX8_count_1 : decode cX8_count 1 = .ok (.tableswitch 90 0 5 #[39, 47, 55, 63, 71, 82], 39) := by decide +kernel
theorem dX8_count_40 : decode cX8_count 40 = .ok (.aload_n 0, 1) := by decide +kernel
theorem dX8_count_41 : decode cX8_count 41 = .ok (.getfield 19, 3) := by decide +kernel
theorem dX8_count_44 : decode cX8_count 44 = .ok (.getfield 235, 3) := by decide +kernel
theorem dX8_count_47 : decode cX8_count 47 = .ok (.ireturn, 1) := by decide +kernel
theorem dX8_count_48 : decode cX8_count 48 = .ok (.aload_n 0, 1) := by decide +kernel
theorem dX8_count_49 : decode cX8_count 49 = .ok (.getfield 19, 3) := by decide +kernel
theorem dX8_count_52 : decode cX8_count 52 = .ok (.getfield 311, 3) := by decide +kernel
theorem dX8_count_55 : decode cX8_count 55 = .ok (.ireturn, 1) := by decide +kernel
theorem dX8_count_56 : decode cX8_count 56 = .ok (.aload_n 0, 1) := by decide +kernel
theorem dX8_count_57 : decode cX8_count 57 = .ok (.getfield 19, 3) := by decide +kernel
theorem dX8_count_60 : decode cX8_count 60 = .ok (.getfield 248, 3) := by decide +kernel
theorem dX8_count_63 : decode cX8_count 63 = .ok (.ireturn, 1) := by decide +kernel
theorem dX8_count_64 : decode cX8_count 64 = .ok (.aload_n 0, 1) := by decide +kernel
theorem dX8_count_65 : decode cX8_count 65 = .ok (.getfield 40, 3) := by decide +kernel
theorem dX8_count_68 : decode cX8_count 68 = .ok (.invokevirtual 275, 3) := by decide +kernel
theorem dX8_count_71 : decode cX8_count 71 = .ok (.ireturn, 1) := by decide +kernel
theorem dX8_count_72 : decode cX8_count 72 = .ok (.aload_n 0, 1) := by decide +kernel
theorem dX8_count_73 : decode cX8_count 73 = .ok (.getfield 29, 3) := by decide +kernel
theorem dX8_count_76 : decode cX8_count 76 = .ok (.getfield 207, 3) := by decide +kernel
theorem dX8_count_79 : decode cX8_count 79 = .ok (.invokevirtual 217, 3) := by decide +kernel
theorem dX8_count_82 : decode cX8_count 82 = .ok (.ireturn, 1) := by decide +kernel
theorem dX8_count_83 : decode cX8_count 83 = .ok (.aload_n 0, 1) := by decide +kernel
theorem dX8_count_84 : decode cX8_count 84 = .ok (.getfield 12, 3) := by decide +kernel
theorem dX8_count_87 : decode cX8_count 87 = .ok (.invokevirtual 75, 3) := by decide +kernel
theorem dX8_count_90 : decode cX8_count 90 = .ok (.ireturn, 1) := by decide +kernel
theorem dX8_count_91 : decode cX8_count 91 = .ok (.iconst (-1), 1) := by decide +kernel
theorem dX8_count_92 : decode cX8_count 92 = .ok (.ireturn, 1) := by decide +kernel
set_option maxRecDepth 20000 in
theorem ggX8_trace_X1_asked : GoodIn wsX8_trace wsX1_asked := goodIn_r _ [6, 7, 17] (by decide +kernel) (by decide +kernel)
set_option maxRecDepth 20000 in
theorem gX8_trace_X1_asked : GoodIn wsX8_trace (wsV RX8 314 RX1 yX1_asked wsX1_asked) := goodIn_app (goodIn_of _ (by decide +kernel)) ggX8_trace_X1_asked
theorem dX8_trace_0 : decode cX8_trace 0 = .ok (.aload_n 0, 1) := by decide +kernel
theorem dX8_trace_1 : decode cX8_trace 1 = .ok (.getfield 54, 3) := by decide +kernel
theorem dX8_trace_4 : decode cX8_trace 4 = .ok (.invokevirtual 314, 3) := by decide +kernel
theorem dX8_trace_7 : decode cX8_trace 7 = .ok (.lreturn, 1) := by decide +kernel
theorem dX8_isLimb_0 : decode cX8_isLimb 0 = .ok (.iload_n 1, 1) := by decide +kernel
theorem dX8_isLimb_1 : decode cX8_isLimb 1 = .ok (.ifCond .lt 18, 3) := by decide +kernel
theorem dX8_isLimb_4 : decode cX8_isLimb 4 = .ok (.iload_n 1, 1) := by decide +kernel
theorem dX8_isLimb_5 : decode cX8_isLimb 5 = .ok (.aload_n 0, 1) := by decide +kernel
theorem dX8_isLimb_6 : decode cX8_isLimb 6 = .ok (.getfield 19, 3) := by decide +kernel
theorem dX8_isLimb_9 : decode cX8_isLimb 9 = .ok (.getfield 235, 3) := by decide +kernel
theorem dX8_isLimb_12 : decode cX8_isLimb 12 = .ok (.if_icmp .ge 7, 3) := by decide +kernel
theorem dX8_isLimb_15 : decode cX8_isLimb 15 = .ok (.iconst 1, 1) := by decide +kernel
theorem dX8_isLimb_16 : decode cX8_isLimb 16 = .ok (.goto 4, 3) := by decide +kernel
theorem dX8_isLimb_19 : decode cX8_isLimb 19 = .ok (.iconst 0, 1) := by decide +kernel
theorem dX8_isLimb_20 : decode cX8_isLimb 20 = .ok (.ireturn, 1) := by decide +kernel
theorem dX8_isString_0 : decode cX8_isString 0 = .ok (.iload_n 1, 1) := by decide +kernel
theorem dX8_isString_1 : decode cX8_isString 1 = .ok (.ifCond .lt 18, 3) := by decide +kernel
theorem dX8_isString_4 : decode cX8_isString 4 = .ok (.iload_n 1, 1) := by decide +kernel
theorem dX8_isString_5 : decode cX8_isString 5 = .ok (.aload_n 0, 1) := by decide +kernel
theorem dX8_isString_6 : decode cX8_isString 6 = .ok (.getfield 19, 3) := by decide +kernel
theorem dX8_isString_9 : decode cX8_isString 9 = .ok (.getfield 311, 3) := by decide +kernel
theorem dX8_isString_12 : decode cX8_isString 12 = .ok (.if_icmp .ge 7, 3) := by decide +kernel
theorem dX8_isString_15 : decode cX8_isString 15 = .ok (.iconst 1, 1) := by decide +kernel
theorem dX8_isString_16 : decode cX8_isString 16 = .ok (.goto 4, 3) := by decide +kernel
theorem dX8_isString_19 : decode cX8_isString 19 = .ok (.iconst 0, 1) := by decide +kernel
theorem dX8_isString_20 : decode cX8_isString 20 = .ok (.ireturn, 1) := by decide +kernel
theorem dX8_isBeat_0 : decode cX8_isBeat 0 = .ok (.iload_n 1, 1) := by decide +kernel
theorem dX8_isBeat_1 : decode cX8_isBeat 1 = .ok (.ifCond .lt 18, 3) := by decide +kernel
theorem dX8_isBeat_4 : decode cX8_isBeat 4 = .ok (.iload_n 1, 1) := by decide +kernel
theorem dX8_isBeat_5 : decode cX8_isBeat 5 = .ok (.aload_n 0, 1) := by decide +kernel
theorem dX8_isBeat_6 : decode cX8_isBeat 6 = .ok (.getfield 19, 3) := by decide +kernel
theorem dX8_isBeat_9 : decode cX8_isBeat 9 = .ok (.getfield 248, 3) := by decide +kernel
theorem dX8_isBeat_12 : decode cX8_isBeat 12 = .ok (.if_icmp .ge 7, 3) := by decide +kernel
theorem dX8_isBeat_15 : decode cX8_isBeat 15 = .ok (.iconst 1, 1) := by decide +kernel
theorem dX8_isBeat_16 : decode cX8_isBeat 16 = .ok (.goto 4, 3) := by decide +kernel
theorem dX8_isBeat_19 : decode cX8_isBeat 19 = .ok (.iconst 0, 1) := by decide +kernel
theorem dX8_isBeat_20 : decode cX8_isBeat 20 = .ok (.ireturn, 1) := by decide +kernel
theorem dX8_isImage_0 : decode cX8_isImage 0 = .ok (.iload_n 0, 1) := by decide +kernel
theorem dX8_isImage_1 : decode cX8_isImage 1 = .ok (.ifCond .lt 12, 3) := by decide +kernel
theorem dX8_isImage_4 : decode cX8_isImage 4 = .ok (.iload_n 0, 1) := by decide +kernel
theorem dX8_isImage_5 : decode cX8_isImage 5 = .ok (.iconst 2, 1) := by decide +kernel
theorem dX8_isImage_6 : decode cX8_isImage 6 = .ok (.if_icmp .ge 7, 3) := by decide +kernel
theorem dX8_isImage_9 : decode cX8_isImage 9 = .ok (.iconst 1, 1) := by decide +kernel
theorem dX8_isImage_10 : decode cX8_isImage 10 = .ok (.goto 4, 3) := by decide +kernel
theorem dX8_isImage_13 : decode cX8_isImage 13 = .ok (.iconst 0, 1) := by decide +kernel
theorem dX8_isImage_14 : decode cX8_isImage 14 = .ok (.ireturn, 1) := by decide +kernel
set_option maxRecDepth 20000 in
theorem ggX8_howManyGrounded_X0_grounded : GoodIn wsX8_howManyGrounded wsX0_grounded := goodIn_r _ [8, 9, 10, 11, 12, 7, 13, 14, 15, 16, 17, 18, 19, 20, 21, 22, 23, 24, 25, 26, 27, 28, 29, 30, 31, 32, 33, 34, 35, 36, 37, 38, 39, 40, 41, 61, 62, 63, 64, 65, 66, 67, 68, 69, 70, 71, 72] (by decide +kernel) (by decide +kernel)
set_option maxRecDepth 20000 in
theorem gX8_howManyGrounded_X0_grounded : GoodIn wsX8_howManyGrounded (wsV RX8 220 RX0 yX0_grounded wsX0_grounded) := goodIn_app (goodIn_of _ (by decide +kernel)) ggX8_howManyGrounded_X0_grounded
set_option maxRecDepth 20000 in
theorem ggX8_howManyGrounded_J6_bitCount_0f7a4 : GoodIn wsX8_howManyGrounded wsJ6_bitCount_0f7a4 := goodIn_r _ [45, 46, 47, 48] (by decide +kernel) (by decide +kernel)
set_option maxRecDepth 20000 in
theorem gX8_howManyGrounded_J6_bitCount_0f7a4 : GoodIn wsX8_howManyGrounded (va_wsS RX8 261 yJ6_bitCount_0f7a4 wsJ6_bitCount_0f7a4) := goodIn_app (goodIn_of _ (by decide +kernel)) ggX8_howManyGrounded_J6_bitCount_0f7a4
theorem dX8_howManyGrounded_0 : decode cX8_howManyGrounded 0 = .ok (.aload_n 0, 1) := by decide +kernel
theorem dX8_howManyGrounded_1 : decode cX8_howManyGrounded 1 = .ok (.getfield 19, 3) := by decide +kernel
theorem dX8_howManyGrounded_4 : decode cX8_howManyGrounded 4 = .ok (.aload_n 0, 1) := by decide +kernel
theorem dX8_howManyGrounded_5 : decode cX8_howManyGrounded 5 = .ok (.getfield 29, 3) := by decide +kernel
theorem dX8_howManyGrounded_8 : decode cX8_howManyGrounded 8 = .ok (.getfield 65, 3) := by decide +kernel
theorem dX8_howManyGrounded_11 : decode cX8_howManyGrounded 11 = .ok (.invokevirtual 220, 3) := by decide +kernel
theorem dX8_howManyGrounded_14 : decode cX8_howManyGrounded 14 = .ok (.invokestatic 261, 3) := by decide +kernel
theorem dX8_howManyGrounded_17 : decode cX8_howManyGrounded 17 = .ok (.ireturn, 1) := by decide +kernel
set_option maxRecDepth 20000 in
theorem ggX8_heightAtBeat_X4_copyFrom : GoodIn wsX8_heightAtBeat wsX4_copyFrom := goodIn_r _ [9, 10, 11, 12, 13, 14, 72] (by decide +kernel) (by decide +kernel)
set_option maxRecDepth 20000 in
theorem gX8_heightAtBeat_X4_copyFrom : GoodIn wsX8_heightAtBeat (wsV RX8 318 RX4 yX4_copyFrom wsX4_copyFrom) := goodIn_app (goodIn_of _ (by decide +kernel)) ggX8_heightAtBeat_X4_copyFrom
set_option maxRecDepth 20000 in
theorem ggX8_heightAtBeat_X0_moveToBeat : GoodIn wsX8_heightAtBeat wsX0_moveToBeat := goodIn_r _ [19, 20, 21, 22, 23, 24, 8, 25, 10, 26, 27, 28, 29, 73, 74, 75, 76, 77, 78, 79, 80, 81, 82, 83, 72] (by decide +kernel) (by decide +kernel)
set_option maxRecDepth 20000 in
theorem gX8_heightAtBeat_X0_moveToBeat : GoodIn wsX8_heightAtBeat (wsV RX8 203 RX0 yX0_moveToBeat wsX0_moveToBeat) := goodIn_app (goodIn_of _ (by decide +kernel)) ggX8_heightAtBeat_X0_moveToBeat
set_option maxRecDepth 20000 in
theorem ggX8_heightAtBeat_X0_height : GoodIn wsX8_heightAtBeat wsX0_height := goodIn_r _ [33, 34, 35, 36, 37, 38, 39, 40, 41, 18, 42, 43, 44, 45, 8, 46, 10, 47, 48, 49, 50, 51, 52, 53, 54, 55, 56, 57, 58, 59, 73, 74, 75, 76, 77, 78, 79, 80, 81, 82, 83, 72] (by decide +kernel) (by decide +kernel)
set_option maxRecDepth 20000 in
theorem gX8_heightAtBeat_X0_height : GoodIn wsX8_heightAtBeat (wsV RX8 114 RX0 yX0_height wsX0_height) := goodIn_app (goodIn_of _ (by decide +kernel)) ggX8_heightAtBeat_X0_height
theorem dX8_heightAtBeat_0 : decode cX8_heightAtBeat 0 = .ok (.aload_n 0, 1) := by decide +kernel
theorem dX8_heightAtBeat_1 : decode cX8_heightAtBeat 1 = .ok (.getfield 61, 3) := by decide +kernel
theorem dX8_heightAtBeat_4 : decode cX8_heightAtBeat 4 = .ok (.aload_n 0, 1) := by decide +kernel
theorem dX8_heightAtBeat_5 : decode cX8_heightAtBeat 5 = .ok (.getfield 29, 3) := by decide +kernel
theorem dX8_heightAtBeat_8 : decode cX8_heightAtBeat 8 = .ok (.getfield 65, 3) := by decide +kernel
theorem dX8_heightAtBeat_11 : decode cX8_heightAtBeat 11 = .ok (.invokevirtual 318, 3) := by decide +kernel
theorem dX8_heightAtBeat_14 : decode cX8_heightAtBeat 14 = .ok (.aload_n 0, 1) := by decide +kernel
theorem dX8_heightAtBeat_15 : decode cX8_heightAtBeat 15 = .ok (.getfield 19, 3) := by decide +kernel
theorem dX8_heightAtBeat_18 : decode cX8_heightAtBeat 18 = .ok (.aload_n 0, 1) := by decide +kernel
theorem dX8_heightAtBeat_19 : decode cX8_heightAtBeat 19 = .ok (.getfield 61, 3) := by decide +kernel
theorem dX8_heightAtBeat_22 : decode cX8_heightAtBeat 22 = .ok (.iload_n 2, 1) := by decide +kernel
theorem dX8_heightAtBeat_23 : decode cX8_heightAtBeat 23 = .ok (.invokevirtual 203, 3) := by decide +kernel
theorem dX8_heightAtBeat_26 : decode cX8_heightAtBeat 26 = .ok (.aload_n 0, 1) := by decide +kernel
theorem dX8_heightAtBeat_27 : decode cX8_heightAtBeat 27 = .ok (.getfield 19, 3) := by decide +kernel
theorem dX8_heightAtBeat_30 : decode cX8_heightAtBeat 30 = .ok (.aload_n 0, 1) := by decide +kernel
theorem dX8_heightAtBeat_31 : decode cX8_heightAtBeat 31 = .ok (.getfield 61, 3) := by decide +kernel
theorem dX8_heightAtBeat_34 : decode cX8_heightAtBeat 34 = .ok (.iload_n 1, 1) := by decide +kernel
theorem dX8_heightAtBeat_35 : decode cX8_heightAtBeat 35 = .ok (.invokevirtual 114, 3) := by decide +kernel
theorem dX8_heightAtBeat_38 : decode cX8_heightAtBeat 38 = .ok (.ireturn, 1) := by decide +kernel
set_option maxRecDepth 20000 in
theorem ggX8_needed_X4_cut : GoodIn wsX8_needed wsX4_cut := goodIn_r _ [10, 11, 90] (by decide +kernel) (by decide +kernel)
set_option maxRecDepth 20000 in
theorem gX8_needed_X4_cut : GoodIn wsX8_needed (wsV RX8 180 RX4 yX4_cut wsX4_cut) := goodIn_app (goodIn_of _ (by decide +kernel)) ggX8_needed_X4_cut
set_option maxRecDepth 20000 in
theorem ggX8_needed_X4_copyFrom : GoodIn wsX8_needed wsX4_copyFrom := goodIn_r _ [15, 11, 16, 17, 18, 19, 90] (by decide +kernel) (by decide +kernel)
set_option maxRecDepth 20000 in
theorem gX8_needed_X4_copyFrom : GoodIn wsX8_needed (wsV RX8 318 RX4 yX4_copyFrom wsX4_copyFrom) := goodIn_app (goodIn_of _ (by decide +kernel)) ggX8_needed_X4_copyFrom
set_option maxRecDepth 20000 in
theorem ggX8_needed_J6_bitCount_0f7a4 : GoodIn wsX8_needed wsJ6_bitCount_0f7a4 := goodIn_r _ [23, 24, 25, 26] (by decide +kernel) (by decide +kernel)
set_option maxRecDepth 20000 in
theorem gX8_needed_J6_bitCount_0f7a4 : GoodIn wsX8_needed (va_wsS RX8 261 yJ6_bitCount_0f7a4 wsJ6_bitCount_0f7a4) := goodIn_app (goodIn_of _ (by decide +kernel)) ggX8_needed_J6_bitCount_0f7a4
set_option maxRecDepth 20000 in
theorem ggX8_needed_X4_setCut : GoodIn wsX8_needed wsX4_setCut := goodIn_r _ [30, 11, 90] (by decide +kernel) (by decide +kernel)
set_option maxRecDepth 20000 in
theorem gX8_needed_X4_setCut : GoodIn wsX8_needed (wsV RX8 183 RX4 yX4_setCut wsX4_setCut) := goodIn_app (goodIn_of _ (by decide +kernel)) ggX8_needed_X4_setCut
set_option maxRecDepth 20000 in
theorem ggX8_needed_X0_hangsAlike : GoodIn wsX8_needed wsX0_hangsAlike := goodIn_r _ [35, 36, 37, 38, 39, 34, 40, 41, 42, 43, 44, 45, 46, 47, 48, 49, 50, 51, 52, 9, 53, 11, 54, 55, 56, 57, 58, 59, 60, 61, 62, 63, 64, 65, 66, 76, 77, 78, 79, 80, 81, 82, 83, 84, 85, 86, 90] (by decide +kernel) (by decide +kernel)
set_option maxRecDepth 20000 in
theorem gX8_needed_X0_hangsAlike : GoodIn wsX8_needed (wsV RX8 320 RX0 yX0_hangsAlike wsX0_hangsAlike) := goodIn_app (goodIn_of _ (by decide +kernel)) ggX8_needed_X0_hangsAlike
theorem dX8_needed_0 : decode cX8_needed 0 = .ok (.iconst 1, 1) := by decide +kernel
theorem dX8_needed_1 : decode cX8_needed 1 = .ok (.aload_n 0, 1) := by decide +kernel
theorem dX8_needed_2 : decode cX8_needed 2 = .ok (.getfield 19, 3) := by decide +kernel
theorem dX8_needed_5 : decode cX8_needed 5 = .ok (.getfield 311, 3) := by decide +kernel
theorem dX8_needed_8 : decode cX8_needed 8 = .ok (.ishl, 1) := by decide +kernel
theorem dX8_needed_9 : decode cX8_needed 9 = .ok (.iconst 1, 1) := by decide +kernel
theorem dX8_needed_10 : decode cX8_needed 10 = .ok (.isub, 1) := by decide +kernel
theorem dX8_needed_11 : decode cX8_needed 11 = .ok (.istore_n 1, 1) := by decide +kernel
theorem dX8_needed_12 : decode cX8_needed 12 = .ok (.iload_n 1, 1) := by decide +kernel
theorem dX8_needed_13 : decode cX8_needed 13 = .ok (.aload_n 0, 1) := by decide +kernel
theorem dX8_needed_14 : decode cX8_needed 14 = .ok (.getfield 29, 3) := by decide +kernel
theorem dX8_needed_17 : decode cX8_needed 17 = .ok (.getfield 65, 3) := by decide +kernel
theorem dX8_needed_20 : decode cX8_needed 20 = .ok (.invokevirtual 180, 3) := by decide +kernel
theorem dX8_needed_23 : decode cX8_needed 23 = .ok (.iconst (-1), 1) := by decide +kernel
theorem dX8_needed_24 : decode cX8_needed 24 = .ok (.ixor, 1) := by decide +kernel
theorem dX8_needed_25 : decode cX8_needed 25 = .ok (.iand, 1) := by decide +kernel
theorem dX8_needed_26 : decode cX8_needed 26 = .ok (.istore_n 2, 1) := by decide +kernel
theorem dX8_needed_27 : decode cX8_needed 27 = .ok (.iload_n 2, 1) := by decide +kernel
theorem dX8_needed_28 : decode cX8_needed 28 = .ok (.istore_n 3, 1) := by decide +kernel
theorem dX8_needed_29 : decode cX8_needed 29 = .ok (.aload_n 0, 1) := by decide +kernel
theorem dX8_needed_30 : decode cX8_needed 30 = .ok (.getfield 61, 3) := by decide +kernel
theorem dX8_needed_33 : decode cX8_needed 33 = .ok (.aload_n 0, 1) := by decide +kernel
theorem dX8_needed_34 : decode cX8_needed 34 = .ok (.getfield 29, 3) := by decide +kernel
theorem dX8_needed_37 : decode cX8_needed 37 = .ok (.getfield 65, 3) := by decide +kernel
theorem dX8_needed_40 : decode cX8_needed 40 = .ok (.invokevirtual 318, 3) := by decide +kernel
theorem dX8_needed_43 : decode cX8_needed 43 = .ok (.iconst 0, 1) := by decide +kernel
theorem dX8_needed_44 : decode cX8_needed 44 = .ok (.istore 4, 2) := by decide +kernel
theorem dX8_needed_46 : decode cX8_needed 46 = .ok (.iload 4, 2) := by decide +kernel
theorem dX8_needed_48 : decode cX8_needed 48 = .ok (.iload_n 2, 1) := by decide +kernel
theorem dX8_needed_49 : decode cX8_needed 49 = .ok (.if_icmp .ge 79, 3) := by decide +kernel
theorem dX8_needed_52 : decode cX8_needed 52 = .ok (.iload 4, 2) := by decide +kernel
theorem dX8_needed_54 : decode cX8_needed 54 = .ok (.iload_n 2, 1) := by decide +kernel
theorem dX8_needed_55 : decode cX8_needed 55 = .ok (.iconst (-1), 1) := by decide +kernel
theorem dX8_needed_56 : decode cX8_needed 56 = .ok (.ixor, 1) := by decide +kernel
theorem dX8_needed_57 : decode cX8_needed 57 = .ok (.iand, 1) := by decide +kernel
theorem dX8_needed_58 : decode cX8_needed 58 = .ok (.ifCond .ne 7, 3) := by decide +kernel
theorem dX8_needed_61 : decode cX8_needed 61 = .ok (.iconst 1, 1) := by decide +kernel
theorem dX8_needed_62 : decode cX8_needed 62 = .ok (.goto 4, 3) := by decide +kernel
theorem dX8_needed_65 : decode cX8_needed 65 = .ok (.iconst 0, 1) := by decide +kernel
theorem dX8_needed_66 : decode cX8_needed 66 = .ok (.istore 5, 2) := by decide +kernel
theorem dX8_needed_68 : decode cX8_needed 68 = .ok (.iload 5, 2) := by decide +kernel
theorem dX8_needed_70 : decode cX8_needed 70 = .ok (.ifCond .eq 52, 3) := by decide +kernel
theorem dX8_needed_73 : decode cX8_needed 73 = .ok (.iload 4, 2) := by decide +kernel
theorem dX8_needed_75 : decode cX8_needed 75 = .ok (.invokestatic 261, 3) := by decide +kernel
theorem dX8_needed_78 : decode cX8_needed 78 = .ok (.iload_n 3, 1) := by decide +kernel
theorem dX8_needed_79 : decode cX8_needed 79 = .ok (.invokestatic 261, 3) := by decide +kernel
theorem dX8_needed_82 : decode cX8_needed 82 = .ok (.if_icmp .ge 40, 3) := by decide +kernel
theorem dX8_needed_85 : decode cX8_needed 85 = .ok (.aload_n 0, 1) := by decide +kernel
theorem dX8_needed_86 : decode cX8_needed 86 = .ok (.getfield 61, 3) := by decide +kernel
theorem dX8_needed_89 : decode cX8_needed 89 = .ok (.iload_n 1, 1) := by decide +kernel
theorem dX8_needed_90 : decode cX8_needed 90 = .ok (.iload 4, 2) := by decide +kernel
theorem dX8_needed_92 : decode cX8_needed 92 = .ok (.iconst (-1), 1) := by decide +kernel
theorem dX8_needed_93 : decode cX8_needed 93 = .ok (.ixor, 1) := by decide +kernel
theorem dX8_needed_94 : decode cX8_needed 94 = .ok (.iand, 1) := by decide +kernel
theorem dX8_needed_95 : decode cX8_needed 95 = .ok (.invokevirtual 183, 3) := by decide +kernel
theorem dX8_needed_98 : decode cX8_needed 98 = .ok (.aload_n 0, 1) := by decide +kernel
theorem dX8_needed_99 : decode cX8_needed 99 = .ok (.getfield 19, 3) := by decide +kernel
theorem dX8_needed_102 : decode cX8_needed 102 = .ok (.aload_n 0, 1) := by decide +kernel
theorem dX8_needed_103 : decode cX8_needed 103 = .ok (.getfield 29, 3) := by decide +kernel
theorem dX8_needed_106 : decode cX8_needed 106 = .ok (.getfield 65, 3) := by decide +kernel
theorem dX8_needed_109 : decode cX8_needed 109 = .ok (.aload_n 0, 1) := by decide +kernel
theorem dX8_needed_110 : decode cX8_needed 110 = .ok (.getfield 61, 3) := by decide +kernel
theorem dX8_needed_113 : decode cX8_needed 113 = .ok (.invokevirtual 320, 3) := by decide +kernel
theorem dX8_needed_116 : decode cX8_needed 116 = .ok (.ifCond .eq 6, 3) := by decide +kernel
theorem dX8_needed_119 : decode cX8_needed 119 = .ok (.iload 4, 2) := by decide +kernel
theorem dX8_needed_121 : decode cX8_needed 121 = .ok (.istore_n 3, 1) := by decide +kernel
theorem dX8_needed_122 : decode cX8_needed 122 = .ok (.iinc 4 1, 3) := by decide +kernel
theorem dX8_needed_125 : decode cX8_needed 125 = .ok (.goto (-79), 3) := by decide +kernel
theorem dX8_needed_128 : decode cX8_needed 128 = .ok (.iload_n 3, 1) := by decide +kernel
theorem dX8_needed_129 : decode cX8_needed 129 = .ok (.ireturn, 1) := by decide +kernel
set_option maxRecDepth 20000 in
theorem ggX8_nearestGrounding_X4_copyFrom : GoodIn wsX8_nearestGrounding wsX4_copyFrom := goodIn_r _ [13, 14, 15, 16, 17, 18, 82] (by decide +kernel) (by decide +kernel)
set_option maxRecDepth 20000 in
theorem gX8_nearestGrounding_X4_copyFrom : GoodIn wsX8_nearestGrounding (wsV RX8 318 RX4 yX4_copyFrom wsX4_copyFrom) := goodIn_app (goodIn_of _ (by decide +kernel)) ggX8_nearestGrounding_X4_copyFrom
set_option maxRecDepth 20000 in
theorem ggX8_nearestGrounding_X4_lift : GoodIn wsX8_nearestGrounding wsX4_lift := goodIn_r _ [22, 14, 82] (by decide +kernel) (by decide +kernel)
set_option maxRecDepth 20000 in
theorem gX8_nearestGrounding_X4_lift : GoodIn wsX8_nearestGrounding (wsV RX8 164 RX4 yX4_lift wsX4_lift) := goodIn_app (goodIn_of _ (by decide +kernel)) ggX8_nearestGrounding_X4_lift
set_option maxRecDepth 20000 in
theorem ggX8_nearestGrounding_X4_tilt : GoodIn wsX8_nearestGrounding wsX4_tilt := goodIn_r _ [26, 14, 82] (by decide +kernel) (by decide +kernel)
set_option maxRecDepth 20000 in
theorem gX8_nearestGrounding_X4_tilt : GoodIn wsX8_nearestGrounding (wsV RX8 174 RX4 yX4_tilt wsX4_tilt) := goodIn_app (goodIn_of _ (by decide +kernel)) ggX8_nearestGrounding_X4_tilt
set_option maxRecDepth 20000 in
theorem ggX8_nearestGrounding_X4_setLift : GoodIn wsX8_nearestGrounding wsX4_setLift := goodIn_r _ [30, 14, 82] (by decide +kernel) (by decide +kernel)
set_option maxRecDepth 20000 in
theorem gX8_nearestGrounding_X4_setLift : GoodIn wsX8_nearestGrounding (wsV RX8 170 RX4 yX4_setLift wsX4_setLift) := goodIn_app (goodIn_of _ (by decide +kernel)) ggX8_nearestGrounding_X4_setLift
set_option maxRecDepth 20000 in
theorem ggX8_nearestGrounding_X4_setTilt : GoodIn wsX8_nearestGrounding wsX4_setTilt := goodIn_r _ [34, 14, 82] (by decide +kernel) (by decide +kernel)
set_option maxRecDepth 20000 in
theorem gX8_nearestGrounding_X4_setTilt : GoodIn wsX8_nearestGrounding (wsV RX8 177 RX4 yX4_setTilt wsX4_setTilt) := goodIn_app (goodIn_of _ (by decide +kernel)) ggX8_nearestGrounding_X4_setTilt
set_option maxRecDepth 20000 in
theorem ggX8_nearestGrounding_X0_groundsJust : GoodIn wsX8_nearestGrounding wsX0_groundsJust := goodIn_r _ [39, 40, 41, 42, 43, 38, 44, 45, 46, 47, 6, 48, 49, 50, 51, 52, 53, 54, 55, 12, 56, 14, 57, 58, 59, 60, 61, 62, 63, 64, 65, 66, 67, 68, 69, 83, 84, 85, 86, 87, 88, 89, 90, 91, 92, 93, 82] (by decide +kernel) (by decide +kernel)
set_option maxRecDepth 20000 in
theorem gX8_nearestGrounding_X0_groundsJust : GoodIn wsX8_nearestGrounding (wsV RX8 329 RX0 yX0_groundsJust wsX0_groundsJust) := goodIn_app (goodIn_of _ (by decide +kernel)) ggX8_nearestGrounding_X0_groundsJust
theorem dX8_nearestGrounding_0 : decode cX8_nearestGrounding 0 = .ok (.bipush (-9), 2) := by decide +kernel
theorem dX8_nearestGrounding_2 : decode cX8_nearestGrounding 2 = .ok (.istore_n 2, 1) := by decide +kernel
theorem dX8_nearestGrounding_3 : decode cX8_nearestGrounding 3 = .ok (.aload_n 0, 1) := by decide +kernel
theorem dX8_nearestGrounding_4 : decode cX8_nearestGrounding 4 = .ok (.getfield 61, 3) := by decide +kernel
theorem dX8_nearestGrounding_7 : decode cX8_nearestGrounding 7 = .ok (.aload_n 0, 1) := by decide +kernel
theorem dX8_nearestGrounding_8 : decode cX8_nearestGrounding 8 = .ok (.getfield 29, 3) := by decide +kernel
theorem dX8_nearestGrounding_11 : decode cX8_nearestGrounding 11 = .ok (.getfield 65, 3) := by decide +kernel
theorem dX8_nearestGrounding_14 : decode cX8_nearestGrounding 14 = .ok (.invokevirtual 318, 3) := by decide +kernel
theorem dX8_nearestGrounding_17 : decode cX8_nearestGrounding 17 = .ok (.iconst 0, 1) := by decide +kernel
theorem dX8_nearestGrounding_18 : decode cX8_nearestGrounding 18 = .ok (.istore_n 3, 1) := by decide +kernel
theorem dX8_nearestGrounding_19 : decode cX8_nearestGrounding 19 = .ok (.iload_n 3, 1) := by decide +kernel
theorem dX8_nearestGrounding_20 : decode cX8_nearestGrounding 20 = .ok (.bipush 40, 2) := by decide +kernel
theorem dX8_nearestGrounding_22 : decode cX8_nearestGrounding 22 = .ok (.if_icmp .gt 127, 3) := by decide +kernel
theorem dX8_nearestGrounding_25 : decode cX8_nearestGrounding 25 = .ok (.bipush (-3), 2) := by decide +kernel
theorem dX8_nearestGrounding_27 : decode cX8_nearestGrounding 27 = .ok (.istore 4, 2) := by decide +kernel
theorem dX8_nearestGrounding_29 : decode cX8_nearestGrounding 29 = .ok (.iload 4, 2) := by decide +kernel
theorem dX8_nearestGrounding_31 : decode cX8_nearestGrounding 31 = .ok (.iconst 3, 1) := by decide +kernel
theorem dX8_nearestGrounding_32 : decode cX8_nearestGrounding 32 = .ok (.if_icmp .gt 111, 3) := by decide +kernel
theorem dX8_nearestGrounding_35 : decode cX8_nearestGrounding 35 = .ok (.iload_n 3, 1) := by decide +kernel
theorem dX8_nearestGrounding_36 : decode cX8_nearestGrounding 36 = .ok (.aload_n 0, 1) := by decide +kernel
