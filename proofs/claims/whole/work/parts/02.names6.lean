set_option maxRecDepth 20000 in
theorem ggX9_ties_X9_has : GoodIn wsX9_ties wsX9_has := goodIn_r _ [18] (by decide +kernel) (by decide +kernel)
set_option maxRecDepth 20000 in
theorem gX9_ties_X9_has : GoodIn wsX9_ties (va_wsS RX9 191 yX9_has wsX9_has) := goodIn_app (goodIn_of _ (by decide +kernel)) ggX9_ties_X9_has
set_option maxRecDepth 20000 in
theorem ggX9_ties_X9_remember : GoodIn wsX9_ties wsX9_remember := goodIn_r _ [22, 23, 24, 1, 25, 48, 49, 50, 51, 52, 53, 54, 55, 56, 57, 58, 59, 60, 61, 62, 63, 64, 65, 66, 67, 68, 69, 70, 71, 72, 73, 74, 75, 76, 77, 78, 79, 80, 81, 82, 83, 84, 85, 86, 87, 88, 89, 90] (by decide +kernel) (by decide +kernel)
set_option maxRecDepth 20000 in
theorem gX9_ties_X9_remember : GoodIn wsX9_ties (wsV RX9 228 RX9 yX9_remember wsX9_remember) := goodIn_app (goodIn_of _ (by decide +kernel)) ggX9_ties_X9_remember
set_option maxRecDepth 20000 in
theorem ggX9_ties_X9_ground : GoodIn wsX9_ties wsX9_ground := goodIn_r _ [29, 15, 30, 31, 32, 5, 33, 7, 16, 17, 18, 34, 35, 36, 37, 38, 39, 40, 41, 42, 43, 44, 48, 49, 50, 51, 52, 53, 54, 55, 56, 57, 58, 59, 60, 61, 62, 63, 64, 65, 66, 67, 68, 69, 70, 71, 72, 73, 74, 75, 76, 77, 78, 79, 80, 81, 82, 83, 84, 85, 86, 87, 88, 89, 90] (by decide +kernel) (by decide +kernel)
set_option maxRecDepth 20000 in
theorem gX9_ties_X9_ground : GoodIn wsX9_ties (wsV RX9 231 RX9 yX9_ground wsX9_ground) := goodIn_app (goodIn_of _ (by decide +kernel)) ggX9_ties_X9_ground
set_option maxRecDepth 20000 in
theorem ggX9_ties_X9_bits : GoodIn wsX9_ties wsX9_bits := goodIn_r _ [47] (by decide +kernel) (by decide +kernel)
set_option maxRecDepth 20000 in
theorem gX9_ties_X9_bits : GoodIn wsX9_ties (va_wsS RX9 235 yX9_bits wsX9_bits) := goodIn_app (goodIn_of _ (by decide +kernel)) ggX9_ties_X9_bits
theorem dX9_ties_0 : decode cX9_ties 0 = .ok (.aload_n 0, 1) := by decide +kernel
theorem dX9_ties_1 : decode cX9_ties 1 = .ok (.iload_n 1, 1) := by decide +kernel
theorem dX9_ties_2 : decode cX9_ties 2 = .ok (.invokevirtual 211, 3) := by decide +kernel
theorem dX9_ties_5 : decode cX9_ties 5 = .ok (.ifCond .eq 21, 3) := by decide +kernel
theorem dX9_ties_8 : decode cX9_ties 8 = .ok (.aload_n 0, 1) := by decide +kernel
theorem dX9_ties_9 : decode cX9_ties 9 = .ok (.iload_n 2, 1) := by decide +kernel
theorem dX9_ties_10 : decode cX9_ties 10 = .ok (.invokevirtual 208, 3) := by decide +kernel
theorem dX9_ties_13 : decode cX9_ties 13 = .ok (.ifCond .eq 13, 3) := by decide +kernel
theorem dX9_ties_16 : decode cX9_ties 16 = .ok (.iload_n 3, 1) := by decide +kernel
theorem dX9_ties_17 : decode cX9_ties 17 = .ok (.iconst 0, 1) := by decide +kernel
theorem dX9_ties_18 : decode cX9_ties 18 = .ok (.bipush 40, 2) := by decide +kernel
theorem dX9_ties_20 : decode cX9_ties 20 = .ok (.invokestatic 80, 3) := by decide +kernel
theorem dX9_ties_23 : decode cX9_ties 23 = .ok (.ifCond .ne 5, 3) := by decide +kernel
theorem dX9_ties_26 : decode cX9_ties 26 = .ok (.iconst (-1), 1) := by decide +kernel
theorem dX9_ties_27 : decode cX9_ties 27 = .ok (.ireturn, 1) := by decide +kernel
theorem dX9_ties_28 : decode cX9_ties 28 = .ok (.aload_n 0, 1) := by decide +kernel
theorem dX9_ties_29 : decode cX9_ties 29 = .ok (.getfield 46, 3) := by decide +kernel
theorem dX9_ties_32 : decode cX9_ties 32 = .ok (.iconst 2, 1) := by decide +kernel
theorem dX9_ties_33 : decode cX9_ties 33 = .ok (.iaload, 1) := by decide +kernel
theorem dX9_ties_34 : decode cX9_ties 34 = .ok (.iload_n 1, 1) := by decide +kernel
theorem dX9_ties_35 : decode cX9_ties 35 = .ok (.invokestatic 191, 3) := by decide +kernel
theorem dX9_ties_38 : decode cX9_ties 38 = .ok (.ifCond .ne 6, 3) := by decide +kernel
theorem dX9_ties_41 : decode cX9_ties 41 = .ok (.bipush (-2), 2) := by decide +kernel
theorem dX9_ties_43 : decode cX9_ties 43 = .ok (.ireturn, 1) := by decide +kernel
theorem dX9_ties_44 : decode cX9_ties 44 = .ok (.aload_n 0, 1) := by decide +kernel
theorem dX9_ties_45 : decode cX9_ties 45 = .ok (.invokevirtual 228, 3) := by decide +kernel
theorem dX9_ties_48 : decode cX9_ties 48 = .ok (.aload_n 0, 1) := by decide +kernel
theorem dX9_ties_49 : decode cX9_ties 49 = .ok (.getfield 46, 3) := by decide +kernel
theorem dX9_ties_52 : decode cX9_ties 52 = .ok (.iconst 2, 1) := by decide +kernel
theorem dX9_ties_53 : decode cX9_ties 53 = .ok (.dup2, 1) := by decide +kernel
theorem dX9_ties_54 : decode cX9_ties 54 = .ok (.iaload, 1) := by decide +kernel
theorem dX9_ties_55 : decode cX9_ties 55 = .ok (.iconst 1, 1) := by decide +kernel
theorem dX9_ties_56 : decode cX9_ties 56 = .ok (.iload_n 1, 1) := by decide +kernel
theorem dX9_ties_57 : decode cX9_ties 57 = .ok (.ishl, 1) := by decide +kernel
theorem dX9_ties_58 : decode cX9_ties 58 = .ok (.iconst (-1), 1) := by decide +kernel
theorem dX9_ties_59 : decode cX9_ties 59 = .ok (.ixor, 1) := by decide +kernel
theorem dX9_ties_60 : decode cX9_ties 60 = .ok (.iand, 1) := by decide +kernel
theorem dX9_ties_61 : decode cX9_ties 61 = .ok (.iastore, 1) := by decide +kernel
theorem dX9_ties_62 : decode cX9_ties 62 = .ok (.aload_n 0, 1) := by decide +kernel
theorem dX9_ties_63 : decode cX9_ties 63 = .ok (.getfield 46, 3) := by decide +kernel
theorem dX9_ties_66 : decode cX9_ties 66 = .ok (.iconst 3, 1) := by decide +kernel
theorem dX9_ties_67 : decode cX9_ties 67 = .ok (.iload_n 1, 1) := by decide +kernel
theorem dX9_ties_68 : decode cX9_ties 68 = .ok (.iadd, 1) := by decide +kernel
theorem dX9_ties_69 : decode cX9_ties 69 = .ok (.iload_n 2, 1) := by decide +kernel
theorem dX9_ties_70 : decode cX9_ties 70 = .ok (.iastore, 1) := by decide +kernel
theorem dX9_ties_71 : decode cX9_ties 71 = .ok (.aload_n 0, 1) := by decide +kernel
theorem dX9_ties_72 : decode cX9_ties 72 = .ok (.getfield 46, 3) := by decide +kernel
theorem dX9_ties_75 : decode cX9_ties 75 = .ok (.bipush 15, 2) := by decide +kernel
theorem dX9_ties_77 : decode cX9_ties 77 = .ok (.iload_n 1, 1) := by decide +kernel
theorem dX9_ties_78 : decode cX9_ties 78 = .ok (.iadd, 1) := by decide +kernel
theorem dX9_ties_79 : decode cX9_ties 79 = .ok (.iload_n 3, 1) := by decide +kernel
theorem dX9_ties_80 : decode cX9_ties 80 = .ok (.iastore, 1) := by decide +kernel
theorem dX9_ties_81 : decode cX9_ties 81 = .ok (.aload_n 0, 1) := by decide +kernel
theorem dX9_ties_82 : decode cX9_ties 82 = .ok (.aload_n 0, 1) := by decide +kernel
theorem dX9_ties_83 : decode cX9_ties 83 = .ok (.getfield 46, 3) := by decide +kernel
theorem dX9_ties_86 : decode cX9_ties 86 = .ok (.invokevirtual 231, 3) := by decide +kernel
theorem dX9_ties_89 : decode cX9_ties 89 = .ok (.invokestatic 235, 3) := by decide +kernel
theorem dX9_ties_92 : decode cX9_ties 92 = .ok (.ireturn, 1) := by decide +kernel
set_option maxRecDepth 20000 in
theorem ggX9_hangs_X9_isString : GoodIn wsX9_hangs wsX9_isString := goodIn_r _ [6, 7, 8, 9, 5, 10, 18, 19, 20, 21, 22, 23, 24, 25, 26, 27, 28, 29, 30, 31, 32, 33, 34, 35, 36, 37, 38, 39, 40, 41, 42, 43, 44, 45, 46, 47, 48, 49, 50, 51, 52, 53, 54, 55, 56, 57, 58, 59, 60] (by decide +kernel) (by decide +kernel)
set_option maxRecDepth 20000 in
theorem gX9_hangs_X9_isString : GoodIn wsX9_hangs (wsV RX9 211 RX9 yX9_isString wsX9_isString) := goodIn_app (goodIn_of _ (by decide +kernel)) ggX9_hangs_X9_isString
set_option maxRecDepth 20000 in
theorem ggX9_hangs_X9_in : GoodIn wsX9_hangs wsX9_in := goodIn_r _ [10] (by decide +kernel) (by decide +kernel)
set_option maxRecDepth 20000 in
theorem gX9_hangs_X9_in : GoodIn wsX9_hangs (va_wsS RX9 80 yX9_in wsX9_in) := goodIn_app (goodIn_of _ (by decide +kernel)) ggX9_hangs_X9_in
set_option maxRecDepth 20000 in
theorem ggX9_hangs_X9_remember : GoodIn wsX9_hangs wsX9_remember := goodIn_r _ [14, 15, 16, 1, 17, 18, 19, 20, 21, 22, 23, 24, 25, 26, 27, 28, 29, 30, 31, 32, 33, 34, 35, 36, 37, 38, 39, 40, 41, 42, 43, 44, 45, 46, 47, 48, 49, 50, 51, 52, 53, 54, 55, 56, 57, 58, 59, 60] (by decide +kernel) (by decide +kernel)
set_option maxRecDepth 20000 in
theorem gX9_hangs_X9_remember : GoodIn wsX9_hangs (wsV RX9 228 RX9 yX9_remember wsX9_remember) := goodIn_app (goodIn_of _ (by decide +kernel)) ggX9_hangs_X9_remember
theorem dX9_hangs_0 : decode cX9_hangs 0 = .ok (.aload_n 0, 1) := by decide +kernel
theorem dX9_hangs_1 : decode cX9_hangs 1 = .ok (.iload_n 1, 1) := by decide +kernel
theorem dX9_hangs_2 : decode cX9_hangs 2 = .ok (.invokevirtual 211, 3) := by decide +kernel
theorem dX9_hangs_5 : decode cX9_hangs 5 = .ok (.ifCond .eq 13, 3) := by decide +kernel
theorem dX9_hangs_8 : decode cX9_hangs 8 = .ok (.iload_n 2, 1) := by decide +kernel
theorem dX9_hangs_9 : decode cX9_hangs 9 = .ok (.iconst 0, 1) := by decide +kernel
theorem dX9_hangs_10 : decode cX9_hangs 10 = .ok (.bipush 6, 2) := by decide +kernel
theorem dX9_hangs_12 : decode cX9_hangs 12 = .ok (.invokestatic 80, 3) := by decide +kernel
theorem dX9_hangs_15 : decode cX9_hangs 15 = .ok (.ifCond .ne 5, 3) := by decide +kernel
theorem dX9_hangs_18 : decode cX9_hangs 18 = .ok (.iconst (-1), 1) := by decide +kernel
theorem dX9_hangs_19 : decode cX9_hangs 19 = .ok (.ireturn, 1) := by decide +kernel
theorem dX9_hangs_20 : decode cX9_hangs 20 = .ok (.aload_n 0, 1) := by decide +kernel
theorem dX9_hangs_21 : decode cX9_hangs 21 = .ok (.getfield 46, 3) := by decide +kernel
theorem dX9_hangs_24 : decode cX9_hangs 24 = .ok (.bipush 9, 2) := by decide +kernel
theorem dX9_hangs_26 : decode cX9_hangs 26 = .ok (.iload_n 1, 1) := by decide +kernel
theorem dX9_hangs_27 : decode cX9_hangs 27 = .ok (.iadd, 1) := by decide +kernel
theorem dX9_hangs_28 : decode cX9_hangs 28 = .ok (.iaload, 1) := by decide +kernel
theorem dX9_hangs_29 : decode cX9_hangs 29 = .ok (.istore_n 3, 1) := by decide +kernel
theorem dX9_hangs_30 : decode cX9_hangs 30 = .ok (.iload_n 3, 1) := by decide +kernel
theorem dX9_hangs_31 : decode cX9_hangs 31 = .ok (.iload_n 2, 1) := by decide +kernel
theorem dX9_hangs_32 : decode cX9_hangs 32 = .ok (.if_icmp .ne 6, 3) := by decide +kernel
theorem dX9_hangs_35 : decode cX9_hangs 35 = .ok (.bipush (-2), 2) := by decide +kernel
theorem dX9_hangs_37 : decode cX9_hangs 37 = .ok (.ireturn, 1) := by decide +kernel
theorem dX9_hangs_38 : decode cX9_hangs 38 = .ok (.aload_n 0, 1) := by decide +kernel
theorem dX9_hangs_39 : decode cX9_hangs 39 = .ok (.invokevirtual 228, 3) := by decide +kernel
theorem dX9_hangs_42 : decode cX9_hangs 42 = .ok (.aload_n 0, 1) := by decide +kernel
theorem dX9_hangs_43 : decode cX9_hangs 43 = .ok (.getfield 46, 3) := by decide +kernel
theorem dX9_hangs_46 : decode cX9_hangs 46 = .ok (.bipush 9, 2) := by decide +kernel
theorem dX9_hangs_48 : decode cX9_hangs 48 = .ok (.iload_n 1, 1) := by decide +kernel
theorem dX9_hangs_49 : decode cX9_hangs 49 = .ok (.iadd, 1) := by decide +kernel
theorem dX9_hangs_50 : decode cX9_hangs 50 = .ok (.iload_n 2, 1) := by decide +kernel
theorem dX9_hangs_51 : decode cX9_hangs 51 = .ok (.iastore, 1) := by decide +kernel
theorem dX9_hangs_52 : decode cX9_hangs 52 = .ok (.iload_n 3, 1) := by decide +kernel
theorem dX9_hangs_53 : decode cX9_hangs 53 = .ok (.ireturn, 1) := by decide +kernel
set_option maxRecDepth 20000 in
theorem ggX9_snapping_X9_has : GoodIn wsX9_snapping wsX9_has := goodIn_r _ [7] (by decide +kernel) (by decide +kernel)
set_option maxRecDepth 20000 in
theorem gX9_snapping_X9_has : GoodIn wsX9_snapping (va_wsS RX9 191 yX9_has wsX9_has) := goodIn_app (goodIn_of _ (by decide +kernel)) ggX9_snapping_X9_has
set_option maxRecDepth 20000 in
theorem ggX9_snapping_X9_load : GoodIn wsX9_snapping wsX9_load := goodIn_r _ [11, 12, 13, 14, 15, 16, 6, 17, 1, 18, 19, 20, 21, 4, 5, 7, 22, 23, 24, 25, 26, 27, 28, 29, 30, 31, 32, 33, 34, 35, 36, 37, 38, 39, 40, 41, 42, 43, 44, 45, 46, 47, 48, 49, 50, 51, 52, 53, 54, 55, 56, 57, 58, 59, 60, 61, 62, 63, 64, 65, 66, 67, 68, 69, 70, 71, 72] (by decide +kernel) (by decide +kernel)
set_option maxRecDepth 20000 in
theorem gX9_snapping_X9_load : GoodIn wsX9_snapping (wsV RX9 219 RX9 yX9_load wsX9_load) := goodIn_app (goodIn_of _ (by decide +kernel)) ggX9_snapping_X9_load
theorem dX9_snapping_0 : decode cX9_snapping 0 = .ok (.bipush (-9), 2) := by decide +kernel
theorem dX9_snapping_2 : decode cX9_snapping 2 = .ok (.istore_n 1, 1) := by decide +kernel
theorem dX9_snapping_3 : decode cX9_snapping 3 = .ok (.iconst 0, 1) := by decide +kernel
theorem dX9_snapping_4 : decode cX9_snapping 4 = .ok (.istore_n 2, 1) := by decide +kernel
theorem dX9_snapping_5 : decode cX9_snapping 5 = .ok (.iconst 0, 1) := by decide +kernel
theorem dX9_snapping_6 : decode cX9_snapping 6 = .ok (.istore_n 3, 1) := by decide +kernel
theorem dX9_snapping_7 : decode cX9_snapping 7 = .ok (.iload_n 3, 1) := by decide +kernel
theorem dX9_snapping_8 : decode cX9_snapping 8 = .ok (.aload_n 0, 1) := by decide +kernel
theorem dX9_snapping_9 : decode cX9_snapping 9 = .ok (.getfield 172, 3) := by decide +kernel
theorem dX9_snapping_12 : decode cX9_snapping 12 = .ok (.if_icmp .ge 69, 3) := by decide +kernel
theorem dX9_snapping_15 : decode cX9_snapping 15 = .ok (.aload_n 0, 1) := by decide +kernel
theorem dX9_snapping_16 : decode cX9_snapping 16 = .ok (.getfield 46, 3) := by decide +kernel
theorem dX9_snapping_19 : decode cX9_snapping 19 = .ok (.iconst 2, 1) := by decide +kernel
theorem dX9_snapping_20 : decode cX9_snapping 20 = .ok (.iaload, 1) := by decide +kernel
theorem dX9_snapping_21 : decode cX9_snapping 21 = .ok (.iload_n 3, 1) := by decide +kernel
theorem dX9_snapping_22 : decode cX9_snapping 22 = .ok (.invokestatic 191, 3) := by decide +kernel
theorem dX9_snapping_25 : decode cX9_snapping 25 = .ok (.ifCond .eq 7, 3) := by decide +kernel
theorem dX9_snapping_28 : decode cX9_snapping 28 = .ok (.iconst 0, 1) := by decide +kernel
theorem dX9_snapping_29 : decode cX9_snapping 29 = .ok (.goto 19, 3) := by decide +kernel
theorem dX9_snapping_32 : decode cX9_snapping 32 = .ok (.aload_n 0, 1) := by decide +kernel
theorem dX9_snapping_33 : decode cX9_snapping 33 = .ok (.aload_n 0, 1) := by decide +kernel
theorem dX9_snapping_34 : decode cX9_snapping 34 = .ok (.getfield 46, 3) := by decide +kernel
theorem dX9_snapping_37 : decode cX9_snapping 37 = .ok (.iload_n 3, 1) := by decide +kernel
theorem dX9_snapping_38 : decode cX9_snapping 38 = .ok (.invokevirtual 219, 3) := by decide +kernel
theorem dX9_snapping_41 : decode cX9_snapping 41 = .ok (.aload_n 0, 1) := by decide +kernel
theorem dX9_snapping_42 : decode cX9_snapping 42 = .ok (.getfield 34, 3) := by decide +kernel
theorem dX9_snapping_45 : decode cX9_snapping 45 = .ok (.iload_n 3, 1) := by decide +kernel
theorem dX9_snapping_46 : decode cX9_snapping 46 = .ok (.iaload, 1) := by decide +kernel
theorem dX9_snapping_47 : decode cX9_snapping 47 = .ok (.isub, 1) := by decide +kernel
theorem dX9_snapping_48 : decode cX9_snapping 48 = .ok (.istore 4, 2) := by decide +kernel
theorem dX9_snapping_50 : decode cX9_snapping 50 = .ok (.iload 4, 2) := by decide +kernel
theorem dX9_snapping_52 : decode cX9_snapping 52 = .ok (.iload_n 2, 1) := by decide +kernel
theorem dX9_snapping_53 : decode cX9_snapping 53 = .ok (.if_icmp .le 7, 3) := by decide +kernel
theorem dX9_snapping_56 : decode cX9_snapping 56 = .ok (.iload_n 3, 1) := by decide +kernel
theorem dX9_snapping_57 : decode cX9_snapping 57 = .ok (.goto 4, 3) := by decide +kernel
theorem dX9_snapping_60 : decode cX9_snapping 60 = .ok (.iload_n 1, 1) := by decide +kernel
theorem dX9_snapping_61 : decode cX9_snapping 61 = .ok (.istore_n 1, 1) := by decide +kernel
theorem dX9_snapping_62 : decode cX9_snapping 62 = .ok (.iload 4, 2) := by decide +kernel
theorem dX9_snapping_64 : decode cX9_snapping 64 = .ok (.iload_n 2, 1) := by decide +kernel
theorem dX9_snapping_65 : decode cX9_snapping 65 = .ok (.if_icmp .le 8, 3) := by decide +kernel
theorem dX9_snapping_68 : decode cX9_snapping 68 = .ok (.iload 4, 2) := by decide +kernel
theorem dX9_snapping_70 : decode cX9_snapping 70 = .ok (.goto 4, 3) := by decide +kernel
theorem dX9_snapping_73 : decode cX9_snapping 73 = .ok (.iload_n 2, 1) := by decide +kernel
theorem dX9_snapping_74 : decode cX9_snapping 74 = .ok (.istore_n 2, 1) := by decide +kernel
theorem dX9_snapping_75 : decode cX9_snapping 75 = .ok (.iinc 3 1, 3) := by decide +kernel
theorem dX9_snapping_78 : decode cX9_snapping 78 = .ok (.goto (-71), 3) := by decide +kernel
theorem dX9_snapping_81 : decode cX9_snapping 81 = .ok (.iload_n 1, 1) := by decide +kernel
theorem dX9_snapping_82 : decode cX9_snapping 82 = .ok (.ireturn, 1) := by decide +kernel
set_option maxRecDepth 20000 in
theorem ggX9_holds_X9_remember : GoodIn wsX9_holds wsX9_remember := goodIn_r _ [6, 7, 8, 1, 9, 41, 42, 43, 44, 45, 46, 47, 48, 49, 50, 51, 52, 53, 54, 55, 56, 57, 58, 59, 60, 61, 62, 63, 64, 65, 66, 67, 68, 69, 70, 71, 72, 73, 74, 75, 76, 77, 78, 79, 80, 81, 82, 83] (by decide +kernel) (by decide +kernel)
set_option maxRecDepth 20000 in
theorem gX9_holds_X9_remember : GoodIn wsX9_holds (wsV RX9 228 RX9 yX9_remember wsX9_remember) := goodIn_app (goodIn_of _ (by decide +kernel)) ggX9_holds_X9_remember
set_option maxRecDepth 20000 in
theorem ggX9_holds_X9_snapping : GoodIn wsX9_holds wsX9_snapping := goodIn_r _ [13, 14, 1, 15, 16, 17, 5, 18, 19, 20, 21, 22, 23, 24, 25, 26, 27, 28, 29, 30, 31, 32, 33, 34, 35, 36, 37, 38, 39, 40, 41, 42, 43, 44, 45, 46, 47, 48, 49, 50, 51, 52, 53, 54, 55, 56, 57, 58, 59, 60, 61, 62, 63, 64, 65, 66, 67, 68, 69, 70, 71, 72, 73, 74, 75, 76, 77, 78, 79, 80, 81, 82, 83] (by decide +kernel) (by decide +kernel)
set_option maxRecDepth 20000 in
theorem gX9_holds_X9_snapping : GoodIn wsX9_holds (wsV RX9 238 RX9 yX9_snapping wsX9_snapping) := goodIn_app (goodIn_of _ (by decide +kernel)) ggX9_holds_X9_snapping
theorem dX9_holds_0 : decode cX9_holds 0 = .ok (.aload_n 0, 1) := by decide +kernel
theorem dX9_holds_1 : decode cX9_holds 1 = .ok (.invokevirtual 228, 3) := by decide +kernel
theorem dX9_holds_4 : decode cX9_holds 4 = .ok (.iconst 0, 1) := by decide +kernel
theorem dX9_holds_5 : decode cX9_holds 5 = .ok (.istore_n 1, 1) := by decide +kernel
theorem dX9_holds_6 : decode cX9_holds 6 = .ok (.aload_n 0, 1) := by decide +kernel
theorem dX9_holds_7 : decode cX9_holds 7 = .ok (.invokevirtual 238, 3) := by decide +kernel
theorem dX9_holds_10 : decode cX9_holds 10 = .ok (.istore_n 2, 1) := by decide +kernel
theorem dX9_holds_11 : decode cX9_holds 11 = .ok (.iload_n 2, 1) := by decide +kernel
theorem dX9_holds_12 : decode cX9_holds 12 = .ok (.bipush (-9), 2) := by decide +kernel
theorem dX9_holds_14 : decode cX9_holds 14 = .ok (.if_icmp .eq 26, 3) := by decide +kernel
theorem dX9_holds_17 : decode cX9_holds 17 = .ok (.aload_n 0, 1) := by decide +kernel
theorem dX9_holds_18 : decode cX9_holds 18 = .ok (.getfield 46, 3) := by decide +kernel
theorem dX9_holds_21 : decode cX9_holds 21 = .ok (.iconst 2, 1) := by decide +kernel
theorem dX9_holds_22 : decode cX9_holds 22 = .ok (.dup2, 1) := by decide +kernel
theorem dX9_holds_23 : decode cX9_holds 23 = .ok (.iaload, 1) := by decide +kernel
theorem dX9_holds_24 : decode cX9_holds 24 = .ok (.iconst 1, 1) := by decide +kernel
theorem dX9_holds_25 : decode cX9_holds 25 = .ok (.iload_n 2, 1) := by decide +kernel
theorem dX9_holds_26 : decode cX9_holds 26 = .ok (.ishl, 1) := by decide +kernel
theorem dX9_holds_27 : decode cX9_holds 27 = .ok (.ior, 1) := by decide +kernel
theorem dX9_holds_28 : decode cX9_holds 28 = .ok (.iastore, 1) := by decide +kernel
theorem dX9_holds_29 : decode cX9_holds 29 = .ok (.iinc 1 1, 3) := by decide +kernel
theorem dX9_holds_32 : decode cX9_holds 32 = .ok (.aload_n 0, 1) := by decide +kernel
theorem dX9_holds_33 : decode cX9_holds 33 = .ok (.invokevirtual 238, 3) := by decide +kernel
theorem dX9_holds_36 : decode cX9_holds 36 = .ok (.istore_n 2, 1) := by decide +kernel
theorem dX9_holds_37 : decode cX9_holds 37 = .ok (.goto (-26), 3) := by decide +kernel
theorem dX9_holds_40 : decode cX9_holds 40 = .ok (.iload_n 1, 1) := by decide +kernel
theorem dX9_holds_41 : decode cX9_holds 41 = .ok (.ireturn, 1) := by decide +kernel
set_option maxRecDepth 20000 in
theorem ggX9_beats_X9_isBeat : GoodIn wsX9_beats wsX9_isBeat := goodIn_r _ [8, 9, 10, 11, 7, 12, 47, 48, 49, 50, 51, 52, 53, 54, 55, 56, 57, 58, 59, 60, 61, 62, 63, 64, 65, 66, 67, 68, 69, 70, 71, 72, 73, 74, 75, 76, 77, 78, 79, 80, 81, 82, 83, 84, 85, 86, 87, 88, 89] (by decide +kernel) (by decide +kernel)
set_option maxRecDepth 20000 in
theorem gX9_beats_X9_isBeat : GoodIn wsX9_beats (wsV RX9 222 RX9 yX9_isBeat wsX9_isBeat) := goodIn_app (goodIn_of _ (by decide +kernel)) ggX9_beats_X9_isBeat
set_option maxRecDepth 20000 in
theorem ggX9_beats_X9_remember : GoodIn wsX9_beats wsX9_remember := goodIn_r _ [16, 17, 18, 1, 19, 47, 48, 49, 50, 51, 52, 53, 54, 55, 56, 57, 58, 59, 60, 61, 62, 63, 64, 65, 66, 67, 68, 69, 70, 71, 72, 73, 74, 75, 76, 77, 78, 79, 80, 81, 82, 83, 84, 85, 86, 87, 88, 89] (by decide +kernel) (by decide +kernel)
set_option maxRecDepth 20000 in
theorem gX9_beats_X9_remember : GoodIn wsX9_beats (wsV RX9 228 RX9 yX9_remember wsX9_remember) := goodIn_app (goodIn_of _ (by decide +kernel)) ggX9_beats_X9_remember
set_option maxRecDepth 20000 in
theorem ggX9_beats_X9_ground : GoodIn wsX9_beats wsX9_ground := goodIn_r _ [23, 24, 25, 26, 27, 7, 28, 29, 30, 31, 32, 33, 34, 35, 36, 37, 38, 39, 40, 41, 42, 43, 47, 48, 49, 50, 51, 52, 53, 54, 55, 56, 57, 58, 59, 60, 61, 62, 63, 64, 65, 66, 67, 68, 69, 70, 71, 72, 73, 74, 75, 76, 77, 78, 79, 80, 81, 82, 83, 84, 85, 86, 87, 88, 89] (by decide +kernel) (by decide +kernel)
set_option maxRecDepth 20000 in
theorem gX9_beats_X9_ground : GoodIn wsX9_beats (wsV RX9 231 RX9 yX9_ground wsX9_ground) := goodIn_app (goodIn_of _ (by decide +kernel)) ggX9_beats_X9_ground
set_option maxRecDepth 20000 in
theorem ggX9_beats_X9_bits : GoodIn wsX9_beats wsX9_bits := goodIn_r _ [46] (by decide +kernel) (by decide +kernel)
set_option maxRecDepth 20000 in
theorem gX9_beats_X9_bits : GoodIn wsX9_beats (va_wsS RX9 235 yX9_bits wsX9_bits) := goodIn_app (goodIn_of _ (by decide +kernel)) ggX9_beats_X9_bits
theorem dX9_beats_0 : decode cX9_beats 0 = .ok (.aload_n 0, 1) := by decide +kernel
theorem dX9_beats_1 : decode cX9_beats 1 = .ok (.iload_n 1, 1) := by decide +kernel
theorem dX9_beats_2 : decode cX9_beats 2 = .ok (.invokevirtual 222, 3) := by decide +kernel
theorem dX9_beats_5 : decode cX9_beats 5 = .ok (.ifCond .ne 5, 3) := by decide +kernel
theorem dX9_beats_8 : decode cX9_beats 8 = .ok (.iconst (-1), 1) := by decide +kernel
theorem dX9_beats_9 : decode cX9_beats 9 = .ok (.ireturn, 1) := by decide +kernel
theorem dX9_beats_10 : decode cX9_beats 10 = .ok (.aload_n 0, 1) := by decide +kernel
theorem dX9_beats_11 : decode cX9_beats 11 = .ok (.invokevirtual 228, 3) := by decide +kernel
theorem dX9_beats_14 : decode cX9_beats 14 = .ok (.aload_n 0, 1) := by decide +kernel
theorem dX9_beats_15 : decode cX9_beats 15 = .ok (.getfield 46, 3) := by decide +kernel
theorem dX9_beats_18 : decode cX9_beats 18 = .ok (.iconst 0, 1) := by decide +kernel
theorem dX9_beats_19 : decode cX9_beats 19 = .ok (.aload_n 0, 1) := by decide +kernel
theorem dX9_beats_20 : decode cX9_beats 20 = .ok (.getfield 37, 3) := by decide +kernel
theorem dX9_beats_23 : decode cX9_beats 23 = .ok (.iload_n 1, 1) := by decide +kernel
theorem dX9_beats_24 : decode cX9_beats 24 = .ok (.iaload, 1) := by decide +kernel
theorem dX9_beats_25 : decode cX9_beats 25 = .ok (.iastore, 1) := by decide +kernel
theorem dX9_beats_26 : decode cX9_beats 26 = .ok (.aload_n 0, 1) := by decide +kernel
theorem dX9_beats_27 : decode cX9_beats 27 = .ok (.getfield 46, 3) := by decide +kernel
theorem dX9_beats_30 : decode cX9_beats 30 = .ok (.iconst 1, 1) := by decide +kernel
theorem dX9_beats_31 : decode cX9_beats 31 = .ok (.aload_n 0, 1) := by decide +kernel
theorem dX9_beats_32 : decode cX9_beats 32 = .ok (.getfield 40, 3) := by decide +kernel
theorem dX9_beats_35 : decode cX9_beats 35 = .ok (.iload_n 1, 1) := by decide +kernel
theorem dX9_beats_36 : decode cX9_beats 36 = .ok (.iaload, 1) := by decide +kernel
theorem dX9_beats_37 : decode cX9_beats 37 = .ok (.iastore, 1) := by decide +kernel
theorem dX9_beats_38 : decode cX9_beats 38 = .ok (.aload_n 0, 1) := by decide +kernel
theorem dX9_beats_39 : decode cX9_beats 39 = .ok (.aload_n 0, 1) := by decide +kernel
theorem dX9_beats_40 : decode cX9_beats 40 = .ok (.getfield 46, 3) := by decide +kernel
theorem dX9_beats_43 : decode cX9_beats 43 = .ok (.invokevirtual 231, 3) := by decide +kernel
theorem dX9_beats_46 : decode cX9_beats 46 = .ok (.invokestatic 235, 3) := by decide +kernel
theorem dX9_beats_49 : decode cX9_beats 49 = .ok (.ireturn, 1) := by decide +kernel
theorem dX9_undo_0 : decode cX9_undo 0 = .ok (.aload_n 0, 1) := by decide +kernel
theorem dX9_undo_1 : decode cX9_undo 1 = .ok (.getfield 181, 3) := by decide +kernel
theorem dX9_undo_4 : decode cX9_undo 4 = .ok (.ifCond .ne 6, 3) := by decide +kernel
theorem dX9_undo_7 : decode cX9_undo 7 = .ok (.bipush (-2), 2) := by decide +kernel
theorem dX9_undo_9 : decode cX9_undo 9 = .ok (.ireturn, 1) := by decide +kernel
theorem dX9_undo_10 : decode cX9_undo 10 = .ok (.aload_n 0, 1) := by decide +kernel
theorem dX9_undo_11 : decode cX9_undo 11 = .ok (.aload_n 0, 1) := by decide +kernel
theorem dX9_undo_12 : decode cX9_undo 12 = .ok (.getfield 225, 3) := by decide +kernel
theorem dX9_undo_15 : decode cX9_undo 15 = .ok (.bipush 10, 2) := by decide +kernel
theorem dX9_undo_17 : decode cX9_undo 17 = .ok (.iadd, 1) := by decide +kernel
theorem dX9_undo_18 : decode cX9_undo 18 = .ok (.iconst 1, 1) := by decide +kernel
theorem dX9_undo_19 : decode cX9_undo 19 = .ok (.isub, 1) := by decide +kernel
theorem dX9_undo_20 : decode cX9_undo 20 = .ok (.bipush 10, 2) := by decide +kernel
theorem dX9_undo_22 : decode cX9_undo 22 = .ok (.irem, 1) := by decide +kernel
theorem dX9_undo_23 : decode cX9_undo 23 = .ok (.putfield 225, 3) := by decide +kernel
theorem dX9_undo_26 : decode cX9_undo 26 = .ok (.aload_n 0, 1) := by decide +kernel
theorem dX9_undo_27 : decode cX9_undo 27 = .ok (.dup, 1) := by decide +kernel
theorem dX9_undo_28 : decode cX9_undo 28 = .ok (.getfield 181, 3) := by decide +kernel
theorem dX9_undo_31 : decode cX9_undo 31 = .ok (.iconst 1, 1) := by decide +kernel
theorem dX9_undo_32 : decode cX9_undo 32 = .ok (.isub, 1) := by decide +kernel
theorem dX9_undo_33 : decode cX9_undo 33 = .ok (.putfield 181, 3) := by decide +kernel
theorem dX9_undo_36 : decode cX9_undo 36 = .ok (.iconst 0, 1) := by decide +kernel
theorem dX9_undo_37 : decode cX9_undo 37 = .ok (.istore_n 1, 1) := by decide +kernel
theorem dX9_undo_38 : decode cX9_undo 38 = .ok (.iload_n 1, 1) := by decide +kernel
theorem dX9_undo_39 : decode cX9_undo 39 = .ok (.bipush 21, 2) := by decide +kernel
theorem dX9_undo_41 : decode cX9_undo 41 = .ok (.if_icmp .ge 29, 3) := by decide +kernel
theorem dX9_undo_44 : decode cX9_undo 44 = .ok (.aload_n 0, 1) := by decide +kernel
theorem dX9_undo_45 : decode cX9_undo 45 = .ok (.getfield 46, 3) := by decide +kernel
theorem dX9_undo_48 : decode cX9_undo 48 = .ok (.iload_n 1, 1) := by decide +kernel
theorem dX9_undo_49 : decode cX9_undo 49 = .ok (.aload_n 0, 1) := by decide +kernel
theorem dX9_undo_50 : decode cX9_undo 50 = .ok (.getfield 52, 3) := by decide +kernel
theorem dX9_undo_53 : decode cX9_undo 53 = .ok (.bipush 21, 2) := by decide +kernel
theorem dX9_undo_55 : decode cX9_undo 55 = .ok (.aload_n 0, 1) := by decide +kernel
theorem dX9_undo_56 : decode cX9_undo 56 = .ok (.getfield 225, 3) := by decide +kernel
theorem dX9_undo_59 : decode cX9_undo 59 = .ok (.imul, 1) := by decide +kernel
theorem dX9_undo_60 : decode cX9_undo 60 = .ok (.iload_n 1, 1) := by decide +kernel
theorem dX9_undo_61 : decode cX9_undo 61 = .ok (.iadd, 1) := by decide +kernel
theorem dX9_undo_62 : decode cX9_undo 62 = .ok (.iaload, 1) := by decide +kernel
theorem dX9_undo_63 : decode cX9_undo 63 = .ok (.iastore, 1) := by decide +kernel
theorem dX9_undo_64 : decode cX9_undo 64 = .ok (.iinc 1 1, 3) := by decide +kernel
theorem dX9_undo_67 : decode cX9_undo 67 = .ok (.goto (-29), 3) := by decide +kernel
theorem dX9_undo_70 : decode cX9_undo 70 = .ok (.aload_n 0, 1) := by decide +kernel
theorem dX9_undo_71 : decode cX9_undo 71 = .ok (.getfield 181, 3) := by decide +kernel
theorem dX9_undo_74 : decode cX9_undo 74 = .ok (.ireturn, 1) := by decide +kernel
set_option maxRecDepth 20000 in
theorem ggX9_taut_X9_isTaut : GoodIn wsX9_taut wsX9_isTaut := goodIn_r _ [7, 8, 9, 6, 10, 11, 12, 13, 14, 15, 16, 17, 1, 18, 19, 20, 21, 22, 23, 24, 25, 26, 27, 28, 29, 30, 31, 32, 33, 34, 35, 36, 37, 38, 39, 40, 41, 42, 43, 44, 45, 46, 47, 48, 49, 50, 51, 52, 53, 54, 55, 56, 57, 58, 59, 60, 61, 62, 63, 64, 65] (by decide +kernel) (by decide +kernel)
set_option maxRecDepth 20000 in
theorem gX9_taut_X9_isTaut : GoodIn wsX9_taut (wsV RX9 215 RX9 yX9_isTaut wsX9_isTaut) := goodIn_app (goodIn_of _ (by decide +kernel)) ggX9_taut_X9_isTaut
theorem dX9_taut_0 : decode cX9_taut 0 = .ok (.iconst 0, 1) := by decide +kernel
theorem dX9_taut_1 : decode cX9_taut 1 = .ok (.istore_n 1, 1) := by decide +kernel
theorem dX9_taut_2 : decode cX9_taut 2 = .ok (.iconst 0, 1) := by decide +kernel
theorem dX9_taut_3 : decode cX9_taut 3 = .ok (.istore_n 2, 1) := by decide +kernel
theorem dX9_taut_4 : decode cX9_taut 4 = .ok (.iload_n 2, 1) := by decide +kernel
theorem dX9_taut_5 : decode cX9_taut 5 = .ok (.aload_n 0, 1) := by decide +kernel
theorem dX9_taut_6 : decode cX9_taut 6 = .ok (.getfield 172, 3) := by decide +kernel
theorem dX9_taut_9 : decode cX9_taut 9 = .ok (.if_icmp .ge 31, 3) := by decide +kernel
theorem dX9_taut_12 : decode cX9_taut 12 = .ok (.iload_n 1, 1) := by decide +kernel
theorem dX9_taut_13 : decode cX9_taut 13 = .ok (.aload_n 0, 1) := by decide +kernel
theorem dX9_taut_14 : decode cX9_taut 14 = .ok (.aload_n 0, 1) := by decide +kernel
theorem dX9_taut_15 : decode cX9_taut 15 = .ok (.getfield 46, 3) := by decide +kernel
theorem dX9_taut_18 : decode cX9_taut 18 = .ok (.iload_n 2, 1) := by decide +kernel
theorem dX9_taut_19 : decode cX9_taut 19 = .ok (.invokevirtual 215, 3) := by decide +kernel
theorem dX9_taut_22 : decode cX9_taut 22 = .ok (.ifCond .eq 9, 3) := by decide +kernel
theorem dX9_taut_25 : decode cX9_taut 25 = .ok (.iconst 1, 1) := by decide +kernel
theorem dX9_taut_26 : decode cX9_taut 26 = .ok (.iload_n 2, 1) := by decide +kernel
theorem dX9_taut_27 : decode cX9_taut 27 = .ok (.ishl, 1) := by decide +kernel
theorem dX9_taut_28 : decode cX9_taut 28 = .ok (.goto 4, 3) := by decide +kernel
theorem dX9_taut_31 : decode cX9_taut 31 = .ok (.iconst 0, 1) := by decide +kernel
theorem dX9_taut_32 : decode cX9_taut 32 = .ok (.ior, 1) := by decide +kernel
theorem dX9_taut_33 : decode cX9_taut 33 = .ok (.istore_n 1, 1) := by decide +kernel
theorem dX9_taut_34 : decode cX9_taut 34 = .ok (.iinc 2 1, 3) := by decide +kernel
theorem dX9_taut_37 : decode cX9_taut 37 = .ok (.goto (-33), 3) := by decide +kernel
theorem dX9_taut_40 : decode cX9_taut 40 = .ok (.iload_n 1, 1) := by decide +kernel
theorem dX9_taut_41 : decode cX9_taut 41 = .ok (.ireturn, 1) := by decide +kernel
set_option maxRecDepth 20000 in
theorem ggX9_heights_X9_height : GoodIn wsX9_heights wsX9_height := goodIn_r _ [7, 8, 9, 10, 6, 11, 12, 13, 14, 15, 16, 17, 18, 19, 20, 21, 22, 23, 24, 25, 26, 27, 28, 29, 30, 31, 32, 33, 34, 35, 36, 37, 38, 39, 40, 41, 42, 43, 44, 45, 46, 47, 48, 49, 50, 51, 52, 53, 54, 55, 56, 57, 58, 59, 60, 61, 62] (by decide +kernel) (by decide +kernel)
set_option maxRecDepth 20000 in
theorem gX9_heights_X9_height : GoodIn wsX9_heights (wsV RX9 199 RX9 yX9_height wsX9_height) := goodIn_app (goodIn_of _ (by decide +kernel)) ggX9_heights_X9_height
theorem dX9_heights_0 : decode cX9_heights 0 = .ok (.iconst 0, 1) := by decide +kernel
theorem dX9_heights_1 : decode cX9_heights 1 = .ok (.istore_n 1, 1) := by decide +kernel
theorem dX9_heights_2 : decode cX9_heights 2 = .ok (.iconst 0, 1) := by decide +kernel
theorem dX9_heights_3 : decode cX9_heights 3 = .ok (.istore_n 2, 1) := by decide +kernel
theorem dX9_heights_4 : decode cX9_heights 4 = .ok (.iload_n 2, 1) := by decide +kernel
theorem dX9_heights_5 : decode cX9_heights 5 = .ok (.aload_n 0, 1) := by decide +kernel
theorem dX9_heights_6 : decode cX9_heights 6 = .ok (.getfield 169, 3) := by decide +kernel
theorem dX9_heights_9 : decode cX9_heights 9 = .ok (.if_icmp .ge 21, 3) := by decide +kernel
theorem dX9_heights_12 : decode cX9_heights 12 = .ok (.iload_n 1, 1) := by decide +kernel
theorem dX9_heights_13 : decode cX9_heights 13 = .ok (.aload_n 0, 1) := by decide +kernel
theorem dX9_heights_14 : decode cX9_heights 14 = .ok (.aload_n 0, 1) := by decide +kernel
theorem dX9_heights_15 : decode cX9_heights 15 = .ok (.getfield 46, 3) := by decide +kernel
theorem dX9_heights_18 : decode cX9_heights 18 = .ok (.iload_n 2, 1) := by decide +kernel
theorem dX9_heights_19 : decode cX9_heights 19 = .ok (.invokevirtual 199, 3) := by decide +kernel
theorem dX9_heights_22 : decode cX9_heights 22 = .ok (.iadd, 1) := by decide +kernel
theorem dX9_heights_23 : decode cX9_heights 23 = .ok (.istore_n 1, 1) := by decide +kernel
theorem dX9_heights_24 : decode cX9_heights 24 = .ok (.iinc 2 1, 3) := by decide +kernel
theorem dX9_heights_27 : decode cX9_heights 27 = .ok (.goto (-23), 3) := by decide +kernel
theorem dX9_heights_30 : decode cX9_heights 30 = .ok (.iload_n 1, 1) := by decide +kernel
theorem dX9_heights_31 : decode cX9_heights 31 = .ok (.ireturn, 1) := by decide +kernel
theorem dX9_allStrings_0 : decode cX9_allStrings 0 = .ok (.iconst 1, 1) := by decide +kernel
theorem dX9_allStrings_1 : decode cX9_allStrings 1 = .ok (.aload_n 0, 1) := by decide +kernel
theorem dX9_allStrings_2 : decode cX9_allStrings 2 = .ok (.getfield 172, 3) := by decide +kernel
theorem dX9_allStrings_5 : decode cX9_allStrings 5 = .ok (.ishl, 1) := by decide +kernel
theorem dX9_allStrings_6 : decode cX9_allStrings 6 = .ok (.iconst 1, 1) := by decide +kernel
theorem dX9_allStrings_7 : decode cX9_allStrings 7 = .ok (.isub, 1) := by decide +kernel
theorem dX9_allStrings_8 : decode cX9_allStrings 8 = .ok (.ireturn, 1) := by decide +kernel
set_option maxRecDepth 20000 in
theorem ggX9_isAsHigh_X9_height : GoodIn wsX9_isAsHigh wsX9_height := goodIn_r _ [8, 9, 10, 11, 7, 12, 13, 14, 15, 16, 17, 18, 19, 20, 21, 22, 23, 24, 25, 26, 27, 28, 29, 30, 31, 32, 33, 34, 35, 36, 37, 38, 39, 40, 41, 42, 43, 44, 45, 46, 47, 48, 49, 50, 51, 52, 53, 54, 55, 56, 57, 58, 59, 60, 61, 62, 63] (by decide +kernel) (by decide +kernel)
set_option maxRecDepth 20000 in
theorem gX9_isAsHigh_X9_height : GoodIn wsX9_isAsHigh (wsV RX9 199 RX9 yX9_height wsX9_height) := goodIn_app (goodIn_of _ (by decide +kernel)) ggX9_isAsHigh_X9_height
theorem dX9_isAsHigh_0 : decode cX9_isAsHigh 0 = .ok (.iconst 1, 1) := by decide +kernel
theorem dX9_isAsHigh_1 : decode cX9_isAsHigh 1 = .ok (.istore_n 1, 1) := by decide +kernel
theorem dX9_isAsHigh_2 : decode cX9_isAsHigh 2 = .ok (.iconst 0, 1) := by decide +kernel
theorem dX9_isAsHigh_3 : decode cX9_isAsHigh 3 = .ok (.istore_n 2, 1) := by decide +kernel
theorem dX9_isAsHigh_4 : decode cX9_isAsHigh 4 = .ok (.iload_n 2, 1) := by decide +kernel
theorem dX9_isAsHigh_5 : decode cX9_isAsHigh 5 = .ok (.aload_n 0, 1) := by decide +kernel
theorem dX9_isAsHigh_6 : decode cX9_isAsHigh 6 = .ok (.getfield 169, 3) := by decide +kernel
theorem dX9_isAsHigh_9 : decode cX9_isAsHigh 9 = .ok (.if_icmp .ge 40, 3) := by decide +kernel
theorem dX9_isAsHigh_12 : decode cX9_isAsHigh 12 = .ok (.iload_n 1, 1) := by decide +kernel
theorem dX9_isAsHigh_13 : decode cX9_isAsHigh 13 = .ok (.ifCond .eq 28, 3) := by decide +kernel
theorem dX9_isAsHigh_16 : decode cX9_isAsHigh 16 = .ok (.aload_n 0, 1) := by decide +kernel
theorem dX9_isAsHigh_17 : decode cX9_isAsHigh 17 = .ok (.aload_n 0, 1) := by decide +kernel
theorem dX9_isAsHigh_18 : decode cX9_isAsHigh 18 = .ok (.getfield 49, 3) := by decide +kernel
theorem dX9_isAsHigh_21 : decode cX9_isAsHigh 21 = .ok (.iload_n 2, 1) := by decide +kernel
theorem dX9_isAsHigh_22 : decode cX9_isAsHigh 22 = .ok (.invokevirtual 199, 3) := by decide +kernel
theorem dX9_isAsHigh_25 : decode cX9_isAsHigh 25 = .ok (.aload_n 0, 1) := by decide +kernel
theorem dX9_isAsHigh_26 : decode cX9_isAsHigh 26 = .ok (.aload_n 0, 1) := by decide +kernel
theorem dX9_isAsHigh_27 : decode cX9_isAsHigh 27 = .ok (.getfield 46, 3) := by decide +kernel
theorem dX9_isAsHigh_30 : decode cX9_isAsHigh 30 = .ok (.iload_n 2, 1) := by decide +kernel
theorem dX9_isAsHigh_31 : decode cX9_isAsHigh 31 = .ok (.invokevirtual 199, 3) := by decide +kernel
theorem dX9_isAsHigh_34 : decode cX9_isAsHigh 34 = .ok (.if_icmp .ne 7, 3) := by decide +kernel
theorem dX9_isAsHigh_37 : decode cX9_isAsHigh 37 = .ok (.iconst 1, 1) := by decide +kernel
theorem dX9_isAsHigh_38 : decode cX9_isAsHigh 38 = .ok (.goto 4, 3) := by decide +kernel
theorem dX9_isAsHigh_41 : decode cX9_isAsHigh 41 = .ok (.iconst 0, 1) := by decide +kernel
theorem dX9_isAsHigh_42 : decode cX9_isAsHigh 42 = .ok (.istore_n 1, 1) := by decide +kernel
theorem dX9_isAsHigh_43 : decode cX9_isAsHigh 43 = .ok (.iinc 2 1, 3) := by decide +kernel
theorem dX9_isAsHigh_46 : decode cX9_isAsHigh 46 = .ok (.goto (-42), 3) := by decide +kernel
theorem dX9_isAsHigh_49 : decode cX9_isAsHigh 49 = .ok (.iload_n 1, 1) := by decide +kernel
theorem dX9_isAsHigh_50 : decode cX9_isAsHigh 50 = .ok (.ireturn, 1) := by decide +kernel
set_option maxRecDepth 20000 in
theorem ggX9_need_X9_allStrings : GoodIn wsX9_need wsX9_allStrings := goodIn_r _ [7, 8, 36, 37, 38, 39, 40, 41, 42, 43, 44, 45, 46, 47, 48, 49, 50, 51, 52, 53, 54, 55, 56, 57, 58, 59, 60, 61, 62, 63, 64, 65, 66, 67, 68, 69, 70, 71, 72, 73, 74, 75, 76, 77, 78] (by decide +kernel) (by decide +kernel)
set_option maxRecDepth 20000 in
theorem gX9_need_X9_allStrings : GoodIn wsX9_need (wsV RX9 241 RX9 yX9_allStrings wsX9_allStrings) := goodIn_app (goodIn_of _ (by decide +kernel)) ggX9_need_X9_allStrings
set_option maxRecDepth 20000 in
theorem ggX9_need_X9_copyNow : GoodIn wsX9_need wsX9_copyNow := goodIn_r _ [12, 2, 1, 36, 37, 38, 39, 40, 41, 42, 43, 44, 45, 46, 47, 48, 49, 50, 51, 52, 53, 54, 55, 56, 57, 58, 59, 60, 61, 62, 63, 64, 65, 66, 67, 68, 69, 70, 71, 72, 73, 74, 75, 76, 77, 78] (by decide +kernel) (by decide +kernel)
set_option maxRecDepth 20000 in
theorem gX9_need_X9_copyNow : GoodIn wsX9_need (wsV RX9 244 RX9 yX9_copyNow wsX9_copyNow) := goodIn_app (goodIn_of _ (by decide +kernel)) ggX9_need_X9_copyNow
set_option maxRecDepth 20000 in
theorem ggX9_need_X9_bits : GoodIn wsX9_need wsX9_bits := goodIn_r _ [15] (by decide +kernel) (by decide +kernel)
set_option maxRecDepth 20000 in
theorem gX9_need_X9_bits : GoodIn wsX9_need (va_wsS RX9 235 yX9_bits wsX9_bits) := goodIn_app (goodIn_of _ (by decide +kernel)) ggX9_need_X9_bits
set_option maxRecDepth 20000 in
theorem ggX9_need_X9_isAsHigh : GoodIn wsX9_need wsX9_isAsHigh := goodIn_r _ [19, 20, 2, 1, 21, 22, 23, 6, 24, 8, 25, 26, 27, 28, 29, 30, 31, 32, 33, 34, 35, 36, 37, 38, 39, 40, 41, 42, 43, 44, 45, 46, 47, 48, 49, 50, 51, 52, 53, 54, 55, 56, 57, 58, 59, 60, 61, 62, 63, 64, 65, 66, 67, 68, 69, 70, 71, 72, 73, 74, 75, 76, 77, 78] (by decide +kernel) (by decide +kernel)
set_option maxRecDepth 20000 in
theorem gX9_need_X9_isAsHigh : GoodIn wsX9_need (wsV RX9 247 RX9 yX9_isAsHigh wsX9_isAsHigh) := goodIn_app (goodIn_of _ (by decide +kernel)) ggX9_need_X9_isAsHigh
theorem dX9_need_0 : decode cX9_need 0 = .ok (.aload_n 0, 1) := by decide +kernel
theorem dX9_need_1 : decode cX9_need 1 = .ok (.invokevirtual 241, 3) := by decide +kernel
theorem dX9_need_4 : decode cX9_need 4 = .ok (.aload_n 0, 1) := by decide +kernel
theorem dX9_need_5 : decode cX9_need 5 = .ok (.getfield 46, 3) := by decide +kernel
theorem dX9_need_8 : decode cX9_need 8 = .ok (.iconst 2, 1) := by decide +kernel
theorem dX9_need_9 : decode cX9_need 9 = .ok (.iaload, 1) := by decide +kernel
theorem dX9_need_10 : decode cX9_need 10 = .ok (.iconst (-1), 1) := by decide +kernel
theorem dX9_need_11 : decode cX9_need 11 = .ok (.ixor, 1) := by decide +kernel
theorem dX9_need_12 : decode cX9_need 12 = .ok (.iand, 1) := by decide +kernel
theorem dX9_need_13 : decode cX9_need 13 = .ok (.istore_n 1, 1) := by decide +kernel
theorem dX9_need_14 : decode cX9_need 14 = .ok (.iload_n 1, 1) := by decide +kernel
theorem dX9_need_15 : decode cX9_need 15 = .ok (.istore_n 2, 1) := by decide +kernel
theorem dX9_need_16 : decode cX9_need 16 = .ok (.aload_n 0, 1) := by decide +kernel
theorem dX9_need_17 : decode cX9_need 17 = .ok (.invokevirtual 244, 3) := by decide +kernel
theorem dX9_need_20 : decode cX9_need 20 = .ok (.iload_n 1, 1) := by decide +kernel
theorem dX9_need_21 : decode cX9_need 21 = .ok (.istore_n 3, 1) := by decide +kernel
theorem dX9_need_22 : decode cX9_need 22 = .ok (.iload_n 3, 1) := by decide +kernel
theorem dX9_need_23 : decode cX9_need 23 = .ok (.ifCond .lt 55, 3) := by decide +kernel
theorem dX9_need_26 : decode cX9_need 26 = .ok (.aload_n 0, 1) := by decide +kernel
theorem dX9_need_27 : decode cX9_need 27 = .ok (.getfield 49, 3) := by decide +kernel
theorem dX9_need_30 : decode cX9_need 30 = .ok (.iconst 2, 1) := by decide +kernel
theorem dX9_need_31 : decode cX9_need 31 = .ok (.aload_n 0, 1) := by decide +kernel
theorem dX9_need_32 : decode cX9_need 32 = .ok (.invokevirtual 241, 3) := by decide +kernel
theorem dX9_need_35 : decode cX9_need 35 = .ok (.iload_n 3, 1) := by decide +kernel
theorem dX9_need_36 : decode cX9_need 36 = .ok (.iconst (-1), 1) := by decide +kernel
theorem dX9_need_37 : decode cX9_need 37 = .ok (.ixor, 1) := by decide +kernel
theorem dX9_need_38 : decode cX9_need 38 = .ok (.iand, 1) := by decide +kernel
theorem dX9_need_39 : decode cX9_need 39 = .ok (.iastore, 1) := by decide +kernel
theorem dX9_need_40 : decode cX9_need 40 = .ok (.iload_n 3, 1) := by decide +kernel
theorem dX9_need_41 : decode cX9_need 41 = .ok (.iload_n 1, 1) := by decide +kernel
theorem dX9_need_42 : decode cX9_need 42 = .ok (.iconst (-1), 1) := by decide +kernel
theorem dX9_need_43 : decode cX9_need 43 = .ok (.ixor, 1) := by decide +kernel
theorem dX9_need_44 : decode cX9_need 44 = .ok (.iand, 1) := by decide +kernel
theorem dX9_need_45 : decode cX9_need 45 = .ok (.ifCond .ne 25, 3) := by decide +kernel
theorem dX9_need_48 : decode cX9_need 48 = .ok (.iload_n 3, 1) := by decide +kernel
theorem dX9_need_49 : decode cX9_need 49 = .ok (.invokestatic 235, 3) := by decide +kernel
theorem dX9_need_52 : decode cX9_need 52 = .ok (.iload_n 2, 1) := by decide +kernel
theorem dX9_need_53 : decode cX9_need 53 = .ok (.invokestatic 235, 3) := by decide +kernel
theorem dX9_need_56 : decode cX9_need 56 = .ok (.if_icmp .gt 14, 3) := by decide +kernel
theorem dX9_need_59 : decode cX9_need 59 = .ok (.aload_n 0, 1) := by decide +kernel
theorem dX9_need_60 : decode cX9_need 60 = .ok (.invokevirtual 247, 3) := by decide +kernel
theorem dX9_need_63 : decode cX9_need 63 = .ok (.ifCond .eq 7, 3) := by decide +kernel
theorem dX9_need_66 : decode cX9_need 66 = .ok (.iload_n 3, 1) := by decide +kernel
theorem dX9_need_67 : decode cX9_need 67 = .ok (.goto 4, 3) := by decide +kernel
theorem dX9_need_70 : decode cX9_need 70 = .ok (.iload_n 2, 1) := by decide +kernel
theorem dX9_need_71 : decode cX9_need 71 = .ok (.istore_n 2, 1) := by decide +kernel
theorem dX9_need_72 : decode cX9_need 72 = .ok (.iinc 3 (-1), 3) := by decide +kernel
theorem dX9_need_75 : decode cX9_need 75 = .ok (.goto (-53), 3) := by decide +kernel
theorem dX9_need_78 : decode cX9_need 78 = .ok (.iload_n 2, 1) := by decide +kernel
theorem dX9_need_79 : decode cX9_need 79 = .ok (.ireturn, 1) := by decide +kernel
set_option maxRecDepth 20000 in
theorem ggX9_crossed_X9_has : GoodIn wsX9_crossed wsX9_has := goodIn_r _ [6] (by decide +kernel) (by decide +kernel)
set_option maxRecDepth 20000 in
theorem gX9_crossed_X9_has : GoodIn wsX9_crossed (va_wsS RX9 191 yX9_has wsX9_has) := goodIn_app (goodIn_of _ (by decide +kernel)) ggX9_crossed_X9_has
theorem dX9_crossed_0 : decode cX9_crossed 0 = .ok (.iconst 0, 1) := by decide +kernel
theorem dX9_crossed_1 : decode cX9_crossed 1 = .ok (.istore_n 1, 1) := by decide +kernel
theorem dX9_crossed_2 : decode cX9_crossed 2 = .ok (.iconst 0, 1) := by decide +kernel
theorem dX9_crossed_3 : decode cX9_crossed 3 = .ok (.istore_n 2, 1) := by decide +kernel
theorem dX9_crossed_4 : decode cX9_crossed 4 = .ok (.iload_n 2, 1) := by decide +kernel
theorem dX9_crossed_5 : decode cX9_crossed 5 = .ok (.aload_n 0, 1) := by decide +kernel
theorem dX9_crossed_6 : decode cX9_crossed 6 = .ok (.getfield 172, 3) := by decide +kernel
theorem dX9_crossed_9 : decode cX9_crossed 9 = .ok (.if_icmp .ge 111, 3) := by decide +kernel
theorem dX9_crossed_12 : decode cX9_crossed 12 = .ok (.iconst 0, 1) := by decide +kernel
theorem dX9_crossed_13 : decode cX9_crossed 13 = .ok (.istore_n 3, 1) := by decide +kernel
theorem dX9_crossed_14 : decode cX9_crossed 14 = .ok (.iload_n 3, 1) := by decide +kernel
theorem dX9_crossed_15 : decode cX9_crossed 15 = .ok (.aload_n 0, 1) := by decide +kernel
theorem dX9_crossed_16 : decode cX9_crossed 16 = .ok (.getfield 172, 3) := by decide +kernel
theorem dX9_crossed_19 : decode cX9_crossed 19 = .ok (.if_icmp .ge 95, 3) := by decide +kernel
theorem dX9_crossed_22 : decode cX9_crossed 22 = .ok (.aload_n 0, 1) := by decide +kernel
theorem dX9_crossed_23 : decode cX9_crossed 23 = .ok (.getfield 46, 3) := by decide +kernel
theorem dX9_crossed_26 : decode cX9_crossed 26 = .ok (.iconst 2, 1) := by decide +kernel
theorem dX9_crossed_27 : decode cX9_crossed 27 = .ok (.iaload, 1) := by decide +kernel
theorem dX9_crossed_28 : decode cX9_crossed 28 = .ok (.iload_n 2, 1) := by decide +kernel
theorem dX9_crossed_29 : decode cX9_crossed 29 = .ok (.invokestatic 191, 3) := by decide +kernel
theorem dX9_crossed_32 : decode cX9_crossed 32 = .ok (.ifCond .ne 20, 3) := by decide +kernel
theorem dX9_crossed_35 : decode cX9_crossed 35 = .ok (.aload_n 0, 1) := by decide +kernel
theorem dX9_crossed_36 : decode cX9_crossed 36 = .ok (.getfield 46, 3) := by decide +kernel
theorem dX9_crossed_39 : decode cX9_crossed 39 = .ok (.iconst 2, 1) := by decide +kernel
theorem dX9_crossed_40 : decode cX9_crossed 40 = .ok (.iaload, 1) := by decide +kernel
theorem dX9_crossed_41 : decode cX9_crossed 41 = .ok (.iload_n 3, 1) := by decide +kernel
theorem dX9_crossed_42 : decode cX9_crossed 42 = .ok (.invokestatic 191, 3) := by decide +kernel
theorem dX9_crossed_45 : decode cX9_crossed 45 = .ok (.ifCond .ne 7, 3) := by decide +kernel
theorem dX9_crossed_48 : decode cX9_crossed 48 = .ok (.iconst 1, 1) := by decide +kernel
theorem dX9_crossed_49 : decode cX9_crossed 49 = .ok (.goto 4, 3) := by decide +kernel
theorem dX9_crossed_52 : decode cX9_crossed 52 = .ok (.iconst 0, 1) := by decide +kernel
theorem dX9_crossed_53 : decode cX9_crossed 53 = .ok (.istore 4, 2) := by decide +kernel
theorem dX9_crossed_55 : decode cX9_crossed 55 = .ok (.iload_n 1, 1) := by decide +kernel
theorem dX9_crossed_56 : decode cX9_crossed 56 = .ok (.iload 4, 2) := by decide +kernel
theorem dX9_crossed_58 : decode cX9_crossed 58 = .ok (.ifCond .eq 47, 3) := by decide +kernel
theorem dX9_crossed_61 : decode cX9_crossed 61 = .ok (.aload_n 0, 1) := by decide +kernel
theorem dX9_crossed_62 : decode cX9_crossed 62 = .ok (.getfield 46, 3) := by decide +kernel
theorem dX9_crossed_65 : decode cX9_crossed 65 = .ok (.bipush 9, 2) := by decide +kernel
theorem dX9_crossed_67 : decode cX9_crossed 67 = .ok (.iload_n 2, 1) := by decide +kernel
theorem dX9_crossed_68 : decode cX9_crossed 68 = .ok (.iadd, 1) := by decide +kernel
theorem dX9_crossed_69 : decode cX9_crossed 69 = .ok (.iaload, 1) := by decide +kernel
theorem dX9_crossed_70 : decode cX9_crossed 70 = .ok (.aload_n 0, 1) := by decide +kernel
theorem dX9_crossed_71 : decode cX9_crossed 71 = .ok (.getfield 46, 3) := by decide +kernel
theorem dX9_crossed_74 : decode cX9_crossed 74 = .ok (.bipush 9, 2) := by decide +kernel
theorem dX9_crossed_76 : decode cX9_crossed 76 = .ok (.iload_n 3, 1) := by decide +kernel
theorem dX9_crossed_77 : decode cX9_crossed 77 = .ok (.iadd, 1) := by decide +kernel
theorem dX9_crossed_78 : decode cX9_crossed 78 = .ok (.iaload, 1) := by decide +kernel
theorem dX9_crossed_79 : decode cX9_crossed 79 = .ok (.if_icmp .ge 26, 3) := by decide +kernel
theorem dX9_crossed_82 : decode cX9_crossed 82 = .ok (.aload_n 0, 1) := by decide +kernel
theorem dX9_crossed_83 : decode cX9_crossed 83 = .ok (.getfield 46, 3) := by decide +kernel
theorem dX9_crossed_86 : decode cX9_crossed 86 = .ok (.iconst 3, 1) := by decide +kernel
theorem dX9_crossed_87 : decode cX9_crossed 87 = .ok (.iload_n 2, 1) := by decide +kernel
theorem dX9_crossed_88 : decode cX9_crossed 88 = .ok (.iadd, 1) := by decide +kernel
theorem dX9_crossed_89 : decode cX9_crossed 89 = .ok (.iaload, 1) := by decide +kernel
theorem dX9_crossed_90 : decode cX9_crossed 90 = .ok (.aload_n 0, 1) := by decide +kernel
theorem dX9_crossed_91 : decode cX9_crossed 91 = .ok (.getfield 46, 3) := by decide +kernel
theorem dX9_crossed_94 : decode cX9_crossed 94 = .ok (.iconst 3, 1) := by decide +kernel
theorem dX9_crossed_95 : decode cX9_crossed 95 = .ok (.iload_n 3, 1) := by decide +kernel
theorem dX9_crossed_96 : decode cX9_crossed 96 = .ok (.iadd, 1) := by decide +kernel
theorem dX9_crossed_97 : decode cX9_crossed 97 = .ok (.iaload, 1) := by decide +kernel
theorem dX9_crossed_98 : decode cX9_crossed 98 = .ok (.if_icmp .le 7, 3) := by decide +kernel
theorem dX9_crossed_101 : decode cX9_crossed 101 = .ok (.iconst 1, 1) := by decide +kernel
theorem dX9_crossed_102 : decode cX9_crossed 102 = .ok (.goto 4, 3) := by decide +kernel
theorem dX9_crossed_105 : decode cX9_crossed 105 = .ok (.iconst 0, 1) := by decide +kernel
theorem dX9_crossed_106 : decode cX9_crossed 106 = .ok (.iadd, 1) := by decide +kernel
theorem dX9_crossed_107 : decode cX9_crossed 107 = .ok (.istore_n 1, 1) := by decide +kernel
theorem dX9_crossed_108 : decode cX9_crossed 108 = .ok (.iinc 3 1, 3) := by decide +kernel
theorem dX9_crossed_111 : decode cX9_crossed 111 = .ok (.goto (-97), 3) := by decide +kernel
theorem dX9_crossed_114 : decode cX9_crossed 114 = .ok (.iinc 2 1, 3) := by decide +kernel
theorem dX9_crossed_117 : decode cX9_crossed 117 = .ok (.goto (-113), 3) := by decide +kernel
theorem dX9_crossed_120 : decode cX9_crossed 120 = .ok (.iload_n 1, 1) := by decide +kernel
theorem dX9_crossed_121 : decode cX9_crossed 121 = .ok (.ireturn, 1) := by decide +kernel
set_option maxRecDepth 20000 in
theorem ggX9_now_X9_ground : GoodIn wsX9_now wsX9_ground := goodIn_r _ [7, 8, 9, 10, 11, 6, 12, 13, 14, 15, 16, 17, 18, 19, 20, 21, 22, 23, 24, 25, 26, 27, 64, 65, 66, 67, 68, 69, 70, 71, 72, 73, 74, 75, 76, 77, 78, 79, 80, 81, 82, 83, 84, 85, 86, 87, 88, 89, 90, 91, 92, 93, 94, 95, 96, 97, 98, 99, 100, 101, 102, 103, 104, 105, 106] (by decide +kernel) (by decide +kernel)
set_option maxRecDepth 20000 in
theorem gX9_now_X9_ground : GoodIn wsX9_now (wsV RX9 231 RX9 yX9_ground wsX9_ground) := goodIn_app (goodIn_of _ (by decide +kernel)) ggX9_now_X9_ground
set_option maxRecDepth 20000 in
theorem ggX9_now_X9_taut : GoodIn wsX9_now wsX9_taut := goodIn_r _ [31, 13, 1, 32, 33, 34, 6, 35, 14, 15, 16, 22, 23, 24, 9, 10, 11, 12, 17, 18, 19, 20, 21, 64, 65, 66, 67, 68, 69, 70, 71, 72, 73, 74, 75, 76, 77, 78, 79, 80, 81, 82, 83, 84, 85, 86, 87, 88, 89, 90, 91, 92, 93, 94, 95, 96, 97, 98, 99, 100, 101, 102, 103, 104, 105, 106] (by decide +kernel) (by decide +kernel)
set_option maxRecDepth 20000 in
theorem gX9_now_X9_taut : GoodIn wsX9_now (wsV RX9 250 RX9 yX9_taut wsX9_taut) := goodIn_app (goodIn_of _ (by decide +kernel)) ggX9_now_X9_taut
set_option maxRecDepth 20000 in
theorem ggX9_now_X9_heights : GoodIn wsX9_now wsX9_heights := goodIn_r _ [39, 8, 1, 9, 10, 11, 6, 12, 13, 14, 15, 16, 17, 18, 19, 20, 21, 22, 23, 24, 64, 65, 66, 67, 68, 69, 70, 71, 72, 73, 74, 75, 76, 77, 78, 79, 80, 81, 82, 83, 84, 85, 86, 87, 88, 89, 90, 91, 92, 93, 94, 95, 96, 97, 98, 99, 100, 101, 102, 103, 104, 105, 106] (by decide +kernel) (by decide +kernel)
set_option maxRecDepth 20000 in
theorem gX9_now_X9_heights : GoodIn wsX9_now (wsV RX9 253 RX9 yX9_heights wsX9_heights) := goodIn_app (goodIn_of _ (by decide +kernel)) ggX9_now_X9_heights
set_option maxRecDepth 20000 in
theorem ggX9_now_X9_need : GoodIn wsX9_now wsX9_need := goodIn_r _ [43, 1, 44, 45, 46, 47, 6, 48, 13, 49, 50, 51, 52, 53, 54, 55, 56, 57, 58, 59, 8, 9, 10, 11, 12, 14, 15, 16, 17, 18, 19, 20, 21, 22, 23, 24, 64, 65, 66, 67, 68, 69, 70, 71, 72, 73, 74, 75, 76, 77, 78, 79, 80, 81, 82, 83, 84, 85, 86, 87, 88, 89, 90, 91, 92, 93, 94, 95, 96, 97, 98, 99, 100, 101, 102, 103, 104, 105, 106] (by decide +kernel) (by decide +kernel)
set_option maxRecDepth 20000 in
theorem gX9_now_X9_need : GoodIn wsX9_now (wsV RX9 256 RX9 yX9_need wsX9_need) := goodIn_app (goodIn_of _ (by decide +kernel)) ggX9_now_X9_need
set_option maxRecDepth 20000 in
theorem ggX9_now_X9_crossed : GoodIn wsX9_now wsX9_crossed := goodIn_r _ [63, 13, 1, 14, 15, 6, 16, 64, 65, 66, 67, 68, 69, 70, 71, 72, 73, 74, 75, 76, 77, 78, 79, 80, 81, 82, 83, 84, 85, 86, 87, 88, 89, 90, 91, 92, 93, 94, 95, 96, 97, 98, 99, 100, 101, 102, 103, 104, 105, 106] (by decide +kernel) (by decide +kernel)
set_option maxRecDepth 20000 in
theorem gX9_now_X9_crossed : GoodIn wsX9_now (wsV RX9 259 RX9 yX9_crossed wsX9_crossed) := goodIn_app (goodIn_of _ (by decide +kernel)) ggX9_now_X9_crossed
theorem dX9_now_0 : decode cX9_now 0 = .ok (.iload_n 1, 1) := by decide +kernel
theorem dX9_now_1 : decode cX9_now 1 = .ok (.tableswitch 97 0 7 #[47, 54, 61, 68, 77, 82, 87, 92], 47) := by decide +kernel
theorem dX9_now_48 : decode cX9_now 48 = .ok (.aload_n 0, 1) := by decide +kernel
theorem dX9_now_49 : decode cX9_now 49 = .ok (.getfield 46, 3) := by decide +kernel
theorem dX9_now_52 : decode cX9_now 52 = .ok (.iconst 0, 1) := by decide +kernel
theorem dX9_now_53 : decode cX9_now 53 = .ok (.iaload, 1) := by decide +kernel
theorem dX9_now_54 : decode cX9_now 54 = .ok (.ireturn, 1) := by decide +kernel
theorem dX9_now_55 : decode cX9_now 55 = .ok (.aload_n 0, 1) := by decide +kernel
theorem dX9_now_56 : decode cX9_now 56 = .ok (.getfield 46, 3) := by decide +kernel
theorem dX9_now_59 : decode cX9_now 59 = .ok (.iconst 1, 1) := by decide +kernel
theorem dX9_now_60 : decode cX9_now 60 = .ok (.iaload, 1) := by decide +kernel
theorem dX9_now_61 : decode cX9_now 61 = .ok (.ireturn, 1) := by decide +kernel
theorem dX9_now_62 : decode cX9_now 62 = .ok (.aload_n 0, 1) := by decide +kernel
theorem dX9_now_63 : decode cX9_now 63 = .ok (.getfield 46, 3) := by decide +kernel
theorem dX9_now_66 : decode cX9_now 66 = .ok (.iconst 2, 1) := by decide +kernel
theorem dX9_now_67 : decode cX9_now 67 = .ok (.iaload, 1) := by decide +kernel
theorem dX9_now_68 : decode cX9_now 68 = .ok (.ireturn, 1) := by decide +kernel
theorem dX9_now_69 : decode cX9_now 69 = .ok (.aload_n 0, 1) := by decide +kernel
theorem dX9_now_70 : decode cX9_now 70 = .ok (.aload_n 0, 1) := by decide +kernel
theorem dX9_now_71 : decode cX9_now 71 = .ok (.getfield 46, 3) := by decide +kernel
theorem dX9_now_74 : decode cX9_now 74 = .ok (.invokevirtual 231, 3) := by decide +kernel
theorem dX9_now_77 : decode cX9_now 77 = .ok (.ireturn, 1) := by decide +kernel
theorem dX9_now_78 : decode cX9_now 78 = .ok (.aload_n 0, 1) := by decide +kernel
theorem dX9_now_79 : decode cX9_now 79 = .ok (.invokevirtual 250, 3) := by decide +kernel
theorem dX9_now_82 : decode cX9_now 82 = .ok (.ireturn, 1) := by decide +kernel
theorem dX9_now_83 : decode cX9_now 83 = .ok (.aload_n 0, 1) := by decide +kernel
theorem dX9_now_84 : decode cX9_now 84 = .ok (.invokevirtual 253, 3) := by decide +kernel
theorem dX9_now_87 : decode cX9_now 87 = .ok (.ireturn, 1) := by decide +kernel
theorem dX9_now_88 : decode cX9_now 88 = .ok (.aload_n 0, 1) := by decide +kernel
theorem dX9_now_89 : decode cX9_now 89 = .ok (.invokevirtual 256, 3) := by decide +kernel
theorem dX9_now_92 : decode cX9_now 92 = .ok (.ireturn, 1) := by decide +kernel
theorem dX9_now_93 : decode cX9_now 93 = .ok (.aload_n 0, 1) := by decide +kernel
theorem dX9_now_94 : decode cX9_now 94 = .ok (.invokevirtual 259, 3) := by decide +kernel
theorem dX9_now_97 : decode cX9_now 97 = .ok (.ireturn, 1) := by decide +kernel
theorem dX9_now_98 : decode cX9_now 98 = .ok (.ldc 214, 2) := by decide +kernel
theorem dX9_now_100 : decode cX9_now 100 = .ok (.ireturn, 1) := by decide +kernel
theorem dX9_copyNow_0 : decode cX9_copyNow 0 = .ok (.iconst 0, 1) := by decide +kernel
theorem dX9_copyNow_1 : decode cX9_copyNow 1 = .ok (.istore_n 1, 1) := by decide +kernel
theorem dX9_copyNow_2 : decode cX9_copyNow 2 = .ok (.iload_n 1, 1) := by decide +kernel
theorem dX9_copyNow_3 : decode cX9_copyNow 3 = .ok (.bipush 21, 2) := by decide +kernel
theorem dX9_copyNow_5 : decode cX9_copyNow 5 = .ok (.if_icmp .ge 21, 3) := by decide +kernel
theorem dX9_copyNow_8 : decode cX9_copyNow 8 = .ok (.aload_n 0, 1) := by decide +kernel
theorem dX9_copyNow_9 : decode cX9_copyNow 9 = .ok (.getfield 49, 3) := by decide +kernel
theorem dX9_copyNow_12 : decode cX9_copyNow 12 = .ok (.iload_n 1, 1) := by decide +kernel
theorem dX9_copyNow_13 : decode cX9_copyNow 13 = .ok (.aload_n 0, 1) := by decide +kernel
theorem dX9_copyNow_14 : decode cX9_copyNow 14 = .ok (.getfield 46, 3) := by decide +kernel
theorem dX9_copyNow_17 : decode cX9_copyNow 17 = .ok (.iload_n 1, 1) := by decide +kernel
theorem dX9_copyNow_18 : decode cX9_copyNow 18 = .ok (.iaload, 1) := by decide +kernel
theorem dX9_copyNow_19 : decode cX9_copyNow 19 = .ok (.iastore, 1) := by decide +kernel
theorem dX9_copyNow_20 : decode cX9_copyNow 20 = .ok (.iinc 1 1, 3) := by decide +kernel
theorem dX9_copyNow_23 : decode cX9_copyNow 23 = .ok (.goto (-21), 3) := by decide +kernel
theorem dX9_copyNow_26 : decode cX9_copyNow 26 = .ok (.return_, 1) := by decide +kernel
set_option maxRecDepth 20000 in
theorem ggX9_reach_X9_in : GoodIn wsX9_reach wsX9_in := goodIn_r _ [9] (by decide +kernel) (by decide +kernel)
set_option maxRecDepth 20000 in
theorem gX9_reach_X9_in : GoodIn wsX9_reach (va_wsS RX9 80 yX9_in wsX9_in) := goodIn_app (goodIn_of _ (by decide +kernel)) ggX9_reach_X9_in
set_option maxRecDepth 20000 in
theorem ggX9_reach_X9_copyNow : GoodIn wsX9_reach wsX9_copyNow := goodIn_r _ [13, 5, 4, 40, 41, 42, 43, 44, 45, 46, 47, 48, 49, 50, 51, 52, 53, 54, 55, 56, 57, 58, 59, 60, 61, 62, 63, 64, 65, 66, 67, 68, 69, 70, 71, 72, 73, 74, 75, 76, 77, 78, 79, 80, 81, 82] (by decide +kernel) (by decide +kernel)
set_option maxRecDepth 20000 in
theorem gX9_reach_X9_copyNow : GoodIn wsX9_reach (wsV RX9 244 RX9 yX9_copyNow wsX9_copyNow) := goodIn_app (goodIn_of _ (by decide +kernel)) ggX9_reach_X9_copyNow
set_option maxRecDepth 20000 in
theorem ggX9_reach_X9_apart : GoodIn wsX9_reach wsX9_apart := goodIn_r _ [16] (by decide +kernel) (by decide +kernel)
set_option maxRecDepth 20000 in
theorem gX9_reach_X9_apart : GoodIn wsX9_reach (va_wsS RX9 263 yX9_apart wsX9_apart) := goodIn_app (goodIn_of _ (by decide +kernel)) ggX9_reach_X9_apart
set_option maxRecDepth 20000 in
theorem ggX9_reach_X9_ground : GoodIn wsX9_reach wsX9_ground := goodIn_r _ [20, 1, 21, 22, 23, 8, 24, 25, 26, 27, 28, 29, 30, 31, 32, 33, 34, 35, 36, 37, 38, 39, 40, 41, 42, 43, 44, 45, 46, 47, 48, 49, 50, 51, 52, 53, 54, 55, 56, 57, 58, 59, 60, 61, 62, 63, 64, 65, 66, 67, 68, 69, 70, 71, 72, 73, 74, 75, 76, 77, 78, 79, 80, 81, 82] (by decide +kernel) (by decide +kernel)
set_option maxRecDepth 20000 in
theorem gX9_reach_X9_ground : GoodIn wsX9_reach (wsV RX9 231 RX9 yX9_ground wsX9_ground) := goodIn_app (goodIn_of _ (by decide +kernel)) ggX9_reach_X9_ground
theorem dX9_reach_0 : decode cX9_reach 0 = .ok (.iload_n 1, 1) := by decide +kernel
theorem dX9_reach_1 : decode cX9_reach 1 = .ok (.iconst 0, 1) := by decide +kernel
theorem dX9_reach_2 : decode cX9_reach 2 = .ok (.iconst 1, 1) := by decide +kernel
theorem dX9_reach_3 : decode cX9_reach 3 = .ok (.aload_n 0, 1) := by decide +kernel
theorem dX9_reach_4 : decode cX9_reach 4 = .ok (.getfield 169, 3) := by decide +kernel
theorem dX9_reach_7 : decode cX9_reach 7 = .ok (.ishl, 1) := by decide +kernel
theorem dX9_reach_8 : decode cX9_reach 8 = .ok (.iconst 1, 1) := by decide +kernel
theorem dX9_reach_9 : decode cX9_reach 9 = .ok (.isub, 1) := by decide +kernel
theorem dX9_reach_10 : decode cX9_reach 10 = .ok (.invokestatic 80, 3) := by decide +kernel
theorem dX9_reach_13 : decode cX9_reach 13 = .ok (.ifCond .eq 12, 3) := by decide +kernel
theorem dX9_reach_16 : decode cX9_reach 16 = .ok (.iload_n 2, 1) := by decide +kernel
theorem dX9_reach_17 : decode cX9_reach 17 = .ok (.iconst 0, 1) := by decide +kernel
theorem dX9_reach_18 : decode cX9_reach 18 = .ok (.iconst 2, 1) := by decide +kernel
theorem dX9_reach_19 : decode cX9_reach 19 = .ok (.invokestatic 80, 3) := by decide +kernel
theorem dX9_reach_22 : decode cX9_reach 22 = .ok (.ifCond .ne 6, 3) := by decide +kernel
theorem dX9_reach_25 : decode cX9_reach 25 = .ok (.ldc 214, 2) := by decide +kernel
theorem dX9_reach_27 : decode cX9_reach 27 = .ok (.ireturn, 1) := by decide +kernel
theorem dX9_reach_28 : decode cX9_reach 28 = .ok (.aload_n 0, 1) := by decide +kernel
theorem dX9_reach_29 : decode cX9_reach 29 = .ok (.invokevirtual 244, 3) := by decide +kernel
theorem dX9_reach_32 : decode cX9_reach 32 = .ok (.ldc_w 262, 3) := by decide +kernel
theorem dX9_reach_35 : decode cX9_reach 35 = .ok (.istore_n 3, 1) := by decide +kernel
theorem dX9_reach_36 : decode cX9_reach 36 = .ok (.bipush (-9), 2) := by decide +kernel
theorem dX9_reach_38 : decode cX9_reach 38 = .ok (.istore 4, 2) := by decide +kernel
theorem dX9_reach_40 : decode cX9_reach 40 = .ok (.bipush (-9), 2) := by decide +kernel
theorem dX9_reach_42 : decode cX9_reach 42 = .ok (.istore 5, 2) := by decide +kernel
theorem dX9_reach_44 : decode cX9_reach 44 = .ok (.iconst 0, 1) := by decide +kernel
theorem dX9_reach_45 : decode cX9_reach 45 = .ok (.istore 6, 2) := by decide +kernel
theorem dX9_reach_47 : decode cX9_reach 47 = .ok (.iload 6, 2) := by decide +kernel
theorem dX9_reach_49 : decode cX9_reach 49 = .ok (.bipush 40, 2) := by decide +kernel
theorem dX9_reach_51 : decode cX9_reach 51 = .ok (.if_icmp .gt 95, 3) := by decide +kernel
theorem dX9_reach_54 : decode cX9_reach 54 = .ok (.bipush (-3), 2) := by decide +kernel
theorem dX9_reach_56 : decode cX9_reach 56 = .ok (.istore 7, 2) := by decide +kernel
theorem dX9_reach_58 : decode cX9_reach 58 = .ok (.iload 7, 2) := by decide +kernel
theorem dX9_reach_60 : decode cX9_reach 60 = .ok (.iconst 4, 1) := by decide +kernel
theorem dX9_reach_61 : decode cX9_reach 61 = .ok (.if_icmp .ge 79, 3) := by decide +kernel
theorem dX9_reach_64 : decode cX9_reach 64 = .ok (.iload 6, 2) := by decide +kernel
theorem dX9_reach_66 : decode cX9_reach 66 = .ok (.aload_n 0, 1) := by decide +kernel
theorem dX9_reach_67 : decode cX9_reach 67 = .ok (.getfield 46, 3) := by decide +kernel
theorem dX9_reach_70 : decode cX9_reach 70 = .ok (.iconst 0, 1) := by decide +kernel
theorem dX9_reach_71 : decode cX9_reach 71 = .ok (.iaload, 1) := by decide +kernel
theorem dX9_reach_72 : decode cX9_reach 72 = .ok (.invokestatic 263, 3) := by decide +kernel
theorem dX9_reach_75 : decode cX9_reach 75 = .ok (.iload 7, 2) := by decide +kernel
theorem dX9_reach_77 : decode cX9_reach 77 = .ok (.aload_n 0, 1) := by decide +kernel
theorem dX9_reach_78 : decode cX9_reach 78 = .ok (.getfield 46, 3) := by decide +kernel
theorem dX9_reach_81 : decode cX9_reach 81 = .ok (.iconst 1, 1) := by decide +kernel
theorem dX9_reach_82 : decode cX9_reach 82 = .ok (.iaload, 1) := by decide +kernel
theorem dX9_reach_83 : decode cX9_reach 83 = .ok (.invokestatic 263, 3) := by decide +kernel
theorem dX9_reach_86 : decode cX9_reach 86 = .ok (.iadd, 1) := by decide +kernel
theorem dX9_reach_87 : decode cX9_reach 87 = .ok (.istore 8, 2) := by decide +kernel
theorem dX9_reach_89 : decode cX9_reach 89 = .ok (.aload_n 0, 1) := by decide +kernel
theorem dX9_reach_90 : decode cX9_reach 90 = .ok (.getfield 49, 3) := by decide +kernel
theorem dX9_reach_93 : decode cX9_reach 93 = .ok (.iconst 0, 1) := by decide +kernel
theorem dX9_reach_94 : decode cX9_reach 94 = .ok (.iload 6, 2) := by decide +kernel
theorem dX9_reach_96 : decode cX9_reach 96 = .ok (.iastore, 1) := by decide +kernel
theorem dX9_reach_97 : decode cX9_reach 97 = .ok (.aload_n 0, 1) := by decide +kernel
theorem dX9_reach_98 : decode cX9_reach 98 = .ok (.getfield 49, 3) := by decide +kernel
theorem dX9_reach_101 : decode cX9_reach 101 = .ok (.iconst 1, 1) := by decide +kernel
theorem dX9_reach_102 : decode cX9_reach 102 = .ok (.iload 7, 2) := by decide +kernel
theorem dX9_reach_104 : decode cX9_reach 104 = .ok (.iastore, 1) := by decide +kernel
theorem dX9_reach_105 : decode cX9_reach 105 = .ok (.iload 8, 2) := by decide +kernel
theorem dX9_reach_107 : decode cX9_reach 107 = .ok (.iload_n 3, 1) := by decide +kernel
theorem dX9_reach_108 : decode cX9_reach 108 = .ok (.if_icmp .ge 26, 3) := by decide +kernel
theorem dX9_reach_111 : decode cX9_reach 111 = .ok (.aload_n 0, 1) := by decide +kernel
theorem dX9_reach_112 : decode cX9_reach 112 = .ok (.aload_n 0, 1) := by decide +kernel
theorem dX9_reach_113 : decode cX9_reach 113 = .ok (.getfield 49, 3) := by decide +kernel
theorem dX9_reach_116 : decode cX9_reach 116 = .ok (.invokevirtual 231, 3) := by decide +kernel
theorem dX9_reach_119 : decode cX9_reach 119 = .ok (.iload_n 1, 1) := by decide +kernel
theorem dX9_reach_120 : decode cX9_reach 120 = .ok (.if_icmp .ne 14, 3) := by decide +kernel
theorem dX9_reach_123 : decode cX9_reach 123 = .ok (.iload 8, 2) := by decide +kernel
theorem dX9_reach_125 : decode cX9_reach 125 = .ok (.istore_n 3, 1) := by decide +kernel
theorem dX9_reach_126 : decode cX9_reach 126 = .ok (.iload 6, 2) := by decide +kernel
theorem dX9_reach_128 : decode cX9_reach 128 = .ok (.istore 4, 2) := by decide +kernel
theorem dX9_reach_130 : decode cX9_reach 130 = .ok (.iload 7, 2) := by decide +kernel
theorem dX9_reach_132 : decode cX9_reach 132 = .ok (.istore 5, 2) := by decide +kernel
theorem dX9_reach_134 : decode cX9_reach 134 = .ok (.iinc 7 1, 3) := by decide +kernel
theorem dX9_reach_137 : decode cX9_reach 137 = .ok (.goto (-79), 3) := by decide +kernel
theorem dX9_reach_140 : decode cX9_reach 140 = .ok (.iinc 6 1, 3) := by decide +kernel
theorem dX9_reach_143 : decode cX9_reach 143 = .ok (.goto (-96), 3) := by decide +kernel
theorem dX9_reach_146 : decode cX9_reach 146 = .ok (.iload_n 3, 1) := by decide +kernel
theorem dX9_reach_147 : decode cX9_reach 147 = .ok (.ldc_w 262, 3) := by decide +kernel
theorem dX9_reach_150 : decode cX9_reach 150 = .ok (.if_icmp .ne 8, 3) := by decide +kernel
theorem dX9_reach_153 : decode cX9_reach 153 = .ok (.bipush (-9), 2) := by decide +kernel
theorem dX9_reach_155 : decode cX9_reach 155 = .ok (.goto 23, 3) := by decide +kernel
theorem dX9_reach_158 : decode cX9_reach 158 = .ok (.iload_n 2, 1) := by decide +kernel
theorem dX9_reach_159 : decode cX9_reach 159 = .ok (.ifCond .ne 7, 3) := by decide +kernel
theorem dX9_reach_162 : decode cX9_reach 162 = .ok (.iload_n 3, 1) := by decide +kernel
theorem dX9_reach_163 : decode cX9_reach 163 = .ok (.goto 15, 3) := by decide +kernel
theorem dX9_reach_166 : decode cX9_reach 166 = .ok (.iload_n 2, 1) := by decide +kernel
theorem dX9_reach_167 : decode cX9_reach 167 = .ok (.iconst 1, 1) := by decide +kernel
theorem dX9_reach_168 : decode cX9_reach 168 = .ok (.if_icmp .ne 8, 3) := by decide +kernel
theorem dX9_reach_171 : decode cX9_reach 171 = .ok (.iload 4, 2) := by decide +kernel
theorem dX9_reach_173 : decode cX9_reach 173 = .ok (.goto 5, 3) := by decide +kernel
theorem dX9_reach_176 : decode cX9_reach 176 = .ok (.iload 5, 2) := by decide +kernel
theorem dX9_reach_178 : decode cX9_reach 178 = .ok (.ireturn, 1) := by decide +kernel
set_option maxRecDepth 20000 in
theorem ggX9_fell_X9_isLimb : GoodIn wsX9_fell wsX9_isLimb := goodIn_r _ [7, 8, 9, 10, 6, 11, 39, 40, 41, 42, 43, 44, 45, 46, 47, 48, 49, 50, 51, 52, 53, 54, 55, 56, 57, 58, 59, 60, 61, 62, 63, 64, 65, 66, 67, 68, 69, 70, 71, 72, 73, 74, 75, 76, 77, 78, 79, 80, 81] (by decide +kernel) (by decide +kernel)
set_option maxRecDepth 20000 in
theorem gX9_fell_X9_isLimb : GoodIn wsX9_fell (wsV RX9 208 RX9 yX9_isLimb wsX9_isLimb) := goodIn_app (goodIn_of _ (by decide +kernel)) ggX9_fell_X9_isLimb
set_option maxRecDepth 20000 in
theorem ggX9_fell_X9_allStrings : GoodIn wsX9_fell wsX9_allStrings := goodIn_r _ [15, 16, 39, 40, 41, 42, 43, 44, 45, 46, 47, 48, 49, 50, 51, 52, 53, 54, 55, 56, 57, 58, 59, 60, 61, 62, 63, 64, 65, 66, 67, 68, 69, 70, 71, 72, 73, 74, 75, 76, 77, 78, 79, 80, 81] (by decide +kernel) (by decide +kernel)
set_option maxRecDepth 20000 in
theorem gX9_fell_X9_allStrings : GoodIn wsX9_fell (wsV RX9 241 RX9 yX9_allStrings wsX9_allStrings) := goodIn_app (goodIn_of _ (by decide +kernel)) ggX9_fell_X9_allStrings
set_option maxRecDepth 20000 in
theorem ggX9_fell_X9_copyNow : GoodIn wsX9_fell wsX9_copyNow := goodIn_r _ [20, 2, 1, 39, 40, 41, 42, 43, 44, 45, 46, 47, 48, 49, 50, 51, 52, 53, 54, 55, 56, 57, 58, 59, 60, 61, 62, 63, 64, 65, 66, 67, 68, 69, 70, 71, 72, 73, 74, 75, 76, 77, 78, 79, 80, 81] (by decide +kernel) (by decide +kernel)
set_option maxRecDepth 20000 in
theorem gX9_fell_X9_copyNow : GoodIn wsX9_fell (wsV RX9 244 RX9 yX9_copyNow wsX9_copyNow) := goodIn_app (goodIn_of _ (by decide +kernel)) ggX9_fell_X9_copyNow
set_option maxRecDepth 20000 in
theorem ggX9_fell_X9_bits : GoodIn wsX9_fell wsX9_bits := goodIn_r _ [23] (by decide +kernel) (by decide +kernel)
set_option maxRecDepth 20000 in
theorem gX9_fell_X9_bits : GoodIn wsX9_fell (va_wsS RX9 235 yX9_bits wsX9_bits) := goodIn_app (goodIn_of _ (by decide +kernel)) ggX9_fell_X9_bits
set_option maxRecDepth 20000 in
theorem ggX9_fell_X9_height : GoodIn wsX9_fell wsX9_height := goodIn_r _ [27, 16, 28, 29, 6, 30, 31, 32, 33, 34, 35, 36, 37, 38, 39, 40, 41, 42, 43, 44, 45, 46, 47, 48, 49, 50, 51, 52, 53, 54, 55, 56, 57, 58, 59, 60, 61, 62, 63, 64, 65, 66, 67, 68, 69, 70, 71, 72, 73, 74, 75, 76, 77, 78, 79, 80, 81] (by decide +kernel) (by decide +kernel)
set_option maxRecDepth 20000 in
theorem gX9_fell_X9_height : GoodIn wsX9_fell (wsV RX9 199 RX9 yX9_height wsX9_height) := goodIn_app (goodIn_of _ (by decide +kernel)) ggX9_fell_X9_height
theorem dX9_fell_0 : decode cX9_fell 0 = .ok (.aload_n 0, 1) := by decide +kernel
theorem dX9_fell_1 : decode cX9_fell 1 = .ok (.iload_n 1, 1) := by decide +kernel
theorem dX9_fell_2 : decode cX9_fell 2 = .ok (.invokevirtual 208, 3) := by decide +kernel
theorem dX9_fell_5 : decode cX9_fell 5 = .ok (.ifCond .ne 5, 3) := by decide +kernel
theorem dX9_fell_8 : decode cX9_fell 8 = .ok (.iconst (-1), 1) := by decide +kernel
theorem dX9_fell_9 : decode cX9_fell 9 = .ok (.ireturn, 1) := by decide +kernel
theorem dX9_fell_10 : decode cX9_fell 10 = .ok (.aload_n 0, 1) := by decide +kernel
theorem dX9_fell_11 : decode cX9_fell 11 = .ok (.invokevirtual 241, 3) := by decide +kernel
theorem dX9_fell_14 : decode cX9_fell 14 = .ok (.aload_n 0, 1) := by decide +kernel
theorem dX9_fell_15 : decode cX9_fell 15 = .ok (.getfield 46, 3) := by decide +kernel
theorem dX9_fell_18 : decode cX9_fell 18 = .ok (.iconst 2, 1) := by decide +kernel
theorem dX9_fell_19 : decode cX9_fell 19 = .ok (.iaload, 1) := by decide +kernel
theorem dX9_fell_20 : decode cX9_fell 20 = .ok (.iconst (-1), 1) := by decide +kernel
theorem dX9_fell_21 : decode cX9_fell 21 = .ok (.ixor, 1) := by decide +kernel
theorem dX9_fell_22 : decode cX9_fell 22 = .ok (.iand, 1) := by decide +kernel
theorem dX9_fell_23 : decode cX9_fell 23 = .ok (.istore_n 2, 1) := by decide +kernel
theorem dX9_fell_24 : decode cX9_fell 24 = .ok (.iload_n 2, 1) := by decide +kernel
theorem dX9_fell_25 : decode cX9_fell 25 = .ok (.istore_n 3, 1) := by decide +kernel
theorem dX9_fell_26 : decode cX9_fell 26 = .ok (.aload_n 0, 1) := by decide +kernel
theorem dX9_fell_27 : decode cX9_fell 27 = .ok (.invokevirtual 244, 3) := by decide +kernel
theorem dX9_fell_30 : decode cX9_fell 30 = .ok (.iload_n 2, 1) := by decide +kernel
theorem dX9_fell_31 : decode cX9_fell 31 = .ok (.istore 4, 2) := by decide +kernel
theorem dX9_fell_33 : decode cX9_fell 33 = .ok (.iload 4, 2) := by decide +kernel
theorem dX9_fell_35 : decode cX9_fell 35 = .ok (.ifCond .lt 64, 3) := by decide +kernel
theorem dX9_fell_38 : decode cX9_fell 38 = .ok (.aload_n 0, 1) := by decide +kernel
theorem dX9_fell_39 : decode cX9_fell 39 = .ok (.getfield 49, 3) := by decide +kernel
theorem dX9_fell_42 : decode cX9_fell 42 = .ok (.iconst 2, 1) := by decide +kernel
theorem dX9_fell_43 : decode cX9_fell 43 = .ok (.aload_n 0, 1) := by decide +kernel
theorem dX9_fell_44 : decode cX9_fell 44 = .ok (.getfield 46, 3) := by decide +kernel
theorem dX9_fell_47 : decode cX9_fell 47 = .ok (.iconst 2, 1) := by decide +kernel
theorem dX9_fell_48 : decode cX9_fell 48 = .ok (.iaload, 1) := by decide +kernel
theorem dX9_fell_49 : decode cX9_fell 49 = .ok (.iload 4, 2) := by decide +kernel
theorem dX9_fell_51 : decode cX9_fell 51 = .ok (.ior, 1) := by decide +kernel
theorem dX9_fell_52 : decode cX9_fell 52 = .ok (.iastore, 1) := by decide +kernel
theorem dX9_fell_53 : decode cX9_fell 53 = .ok (.iload 4, 2) := by decide +kernel
theorem dX9_fell_55 : decode cX9_fell 55 = .ok (.iload_n 2, 1) := by decide +kernel
theorem dX9_fell_56 : decode cX9_fell 56 = .ok (.iconst (-1), 1) := by decide +kernel
theorem dX9_fell_57 : decode cX9_fell 57 = .ok (.ixor, 1) := by decide +kernel
theorem dX9_fell_58 : decode cX9_fell 58 = .ok (.iand, 1) := by decide +kernel
theorem dX9_fell_59 : decode cX9_fell 59 = .ok (.ifCond .ne 32, 3) := by decide +kernel
theorem dX9_fell_62 : decode cX9_fell 62 = .ok (.iload 4, 2) := by decide +kernel
theorem dX9_fell_64 : decode cX9_fell 64 = .ok (.invokestatic 235, 3) := by decide +kernel
theorem dX9_fell_67 : decode cX9_fell 67 = .ok (.iload_n 3, 1) := by decide +kernel
theorem dX9_fell_68 : decode cX9_fell 68 = .ok (.invokestatic 235, 3) := by decide +kernel
theorem dX9_fell_71 : decode cX9_fell 71 = .ok (.if_icmp .gt 20, 3) := by decide +kernel
theorem dX9_fell_74 : decode cX9_fell 74 = .ok (.aload_n 0, 1) := by decide +kernel
theorem dX9_fell_75 : decode cX9_fell 75 = .ok (.aload_n 0, 1) := by decide +kernel
theorem dX9_fell_76 : decode cX9_fell 76 = .ok (.getfield 49, 3) := by decide +kernel
theorem dX9_fell_79 : decode cX9_fell 79 = .ok (.iload_n 1, 1) := by decide +kernel
theorem dX9_fell_80 : decode cX9_fell 80 = .ok (.invokevirtual 199, 3) := by decide +kernel
theorem dX9_fell_83 : decode cX9_fell 83 = .ok (.ifCond .ne 8, 3) := by decide +kernel
theorem dX9_fell_86 : decode cX9_fell 86 = .ok (.iload 4, 2) := by decide +kernel
theorem dX9_fell_88 : decode cX9_fell 88 = .ok (.goto 4, 3) := by decide +kernel
theorem dX9_fell_91 : decode cX9_fell 91 = .ok (.iload_n 3, 1) := by decide +kernel
theorem dX9_fell_92 : decode cX9_fell 92 = .ok (.istore_n 3, 1) := by decide +kernel
theorem dX9_fell_93 : decode cX9_fell 93 = .ok (.iinc 4 (-1), 3) := by decide +kernel
theorem dX9_fell_96 : decode cX9_fell 96 = .ok (.goto (-63), 3) := by decide +kernel
theorem dX9_fell_99 : decode cX9_fell 99 = .ok (.iload_n 3, 1) := by decide +kernel
theorem dX9_fell_100 : decode cX9_fell 100 = .ok (.ireturn, 1) := by decide +kernel
set_option maxRecDepth 20000 in
theorem ggX9_atBeat_X9_copyNow : GoodIn wsX9_atBeat wsX9_copyNow := goodIn_r _ [8, 1, 9, 26, 27, 28, 29, 30, 31, 32, 33, 34, 35, 36, 37, 38, 39, 40, 41, 42, 43, 44, 45, 46, 47, 48, 49, 50, 51, 52, 53, 54, 55, 56, 57, 58, 59, 60, 61, 62, 63, 64, 65, 66, 67, 68] (by decide +kernel) (by decide +kernel)
set_option maxRecDepth 20000 in
theorem gX9_atBeat_X9_copyNow : GoodIn wsX9_atBeat (wsV RX9 244 RX9 yX9_copyNow wsX9_copyNow) := goodIn_app (goodIn_of _ (by decide +kernel)) ggX9_atBeat_X9_copyNow
set_option maxRecDepth 20000 in
theorem ggX9_atBeat_X9_height : GoodIn wsX9_atBeat wsX9_height := goodIn_r _ [13, 14, 15, 16, 7, 17, 18, 19, 20, 21, 22, 23, 24, 25, 26, 27, 28, 29, 30, 31, 32, 33, 34, 35, 36, 37, 38, 39, 40, 41, 42, 43, 44, 45, 46, 47, 48, 49, 50, 51, 52, 53, 54, 55, 56, 57, 58, 59, 60, 61, 62, 63, 64, 65, 66, 67, 68] (by decide +kernel) (by decide +kernel)
set_option maxRecDepth 20000 in
theorem gX9_atBeat_X9_height : GoodIn wsX9_atBeat (wsV RX9 199 RX9 yX9_height wsX9_height) := goodIn_app (goodIn_of _ (by decide +kernel)) ggX9_atBeat_X9_height
theorem dX9_atBeat_0 : decode cX9_atBeat 0 = .ok (.aload_n 0, 1) := by decide +kernel
theorem dX9_atBeat_1 : decode cX9_atBeat 1 = .ok (.invokevirtual 244, 3) := by decide +kernel
theorem dX9_atBeat_4 : decode cX9_atBeat 4 = .ok (.aload_n 0, 1) := by decide +kernel
theorem dX9_atBeat_5 : decode cX9_atBeat 5 = .ok (.getfield 49, 3) := by decide +kernel
theorem dX9_atBeat_8 : decode cX9_atBeat 8 = .ok (.iconst 0, 1) := by decide +kernel
theorem dX9_atBeat_9 : decode cX9_atBeat 9 = .ok (.aload_n 0, 1) := by decide +kernel
theorem dX9_atBeat_10 : decode cX9_atBeat 10 = .ok (.getfield 37, 3) := by decide +kernel
theorem dX9_atBeat_13 : decode cX9_atBeat 13 = .ok (.iload_n 2, 1) := by decide +kernel
theorem dX9_atBeat_14 : decode cX9_atBeat 14 = .ok (.iaload, 1) := by decide +kernel
theorem dX9_atBeat_15 : decode cX9_atBeat 15 = .ok (.iastore, 1) := by decide +kernel
theorem dX9_atBeat_16 : decode cX9_atBeat 16 = .ok (.aload_n 0, 1) := by decide +kernel
theorem dX9_atBeat_17 : decode cX9_atBeat 17 = .ok (.getfield 49, 3) := by decide +kernel
theorem dX9_atBeat_20 : decode cX9_atBeat 20 = .ok (.iconst 1, 1) := by decide +kernel
theorem dX9_atBeat_21 : decode cX9_atBeat 21 = .ok (.aload_n 0, 1) := by decide +kernel
theorem dX9_atBeat_22 : decode cX9_atBeat 22 = .ok (.getfield 40, 3) := by decide +kernel
theorem dX9_atBeat_25 : decode cX9_atBeat 25 = .ok (.iload_n 2, 1) := by decide +kernel
theorem dX9_atBeat_26 : decode cX9_atBeat 26 = .ok (.iaload, 1) := by decide +kernel
theorem dX9_atBeat_27 : decode cX9_atBeat 27 = .ok (.iastore, 1) := by decide +kernel
theorem dX9_atBeat_28 : decode cX9_atBeat 28 = .ok (.aload_n 0, 1) := by decide +kernel
theorem dX9_atBeat_29 : decode cX9_atBeat 29 = .ok (.aload_n 0, 1) := by decide +kernel
theorem dX9_atBeat_30 : decode cX9_atBeat 30 = .ok (.getfield 49, 3) := by decide +kernel
theorem dX9_atBeat_33 : decode cX9_atBeat 33 = .ok (.iload_n 1, 1) := by decide +kernel
theorem dX9_atBeat_34 : decode cX9_atBeat 34 = .ok (.invokevirtual 199, 3) := by decide +kernel
theorem dX9_atBeat_37 : decode cX9_atBeat 37 = .ok (.ireturn, 1) := by decide +kernel
set_option maxRecDepth 20000 in
theorem ggX9_path_X9_isLimb : GoodIn wsX9_path wsX9_isLimb := goodIn_r _ [5, 6, 7, 8, 4, 9, 43, 44, 45, 46, 47, 48, 49, 50, 51, 52, 53, 54, 55, 56, 57, 58, 59, 60, 61, 62, 63, 64, 65, 66, 67, 68, 69, 70, 71, 72, 73, 74, 75, 76, 77, 78, 79, 80, 81, 82, 83, 84, 85] (by decide +kernel) (by decide +kernel)
set_option maxRecDepth 20000 in
theorem gX9_path_X9_isLimb : GoodIn wsX9_path (wsV RX9 208 RX9 yX9_isLimb wsX9_isLimb) := goodIn_app (goodIn_of _ (by decide +kernel)) ggX9_path_X9_isLimb
set_option maxRecDepth 20000 in
theorem ggX9_path_X9_isBeat : GoodIn wsX9_path wsX9_isBeat := goodIn_r _ [13, 14, 7, 8, 4, 9, 43, 44, 45, 46, 47, 48, 49, 50, 51, 52, 53, 54, 55, 56, 57, 58, 59, 60, 61, 62, 63, 64, 65, 66, 67, 68, 69, 70, 71, 72, 73, 74, 75, 76, 77, 78, 79, 80, 81, 82, 83, 84, 85] (by decide +kernel) (by decide +kernel)
set_option maxRecDepth 20000 in
theorem gX9_path_X9_isBeat : GoodIn wsX9_path (wsV RX9 222 RX9 yX9_isBeat wsX9_isBeat) := goodIn_app (goodIn_of _ (by decide +kernel)) ggX9_path_X9_isBeat
set_option maxRecDepth 20000 in
theorem ggX9_path_X9_atBeat : GoodIn wsX9_path wsX9_atBeat := goodIn_r _ [18, 19, 20, 21, 22, 23, 24, 4, 25, 26, 27, 28, 29, 30, 31, 32, 33, 34, 35, 36, 37, 38, 39, 40, 41, 42, 43, 44, 45, 46, 47, 48, 49, 50, 51, 52, 53, 54, 55, 56, 57, 58, 59, 60, 61, 62, 63, 64, 65, 66, 67, 68, 69, 70, 71, 72, 73, 74, 75, 76, 77, 78, 79, 80, 81, 82, 83, 84, 85] (by decide +kernel) (by decide +kernel)
set_option maxRecDepth 20000 in
theorem gX9_path_X9_atBeat : GoodIn wsX9_path (wsV RX9 267 RX9 yX9_atBeat wsX9_atBeat) := goodIn_app (goodIn_of _ (by decide +kernel)) ggX9_path_X9_atBeat
theorem dX9_path_0 : decode cX9_path 0 = .ok (.aload_n 0, 1) := by decide +kernel
theorem dX9_path_1 : decode cX9_path 1 = .ok (.iload_n 1, 1) := by decide +kernel
theorem dX9_path_2 : decode cX9_path 2 = .ok (.invokevirtual 208, 3) := by decide +kernel
theorem dX9_path_5 : decode cX9_path 5 = .ok (.ifCond .eq 20, 3) := by decide +kernel
theorem dX9_path_8 : decode cX9_path 8 = .ok (.aload_n 0, 1) := by decide +kernel
theorem dX9_path_9 : decode cX9_path 9 = .ok (.iload_n 2, 1) := by decide +kernel
theorem dX9_path_10 : decode cX9_path 10 = .ok (.invokevirtual 222, 3) := by decide +kernel
theorem dX9_path_13 : decode cX9_path 13 = .ok (.ifCond .eq 12, 3) := by decide +kernel
theorem dX9_path_16 : decode cX9_path 16 = .ok (.aload_n 0, 1) := by decide +kernel
theorem dX9_path_17 : decode cX9_path 17 = .ok (.iload_n 1, 1) := by decide +kernel
theorem dX9_path_18 : decode cX9_path 18 = .ok (.iload_n 2, 1) := by decide +kernel
theorem dX9_path_19 : decode cX9_path 19 = .ok (.invokevirtual 267, 3) := by decide +kernel
theorem dX9_path_22 : decode cX9_path 22 = .ok (.goto 4, 3) := by decide +kernel
theorem dX9_path_25 : decode cX9_path 25 = .ok (.iconst (-1), 1) := by decide +kernel
theorem dX9_path_26 : decode cX9_path 26 = .ok (.ireturn, 1) := by decide +kernel
set_option maxRecDepth 20000 in
theorem ggX9_nods_X9_isLimb : GoodIn wsX9_nods wsX9_isLimb := goodIn_r _ [6, 7, 8, 9, 5, 10, 39, 40, 41, 42, 43, 44, 45, 46, 47, 48, 49, 50, 51, 52, 53, 54, 55, 56, 57, 58, 59, 60, 61, 62, 63, 64, 65, 66, 67, 68, 69, 70, 71, 72, 73, 74, 75, 76, 77, 78, 79, 80, 81] (by decide +kernel) (by decide +kernel)
set_option maxRecDepth 20000 in
theorem gX9_nods_X9_isLimb : GoodIn wsX9_nods (wsV RX9 208 RX9 yX9_isLimb wsX9_isLimb) := goodIn_app (goodIn_of _ (by decide +kernel)) ggX9_nods_X9_isLimb
set_option maxRecDepth 20000 in
theorem ggX9_nods_X9_atBeat : GoodIn wsX9_nods wsX9_atBeat := goodIn_r _ [14, 15, 16, 17, 18, 19, 20, 5, 21, 22, 23, 24, 25, 26, 27, 28, 29, 30, 31, 32, 33, 34, 35, 36, 37, 38, 39, 40, 41, 42, 43, 44, 45, 46, 47, 48, 49, 50, 51, 52, 53, 54, 55, 56, 57, 58, 59, 60, 61, 62, 63, 64, 65, 66, 67, 68, 69, 70, 71, 72, 73, 74, 75, 76, 77, 78, 79, 80, 81] (by decide +kernel) (by decide +kernel)
set_option maxRecDepth 20000 in
theorem gX9_nods_X9_atBeat : GoodIn wsX9_nods (wsV RX9 267 RX9 yX9_atBeat wsX9_atBeat) := goodIn_app (goodIn_of _ (by decide +kernel)) ggX9_nods_X9_atBeat
theorem dX9_nods_0 : decode cX9_nods 0 = .ok (.aload_n 0, 1) := by decide +kernel
theorem dX9_nods_1 : decode cX9_nods 1 = .ok (.iload_n 1, 1) := by decide +kernel
theorem dX9_nods_2 : decode cX9_nods 2 = .ok (.invokevirtual 208, 3) := by decide +kernel
theorem dX9_nods_5 : decode cX9_nods 5 = .ok (.ifCond .ne 5, 3) := by decide +kernel
theorem dX9_nods_8 : decode cX9_nods 8 = .ok (.iconst (-1), 1) := by decide +kernel
theorem dX9_nods_9 : decode cX9_nods 9 = .ok (.ireturn, 1) := by decide +kernel
theorem dX9_nods_10 : decode cX9_nods 10 = .ok (.iconst 0, 1) := by decide +kernel
theorem dX9_nods_11 : decode cX9_nods 11 = .ok (.istore_n 2, 1) := by decide +kernel
theorem dX9_nods_12 : decode cX9_nods 12 = .ok (.iconst 1, 1) := by decide +kernel
theorem dX9_nods_13 : decode cX9_nods 13 = .ok (.istore_n 3, 1) := by decide +kernel
theorem dX9_nods_14 : decode cX9_nods 14 = .ok (.iload_n 3, 1) := by decide +kernel
theorem dX9_nods_15 : decode cX9_nods 15 = .ok (.aload_n 0, 1) := by decide +kernel
theorem dX9_nods_16 : decode cX9_nods 16 = .ok (.getfield 175, 3) := by decide +kernel
theorem dX9_nods_19 : decode cX9_nods 19 = .ok (.iconst 1, 1) := by decide +kernel
theorem dX9_nods_20 : decode cX9_nods 20 = .ok (.isub, 1) := by decide +kernel
theorem dX9_nods_21 : decode cX9_nods 21 = .ok (.if_icmp .ge 51, 3) := by decide +kernel
theorem dX9_nods_24 : decode cX9_nods 24 = .ok (.iload_n 2, 1) := by decide +kernel
theorem dX9_nods_25 : decode cX9_nods 25 = .ok (.aload_n 0, 1) := by decide +kernel
theorem dX9_nods_26 : decode cX9_nods 26 = .ok (.iload_n 1, 1) := by decide +kernel
theorem dX9_nods_27 : decode cX9_nods 27 = .ok (.iload_n 3, 1) := by decide +kernel
theorem dX9_nods_28 : decode cX9_nods 28 = .ok (.invokevirtual 267, 3) := by decide +kernel
theorem dX9_nods_31 : decode cX9_nods 31 = .ok (.aload_n 0, 1) := by decide +kernel
theorem dX9_nods_32 : decode cX9_nods 32 = .ok (.iload_n 1, 1) := by decide +kernel
theorem dX9_nods_33 : decode cX9_nods 33 = .ok (.iload_n 3, 1) := by decide +kernel
theorem dX9_nods_34 : decode cX9_nods 34 = .ok (.iconst 1, 1) := by decide +kernel
theorem dX9_nods_35 : decode cX9_nods 35 = .ok (.isub, 1) := by decide +kernel
theorem dX9_nods_36 : decode cX9_nods 36 = .ok (.invokevirtual 267, 3) := by decide +kernel
theorem dX9_nods_39 : decode cX9_nods 39 = .ok (.if_icmp .ge 24, 3) := by decide +kernel
theorem dX9_nods_42 : decode cX9_nods 42 = .ok (.aload_n 0, 1) := by decide +kernel
theorem dX9_nods_43 : decode cX9_nods 43 = .ok (.iload_n 1, 1) := by decide +kernel
theorem dX9_nods_44 : decode cX9_nods 44 = .ok (.iload_n 3, 1) := by decide +kernel
theorem dX9_nods_45 : decode cX9_nods 45 = .ok (.invokevirtual 267, 3) := by decide +kernel
theorem dX9_nods_48 : decode cX9_nods 48 = .ok (.aload_n 0, 1) := by decide +kernel
theorem dX9_nods_49 : decode cX9_nods 49 = .ok (.iload_n 1, 1) := by decide +kernel
theorem dX9_nods_50 : decode cX9_nods 50 = .ok (.iload_n 3, 1) := by decide +kernel
theorem dX9_nods_51 : decode cX9_nods 51 = .ok (.iconst 1, 1) := by decide +kernel
theorem dX9_nods_52 : decode cX9_nods 52 = .ok (.iadd, 1) := by decide +kernel
theorem dX9_nods_53 : decode cX9_nods 53 = .ok (.invokevirtual 267, 3) := by decide +kernel
theorem dX9_nods_56 : decode cX9_nods 56 = .ok (.if_icmp .ge 7, 3) := by decide +kernel
theorem dX9_nods_59 : decode cX9_nods 59 = .ok (.iconst 1, 1) := by decide +kernel
theorem dX9_nods_60 : decode cX9_nods 60 = .ok (.goto 4, 3) := by decide +kernel
theorem dX9_nods_63 : decode cX9_nods 63 = .ok (.iconst 0, 1) := by decide +kernel
theorem dX9_nods_64 : decode cX9_nods 64 = .ok (.iadd, 1) := by decide +kernel
theorem dX9_nods_65 : decode cX9_nods 65 = .ok (.istore_n 2, 1) := by decide +kernel
theorem dX9_nods_66 : decode cX9_nods 66 = .ok (.iinc 3 1, 3) := by decide +kernel
theorem dX9_nods_69 : decode cX9_nods 69 = .ok (.goto (-55), 3) := by decide +kernel
theorem dX9_nods_72 : decode cX9_nods 72 = .ok (.iload_n 2, 1) := by decide +kernel
theorem dX9_nods_73 : decode cX9_nods 73 = .ok (.ireturn, 1) := by decide +kernel
set_option maxRecDepth 20000 in
theorem ggX9_moves_X9_apart : GoodIn wsX9_moves wsX9_apart := goodIn_r _ [7] (by decide +kernel) (by decide +kernel)
set_option maxRecDepth 20000 in
theorem gX9_moves_X9_apart : GoodIn wsX9_moves (va_wsS RX9 263 yX9_apart wsX9_apart) := goodIn_app (goodIn_of _ (by decide +kernel)) ggX9_moves_X9_apart
theorem dX9_moves_0 : decode cX9_moves 0 = .ok (.iload_n 1, 1) := by decide +kernel
theorem dX9_moves_1 : decode cX9_moves 1 = .ok (.ifCond .ge 12, 3) := by decide +kernel
theorem dX9_moves_4 : decode cX9_moves 4 = .ok (.aload_n 0, 1) := by decide +kernel
theorem dX9_moves_5 : decode cX9_moves 5 = .ok (.getfield 46, 3) := by decide +kernel
theorem dX9_moves_8 : decode cX9_moves 8 = .ok (.iconst 0, 1) := by decide +kernel
theorem dX9_moves_9 : decode cX9_moves 9 = .ok (.iaload, 1) := by decide +kernel
theorem dX9_moves_10 : decode cX9_moves 10 = .ok (.goto 9, 3) := by decide +kernel
theorem dX9_moves_13 : decode cX9_moves 13 = .ok (.aload_n 0, 1) := by decide +kernel
theorem dX9_moves_14 : decode cX9_moves 14 = .ok (.getfield 37, 3) := by decide +kernel
theorem dX9_moves_17 : decode cX9_moves 17 = .ok (.iload_n 1, 1) := by decide +kernel
theorem dX9_moves_18 : decode cX9_moves 18 = .ok (.iaload, 1) := by decide +kernel
theorem dX9_moves_19 : decode cX9_moves 19 = .ok (.istore_n 3, 1) := by decide +kernel
theorem dX9_moves_20 : decode cX9_moves 20 = .ok (.iload_n 1, 1) := by decide +kernel
theorem dX9_moves_21 : decode cX9_moves 21 = .ok (.ifCond .ge 12, 3) := by decide +kernel
theorem dX9_moves_24 : decode cX9_moves 24 = .ok (.aload_n 0, 1) := by decide +kernel
theorem dX9_moves_25 : decode cX9_moves 25 = .ok (.getfield 46, 3) := by decide +kernel
theorem dX9_moves_28 : decode cX9_moves 28 = .ok (.iconst 1, 1) := by decide +kernel
theorem dX9_moves_29 : decode cX9_moves 29 = .ok (.iaload, 1) := by decide +kernel
theorem dX9_moves_30 : decode cX9_moves 30 = .ok (.goto 9, 3) := by decide +kernel
theorem dX9_moves_33 : decode cX9_moves 33 = .ok (.aload_n 0, 1) := by decide +kernel
theorem dX9_moves_34 : decode cX9_moves 34 = .ok (.getfield 40, 3) := by decide +kernel
theorem dX9_moves_37 : decode cX9_moves 37 = .ok (.iload_n 1, 1) := by decide +kernel
theorem dX9_moves_38 : decode cX9_moves 38 = .ok (.iaload, 1) := by decide +kernel
theorem dX9_moves_39 : decode cX9_moves 39 = .ok (.istore 4, 2) := by decide +kernel
theorem dX9_moves_41 : decode cX9_moves 41 = .ok (.iload_n 3, 1) := by decide +kernel
theorem dX9_moves_42 : decode cX9_moves 42 = .ok (.aload_n 0, 1) := by decide +kernel
theorem dX9_moves_43 : decode cX9_moves 43 = .ok (.getfield 37, 3) := by decide +kernel
theorem dX9_moves_46 : decode cX9_moves 46 = .ok (.iload_n 2, 1) := by decide +kernel
theorem dX9_moves_47 : decode cX9_moves 47 = .ok (.iaload, 1) := by decide +kernel
theorem dX9_moves_48 : decode cX9_moves 48 = .ok (.invokestatic 263, 3) := by decide +kernel
theorem dX9_moves_51 : decode cX9_moves 51 = .ok (.iload 4, 2) := by decide +kernel
theorem dX9_moves_53 : decode cX9_moves 53 = .ok (.aload_n 0, 1) := by decide +kernel
theorem dX9_moves_54 : decode cX9_moves 54 = .ok (.getfield 40, 3) := by decide +kernel
theorem dX9_moves_57 : decode cX9_moves 57 = .ok (.iload_n 2, 1) := by decide +kernel
theorem dX9_moves_58 : decode cX9_moves 58 = .ok (.iaload, 1) := by decide +kernel
theorem dX9_moves_59 : decode cX9_moves 59 = .ok (.invokestatic 263, 3) := by decide +kernel
theorem dX9_moves_62 : decode cX9_moves 62 = .ok (.iadd, 1) := by decide +kernel
theorem dX9_moves_63 : decode cX9_moves 63 = .ok (.ireturn, 1) := by decide +kernel
set_option maxRecDepth 20000 in
theorem ggX9_leastFrom_X9_has : GoodIn wsX9_leastFrom wsX9_has := goodIn_r _ [7] (by decide +kernel) (by decide +kernel)
set_option maxRecDepth 20000 in
theorem gX9_leastFrom_X9_has : GoodIn wsX9_leastFrom (va_wsS RX9 191 yX9_has wsX9_has) := goodIn_app (goodIn_of _ (by decide +kernel)) ggX9_leastFrom_X9_has
set_option maxRecDepth 20000 in
theorem ggX9_leastFrom_X9_moves : GoodIn wsX9_leastFrom wsX9_moves := goodIn_r _ [11, 12, 13, 14, 15, 16, 6, 17, 18, 19, 20, 21, 22, 23, 24, 25, 26, 27, 28, 29, 30, 31, 32, 33, 34, 35, 36, 37, 38, 39, 40, 41, 42, 43, 44, 45, 46, 47, 48, 49, 50, 51, 52, 53, 54, 55, 56, 57, 58, 59, 60] (by decide +kernel) (by decide +kernel)
set_option maxRecDepth 20000 in
theorem gX9_leastFrom_X9_moves : GoodIn wsX9_leastFrom (wsV RX9 270 RX9 yX9_moves wsX9_moves) := goodIn_app (goodIn_of _ (by decide +kernel)) ggX9_leastFrom_X9_moves
theorem dX9_leastFrom_0 : decode cX9_leastFrom 0 = .ok (.iload_n 1, 1) := by decide +kernel
theorem dX9_leastFrom_1 : decode cX9_leastFrom 1 = .ok (.ifCond .ne 7, 3) := by decide +kernel
theorem dX9_leastFrom_4 : decode cX9_leastFrom 4 = .ok (.iconst 0, 1) := by decide +kernel
theorem dX9_leastFrom_5 : decode cX9_leastFrom 5 = .ok (.goto 6, 3) := by decide +kernel
theorem dX9_leastFrom_8 : decode cX9_leastFrom 8 = .ok (.ldc_w 262, 3) := by decide +kernel
theorem dX9_leastFrom_11 : decode cX9_leastFrom 11 = .ok (.istore_n 3, 1) := by decide +kernel
theorem dX9_leastFrom_12 : decode cX9_leastFrom 12 = .ok (.iconst 0, 1) := by decide +kernel
theorem dX9_leastFrom_13 : decode cX9_leastFrom 13 = .ok (.istore 4, 2) := by decide +kernel
theorem dX9_leastFrom_15 : decode cX9_leastFrom 15 = .ok (.iload 4, 2) := by decide +kernel
theorem dX9_leastFrom_17 : decode cX9_leastFrom 17 = .ok (.aload_n 0, 1) := by decide +kernel
theorem dX9_leastFrom_18 : decode cX9_leastFrom 18 = .ok (.getfield 175, 3) := by decide +kernel
theorem dX9_leastFrom_21 : decode cX9_leastFrom 21 = .ok (.if_icmp .ge 60, 3) := by decide +kernel
theorem dX9_leastFrom_24 : decode cX9_leastFrom 24 = .ok (.iload_n 1, 1) := by decide +kernel
theorem dX9_leastFrom_25 : decode cX9_leastFrom 25 = .ok (.iload 4, 2) := by decide +kernel
theorem dX9_leastFrom_27 : decode cX9_leastFrom 27 = .ok (.invokestatic 191, 3) := by decide +kernel
theorem dX9_leastFrom_30 : decode cX9_leastFrom 30 = .ok (.ifCond .eq 45, 3) := by decide +kernel
theorem dX9_leastFrom_33 : decode cX9_leastFrom 33 = .ok (.aload_n 0, 1) := by decide +kernel
theorem dX9_leastFrom_34 : decode cX9_leastFrom 34 = .ok (.iload_n 2, 1) := by decide +kernel
theorem dX9_leastFrom_35 : decode cX9_leastFrom 35 = .ok (.iload 4, 2) := by decide +kernel
theorem dX9_leastFrom_37 : decode cX9_leastFrom 37 = .ok (.invokevirtual 270, 3) := by decide +kernel
theorem dX9_leastFrom_40 : decode cX9_leastFrom 40 = .ok (.aload_n 0, 1) := by decide +kernel
theorem dX9_leastFrom_41 : decode cX9_leastFrom 41 = .ok (.getfield 55, 3) := by decide +kernel
theorem dX9_leastFrom_44 : decode cX9_leastFrom 44 = .ok (.bipush 8, 2) := by decide +kernel
theorem dX9_leastFrom_46 : decode cX9_leastFrom 46 = .ok (.iload_n 1, 1) := by decide +kernel
theorem dX9_leastFrom_47 : decode cX9_leastFrom 47 = .ok (.iconst 1, 1) := by decide +kernel
theorem dX9_leastFrom_48 : decode cX9_leastFrom 48 = .ok (.iload 4, 2) := by decide +kernel
theorem dX9_leastFrom_50 : decode cX9_leastFrom 50 = .ok (.ishl, 1) := by decide +kernel
theorem dX9_leastFrom_51 : decode cX9_leastFrom 51 = .ok (.iconst (-1), 1) := by decide +kernel
theorem dX9_leastFrom_52 : decode cX9_leastFrom 52 = .ok (.ixor, 1) := by decide +kernel
theorem dX9_leastFrom_53 : decode cX9_leastFrom 53 = .ok (.iand, 1) := by decide +kernel
theorem dX9_leastFrom_54 : decode cX9_leastFrom 54 = .ok (.imul, 1) := by decide +kernel
theorem dX9_leastFrom_55 : decode cX9_leastFrom 55 = .ok (.iload 4, 2) := by decide +kernel
theorem dX9_leastFrom_57 : decode cX9_leastFrom 57 = .ok (.iadd, 1) := by decide +kernel
theorem dX9_leastFrom_58 : decode cX9_leastFrom 58 = .ok (.iaload, 1) := by decide +kernel
theorem dX9_leastFrom_59 : decode cX9_leastFrom 59 = .ok (.iadd, 1) := by decide +kernel
theorem dX9_leastFrom_60 : decode cX9_leastFrom 60 = .ok (.istore 5, 2) := by decide +kernel
theorem dX9_leastFrom_62 : decode cX9_leastFrom 62 = .ok (.iload 5, 2) := by decide +kernel
theorem dX9_leastFrom_64 : decode cX9_leastFrom 64 = .ok (.iload_n 3, 1) := by decide +kernel
theorem dX9_leastFrom_65 : decode cX9_leastFrom 65 = .ok (.if_icmp .ge 8, 3) := by decide +kernel
theorem dX9_leastFrom_68 : decode cX9_leastFrom 68 = .ok (.iload 5, 2) := by decide +kernel
theorem dX9_leastFrom_70 : decode cX9_leastFrom 70 = .ok (.goto 4, 3) := by decide +kernel
theorem dX9_leastFrom_73 : decode cX9_leastFrom 73 = .ok (.iload_n 3, 1) := by decide +kernel
theorem dX9_leastFrom_74 : decode cX9_leastFrom 74 = .ok (.istore_n 3, 1) := by decide +kernel
theorem dX9_leastFrom_75 : decode cX9_leastFrom 75 = .ok (.iinc 4 1, 3) := by decide +kernel
theorem dX9_leastFrom_78 : decode cX9_leastFrom 78 = .ok (.goto (-63), 3) := by decide +kernel
theorem dX9_leastFrom_81 : decode cX9_leastFrom 81 = .ok (.iload_n 3, 1) := by decide +kernel
theorem dX9_leastFrom_82 : decode cX9_leastFrom 82 = .ok (.ireturn, 1) := by decide +kernel
set_option maxRecDepth 20000 in
theorem ggX9_play_X9_in : GoodIn wsX9_play wsX9_in := goodIn_r _ [6] (by decide +kernel) (by decide +kernel)
set_option maxRecDepth 20000 in
theorem gX9_play_X9_in : GoodIn wsX9_play (va_wsS RX9 80 yX9_in wsX9_in) := goodIn_app (goodIn_of _ (by decide +kernel)) ggX9_play_X9_in
set_option maxRecDepth 20000 in
theorem ggX9_play_X9_leastFrom : GoodIn wsX9_play wsX9_leastFrom := goodIn_r _ [10, 11, 1, 2, 12, 13, 5, 14, 15, 16, 17, 18, 19, 20, 21, 22, 23, 24, 25, 26, 27, 28, 29, 30, 31, 32, 33, 34, 35, 36, 37, 38, 39, 40, 41, 42, 43, 44, 45, 46, 47, 48, 49, 50, 51, 52, 53, 54, 55, 56, 57, 58, 59, 60, 61, 62, 63, 64, 65, 66, 67] (by decide +kernel) (by decide +kernel)
set_option maxRecDepth 20000 in
theorem gX9_play_X9_leastFrom : GoodIn wsX9_play (wsV RX9 273 RX9 yX9_leastFrom wsX9_leastFrom) := goodIn_app (goodIn_of _ (by decide +kernel)) ggX9_play_X9_leastFrom
set_option maxRecDepth 20000 in
theorem ggX9_play_X9_has : GoodIn wsX9_play wsX9_has := goodIn_r _ [14] (by decide +kernel) (by decide +kernel)
set_option maxRecDepth 20000 in
theorem gX9_play_X9_has : GoodIn wsX9_play (va_wsS RX9 191 yX9_has wsX9_has) := goodIn_app (goodIn_of _ (by decide +kernel)) ggX9_play_X9_has
set_option maxRecDepth 20000 in
theorem ggX9_play_X9_moves : GoodIn wsX9_play wsX9_moves := goodIn_r _ [18, 19, 20, 21, 22, 23, 5, 24, 25, 26, 27, 28, 29, 30, 31, 32, 33, 34, 35, 36, 37, 38, 39, 40, 41, 42, 43, 44, 45, 46, 47, 48, 49, 50, 51, 52, 53, 54, 55, 56, 57, 58, 59, 60, 61, 62, 63, 64, 65, 66, 67] (by decide +kernel) (by decide +kernel)
set_option maxRecDepth 20000 in
theorem gX9_play_X9_moves : GoodIn wsX9_play (wsV RX9 270 RX9 yX9_moves wsX9_moves) := goodIn_app (goodIn_of _ (by decide +kernel)) ggX9_play_X9_moves
theorem dX9_play_0 : decode cX9_play 0 = .ok (.iload_n 1, 1) := by decide +kernel
theorem dX9_play_1 : decode cX9_play 1 = .ok (.iconst (-1), 1) := by decide +kernel
theorem dX9_play_2 : decode cX9_play 2 = .ok (.bipush 6, 2) := by decide +kernel
theorem dX9_play_4 : decode cX9_play 4 = .ok (.invokestatic 80, 3) := by decide +kernel
theorem dX9_play_7 : decode cX9_play 7 = .ok (.ifCond .ne 5, 3) := by decide +kernel
theorem dX9_play_10 : decode cX9_play 10 = .ok (.iconst (-1), 1) := by decide +kernel
theorem dX9_play_11 : decode cX9_play 11 = .ok (.ireturn, 1) := by decide +kernel
theorem dX9_play_12 : decode cX9_play 12 = .ok (.iconst 1, 1) := by decide +kernel
theorem dX9_play_13 : decode cX9_play 13 = .ok (.aload_n 0, 1) := by decide +kernel
theorem dX9_play_14 : decode cX9_play 14 = .ok (.getfield 175, 3) := by decide +kernel
theorem dX9_play_17 : decode cX9_play 17 = .ok (.ishl, 1) := by decide +kernel
theorem dX9_play_18 : decode cX9_play 18 = .ok (.iconst 1, 1) := by decide +kernel
theorem dX9_play_19 : decode cX9_play 19 = .ok (.isub, 1) := by decide +kernel
theorem dX9_play_20 : decode cX9_play 20 = .ok (.istore_n 2, 1) := by decide +kernel
theorem dX9_play_21 : decode cX9_play 21 = .ok (.iconst 0, 1) := by decide +kernel
theorem dX9_play_22 : decode cX9_play 22 = .ok (.istore_n 3, 1) := by decide +kernel
theorem dX9_play_23 : decode cX9_play 23 = .ok (.iload_n 3, 1) := by decide +kernel
theorem dX9_play_24 : decode cX9_play 24 = .ok (.iload_n 2, 1) := by decide +kernel
theorem dX9_play_25 : decode cX9_play 25 = .ok (.if_icmp .gt 46, 3) := by decide +kernel
theorem dX9_play_28 : decode cX9_play 28 = .ok (.iconst 0, 1) := by decide +kernel
theorem dX9_play_29 : decode cX9_play 29 = .ok (.istore 4, 2) := by decide +kernel
theorem dX9_play_31 : decode cX9_play 31 = .ok (.iload 4, 2) := by decide +kernel
theorem dX9_play_33 : decode cX9_play 33 = .ok (.aload_n 0, 1) := by decide +kernel
theorem dX9_play_34 : decode cX9_play 34 = .ok (.getfield 175, 3) := by decide +kernel
theorem dX9_play_37 : decode cX9_play 37 = .ok (.if_icmp .ge 28, 3) := by decide +kernel
theorem dX9_play_40 : decode cX9_play 40 = .ok (.aload_n 0, 1) := by decide +kernel
theorem dX9_play_41 : decode cX9_play 41 = .ok (.getfield 55, 3) := by decide +kernel
theorem dX9_play_44 : decode cX9_play 44 = .ok (.bipush 8, 2) := by decide +kernel
theorem dX9_play_46 : decode cX9_play 46 = .ok (.iload_n 3, 1) := by decide +kernel
theorem dX9_play_47 : decode cX9_play 47 = .ok (.imul, 1) := by decide +kernel
theorem dX9_play_48 : decode cX9_play 48 = .ok (.iload 4, 2) := by decide +kernel
theorem dX9_play_50 : decode cX9_play 50 = .ok (.iadd, 1) := by decide +kernel
theorem dX9_play_51 : decode cX9_play 51 = .ok (.aload_n 0, 1) := by decide +kernel
theorem dX9_play_52 : decode cX9_play 52 = .ok (.iload_n 3, 1) := by decide +kernel
theorem dX9_play_53 : decode cX9_play 53 = .ok (.iload 4, 2) := by decide +kernel
theorem dX9_play_55 : decode cX9_play 55 = .ok (.invokevirtual 273, 3) := by decide +kernel
theorem dX9_play_58 : decode cX9_play 58 = .ok (.iastore, 1) := by decide +kernel
theorem dX9_play_59 : decode cX9_play 59 = .ok (.iinc 4 1, 3) := by decide +kernel
theorem dX9_play_62 : decode cX9_play 62 = .ok (.goto (-31), 3) := by decide +kernel
theorem dX9_play_65 : decode cX9_play 65 = .ok (.iinc 3 1, 3) := by decide +kernel
theorem dX9_play_68 : decode cX9_play 68 = .ok (.goto (-45), 3) := by decide +kernel
theorem dX9_play_71 : decode cX9_play 71 = .ok (.aload_n 0, 1) := by decide +kernel
theorem dX9_play_72 : decode cX9_play 72 = .ok (.iload_n 2, 1) := by decide +kernel
theorem dX9_play_73 : decode cX9_play 73 = .ok (.iconst (-1), 1) := by decide +kernel
theorem dX9_play_74 : decode cX9_play 74 = .ok (.invokevirtual 273, 3) := by decide +kernel
theorem dX9_play_77 : decode cX9_play 77 = .ok (.istore_n 3, 1) := by decide +kernel
theorem dX9_play_78 : decode cX9_play 78 = .ok (.iload_n 1, 1) := by decide +kernel
theorem dX9_play_79 : decode cX9_play 79 = .ok (.ifCond .ge 5, 3) := by decide +kernel
theorem dX9_play_82 : decode cX9_play 82 = .ok (.iload_n 3, 1) := by decide +kernel
theorem dX9_play_83 : decode cX9_play 83 = .ok (.ireturn, 1) := by decide +kernel
theorem dX9_play_84 : decode cX9_play 84 = .ok (.iload_n 1, 1) := by decide +kernel
theorem dX9_play_85 : decode cX9_play 85 = .ok (.aload_n 0, 1) := by decide +kernel
theorem dX9_play_86 : decode cX9_play 86 = .ok (.getfield 175, 3) := by decide +kernel
theorem dX9_play_89 : decode cX9_play 89 = .ok (.if_icmp .lt 6, 3) := by decide +kernel
theorem dX9_play_92 : decode cX9_play 92 = .ok (.bipush (-9), 2) := by decide +kernel
theorem dX9_play_94 : decode cX9_play 94 = .ok (.ireturn, 1) := by decide +kernel
theorem dX9_play_95 : decode cX9_play 95 = .ok (.iload_n 2, 1) := by decide +kernel
theorem dX9_play_96 : decode cX9_play 96 = .ok (.istore 4, 2) := by decide +kernel
theorem dX9_play_98 : decode cX9_play 98 = .ok (.iconst (-1), 1) := by decide +kernel
theorem dX9_play_99 : decode cX9_play 99 = .ok (.istore 5, 2) := by decide +kernel
theorem dX9_play_101 : decode cX9_play 101 = .ok (.iconst 0, 1) := by decide +kernel
theorem dX9_play_102 : decode cX9_play 102 = .ok (.istore 6, 2) := by decide +kernel
theorem dX9_play_104 : decode cX9_play 104 = .ok (.iload 6, 2) := by decide +kernel
theorem dX9_play_106 : decode cX9_play 106 = .ok (.iload_n 1, 1) := by decide +kernel
theorem dX9_play_107 : decode cX9_play 107 = .ok (.if_icmp .gt 122, 3) := by decide +kernel
theorem dX9_play_110 : decode cX9_play 110 = .ok (.bipush (-9), 2) := by decide +kernel
theorem dX9_play_112 : decode cX9_play 112 = .ok (.istore 7, 2) := by decide +kernel
theorem dX9_play_114 : decode cX9_play 114 = .ok (.aload_n 0, 1) := by decide +kernel
theorem dX9_play_115 : decode cX9_play 115 = .ok (.iload 4, 2) := by decide +kernel
theorem dX9_play_117 : decode cX9_play 117 = .ok (.iload 5, 2) := by decide +kernel
theorem dX9_play_119 : decode cX9_play 119 = .ok (.invokevirtual 273, 3) := by decide +kernel
theorem dX9_play_122 : decode cX9_play 122 = .ok (.istore 8, 2) := by decide +kernel
theorem dX9_play_124 : decode cX9_play 124 = .ok (.aload_n 0, 1) := by decide +kernel
theorem dX9_play_125 : decode cX9_play 125 = .ok (.getfield 175, 3) := by decide +kernel
theorem dX9_play_128 : decode cX9_play 128 = .ok (.iconst 1, 1) := by decide +kernel
theorem dX9_play_129 : decode cX9_play 129 = .ok (.isub, 1) := by decide +kernel
theorem dX9_play_130 : decode cX9_play 130 = .ok (.istore 9, 2) := by decide +kernel
theorem dX9_play_132 : decode cX9_play 132 = .ok (.iload 9, 2) := by decide +kernel
theorem dX9_play_134 : decode cX9_play 134 = .ok (.ifCond .lt 74, 3) := by decide +kernel
theorem dX9_play_137 : decode cX9_play 137 = .ok (.iload 4, 2) := by decide +kernel
theorem dX9_play_139 : decode cX9_play 139 = .ok (.iload 9, 2) := by decide +kernel
theorem dX9_play_141 : decode cX9_play 141 = .ok (.invokestatic 191, 3) := by decide +kernel
theorem dX9_play_144 : decode cX9_play 144 = .ok (.ifCond .eq 41, 3) := by decide +kernel
theorem dX9_play_147 : decode cX9_play 147 = .ok (.aload_n 0, 1) := by decide +kernel
theorem dX9_play_148 : decode cX9_play 148 = .ok (.iload 5, 2) := by decide +kernel
theorem dX9_play_150 : decode cX9_play 150 = .ok (.iload 9, 2) := by decide +kernel
theorem dX9_play_152 : decode cX9_play 152 = .ok (.invokevirtual 270, 3) := by decide +kernel
theorem dX9_play_155 : decode cX9_play 155 = .ok (.aload_n 0, 1) := by decide +kernel
theorem dX9_play_156 : decode cX9_play 156 = .ok (.getfield 55, 3) := by decide +kernel
theorem dX9_play_159 : decode cX9_play 159 = .ok (.bipush 8, 2) := by decide +kernel
theorem dX9_play_161 : decode cX9_play 161 = .ok (.iload 4, 2) := by decide +kernel
theorem dX9_play_163 : decode cX9_play 163 = .ok (.iconst 1, 1) := by decide +kernel
theorem dX9_play_164 : decode cX9_play 164 = .ok (.iload 9, 2) := by decide +kernel
theorem dX9_play_166 : decode cX9_play 166 = .ok (.ishl, 1) := by decide +kernel
theorem dX9_play_167 : decode cX9_play 167 = .ok (.iconst (-1), 1) := by decide +kernel
theorem dX9_play_168 : decode cX9_play 168 = .ok (.ixor, 1) := by decide +kernel
theorem dX9_play_169 : decode cX9_play 169 = .ok (.iand, 1) := by decide +kernel
theorem dX9_play_170 : decode cX9_play 170 = .ok (.imul, 1) := by decide +kernel
theorem dX9_play_171 : decode cX9_play 171 = .ok (.iload 9, 2) := by decide +kernel
theorem dX9_play_173 : decode cX9_play 173 = .ok (.iadd, 1) := by decide +kernel
theorem dX9_play_174 : decode cX9_play 174 = .ok (.iaload, 1) := by decide +kernel
theorem dX9_play_175 : decode cX9_play 175 = .ok (.iadd, 1) := by decide +kernel
theorem dX9_play_176 : decode cX9_play 176 = .ok (.iload 8, 2) := by decide +kernel
theorem dX9_play_178 : decode cX9_play 178 = .ok (.if_icmp .ne 7, 3) := by decide +kernel
theorem dX9_play_181 : decode cX9_play 181 = .ok (.iconst 1, 1) := by decide +kernel
theorem dX9_play_182 : decode cX9_play 182 = .ok (.goto 4, 3) := by decide +kernel
theorem dX9_play_185 : decode cX9_play 185 = .ok (.iconst 0, 1) := by decide +kernel
theorem dX9_play_186 : decode cX9_play 186 = .ok (.istore 10, 2) := by decide +kernel
theorem dX9_play_188 : decode cX9_play 188 = .ok (.iload 10, 2) := by decide +kernel
theorem dX9_play_190 : decode cX9_play 190 = .ok (.ifCond .eq 8, 3) := by decide +kernel
theorem dX9_play_193 : decode cX9_play 193 = .ok (.iload 9, 2) := by decide +kernel
theorem dX9_play_195 : decode cX9_play 195 = .ok (.goto 5, 3) := by decide +kernel
theorem dX9_play_198 : decode cX9_play 198 = .ok (.iload 7, 2) := by decide +kernel
theorem dX9_play_200 : decode cX9_play 200 = .ok (.istore 7, 2) := by decide +kernel
theorem dX9_play_202 : decode cX9_play 202 = .ok (.iinc 9 (-1), 3) := by decide +kernel
theorem dX9_play_205 : decode cX9_play 205 = .ok (.goto (-73), 3) := by decide +kernel
theorem dX9_play_208 : decode cX9_play 208 = .ok (.iload 4, 2) := by decide +kernel
theorem dX9_play_210 : decode cX9_play 210 = .ok (.iconst 1, 1) := by decide +kernel
theorem dX9_play_211 : decode cX9_play 211 = .ok (.iload 7, 2) := by decide +kernel
theorem dX9_play_213 : decode cX9_play 213 = .ok (.ishl, 1) := by decide +kernel
theorem dX9_play_214 : decode cX9_play 214 = .ok (.iconst (-1), 1) := by decide +kernel
theorem dX9_play_215 : decode cX9_play 215 = .ok (.ixor, 1) := by decide +kernel
theorem dX9_play_216 : decode cX9_play 216 = .ok (.iand, 1) := by decide +kernel
theorem dX9_play_217 : decode cX9_play 217 = .ok (.istore 4, 2) := by decide +kernel
theorem dX9_play_219 : decode cX9_play 219 = .ok (.iload 7, 2) := by decide +kernel
theorem dX9_play_221 : decode cX9_play 221 = .ok (.istore 5, 2) := by decide +kernel
theorem dX9_play_223 : decode cX9_play 223 = .ok (.iinc 6 1, 3) := by decide +kernel
theorem dX9_play_226 : decode cX9_play 226 = .ok (.goto (-122), 3) := by decide +kernel
theorem dX9_play_229 : decode cX9_play 229 = .ok (.iload 5, 2) := by decide +kernel
theorem dX9_play_231 : decode cX9_play 231 = .ok (.ireturn, 1) := by decide +kernel
theorem dX9_common_0 : decode cX9_common 0 = .ok (.iload_n 0, 1) := by decide +kernel
theorem dX9_common_1 : decode cX9_common 1 = .ok (.istore_n 2, 1) := by decide +kernel
theorem dX9_common_2 : decode cX9_common 2 = .ok (.iload_n 1, 1) := by decide +kernel
theorem dX9_common_3 : decode cX9_common 3 = .ok (.istore_n 3, 1) := by decide +kernel
theorem dX9_common_4 : decode cX9_common 4 = .ok (.iload_n 3, 1) := by decide +kernel
theorem dX9_common_5 : decode cX9_common 5 = .ok (.ifCond .eq 16, 3) := by decide +kernel
theorem dX9_common_8 : decode cX9_common 8 = .ok (.iload_n 2, 1) := by decide +kernel
theorem dX9_common_9 : decode cX9_common 9 = .ok (.iload_n 3, 1) := by decide +kernel
theorem dX9_common_10 : decode cX9_common 10 = .ok (.irem, 1) := by decide +kernel
theorem dX9_common_11 : decode cX9_common 11 = .ok (.istore 4, 2) := by decide +kernel
theorem dX9_common_13 : decode cX9_common 13 = .ok (.iload_n 3, 1) := by decide +kernel
theorem dX9_common_14 : decode cX9_common 14 = .ok (.istore_n 2, 1) := by decide +kernel
theorem dX9_common_15 : decode cX9_common 15 = .ok (.iload 4, 2) := by decide +kernel
theorem dX9_common_17 : decode cX9_common 17 = .ok (.istore_n 3, 1) := by decide +kernel
theorem dX9_common_18 : decode cX9_common 18 = .ok (.goto (-14), 3) := by decide +kernel
theorem dX9_common_21 : decode cX9_common 21 = .ok (.iload_n 2, 1) := by decide +kernel
theorem dX9_common_22 : decode cX9_common 22 = .ok (.ireturn, 1) := by decide +kernel
set_option maxRecDepth 20000 in
theorem ggX9_odds_X9_isLimb : GoodIn wsX9_odds wsX9_isLimb := goodIn_r _ [8, 9, 10, 11, 7, 12, 39, 40, 41, 42, 43, 44, 45, 46, 47, 48, 49, 50, 51, 52, 53, 54, 55, 56, 57, 58, 59, 60, 61, 62, 63, 64, 65, 66, 67, 68, 69, 70, 71, 72, 73, 74, 75, 76, 77, 78, 79, 80, 81] (by decide +kernel) (by decide +kernel)
set_option maxRecDepth 20000 in
theorem gX9_odds_X9_isLimb : GoodIn wsX9_odds (wsV RX9 208 RX9 yX9_isLimb wsX9_isLimb) := goodIn_app (goodIn_of _ (by decide +kernel)) ggX9_odds_X9_isLimb
set_option maxRecDepth 20000 in
theorem ggX9_odds_X9_in : GoodIn wsX9_odds wsX9_in := goodIn_r _ [12] (by decide +kernel) (by decide +kernel)
set_option maxRecDepth 20000 in
theorem gX9_odds_X9_in : GoodIn wsX9_odds (va_wsS RX9 80 yX9_in wsX9_in) := goodIn_app (goodIn_of _ (by decide +kernel)) ggX9_odds_X9_in
set_option maxRecDepth 20000 in
theorem ggX9_odds_X9_allStrings : GoodIn wsX9_odds wsX9_allStrings := goodIn_r _ [16, 2, 39, 40, 41, 42, 43, 44, 45, 46, 47, 48, 49, 50, 51, 52, 53, 54, 55, 56, 57, 58, 59, 60, 61, 62, 63, 64, 65, 66, 67, 68, 69, 70, 71, 72, 73, 74, 75, 76, 77, 78, 79, 80, 81] (by decide +kernel) (by decide +kernel)
set_option maxRecDepth 20000 in
theorem gX9_odds_X9_allStrings : GoodIn wsX9_odds (wsV RX9 241 RX9 yX9_allStrings wsX9_allStrings) := goodIn_app (goodIn_of _ (by decide +kernel)) ggX9_odds_X9_allStrings
set_option maxRecDepth 20000 in
theorem ggX9_odds_X9_has : GoodIn wsX9_odds wsX9_has := goodIn_r _ [19] (by decide +kernel) (by decide +kernel)
set_option maxRecDepth 20000 in
theorem gX9_odds_X9_has : GoodIn wsX9_odds (va_wsS RX9 191 yX9_has wsX9_has) := goodIn_app (goodIn_of _ (by decide +kernel)) ggX9_odds_X9_has
set_option maxRecDepth 20000 in
theorem ggX9_odds_X9_copyNow : GoodIn wsX9_odds wsX9_copyNow := goodIn_r _ [23, 3, 1, 39, 40, 41, 42, 43, 44, 45, 46, 47, 48, 49, 50, 51, 52, 53, 54, 55, 56, 57, 58, 59, 60, 61, 62, 63, 64, 65, 66, 67, 68, 69, 70, 71, 72, 73, 74, 75, 76, 77, 78, 79, 80, 81] (by decide +kernel) (by decide +kernel)
set_option maxRecDepth 20000 in
theorem gX9_odds_X9_copyNow : GoodIn wsX9_odds (wsV RX9 244 RX9 yX9_copyNow wsX9_copyNow) := goodIn_app (goodIn_of _ (by decide +kernel)) ggX9_odds_X9_copyNow
set_option maxRecDepth 20000 in
theorem ggX9_odds_X9_height : GoodIn wsX9_odds wsX9_height := goodIn_r _ [27, 2, 17, 18, 7, 19, 28, 29, 30, 31, 32, 33, 34, 35, 39, 40, 41, 42, 43, 44, 45, 46, 47, 48, 49, 50, 51, 52, 53, 54, 55, 56, 57, 58, 59, 60, 61, 62, 63, 64, 65, 66, 67, 68, 69, 70, 71, 72, 73, 74, 75, 76, 77, 78, 79, 80, 81] (by decide +kernel) (by decide +kernel)
set_option maxRecDepth 20000 in
theorem gX9_odds_X9_height : GoodIn wsX9_odds (wsV RX9 199 RX9 yX9_height wsX9_height) := goodIn_app (goodIn_of _ (by decide +kernel)) ggX9_odds_X9_height
set_option maxRecDepth 20000 in
theorem ggX9_odds_X9_common : GoodIn wsX9_odds wsX9_common := goodIn_r _ [38] (by decide +kernel) (by decide +kernel)
set_option maxRecDepth 20000 in
theorem gX9_odds_X9_common : GoodIn wsX9_odds (va_wsS RX9 276 yX9_common wsX9_common) := goodIn_app (goodIn_of _ (by decide +kernel)) ggX9_odds_X9_common
theorem dX9_odds_0 : decode cX9_odds 0 = .ok (.aload_n 0, 1) := by decide +kernel
theorem dX9_odds_1 : decode cX9_odds 1 = .ok (.iload_n 1, 1) := by decide +kernel
theorem dX9_odds_2 : decode cX9_odds 2 = .ok (.invokevirtual 208, 3) := by decide +kernel
theorem dX9_odds_5 : decode cX9_odds 5 = .ok (.ifCond .eq 22, 3) := by decide +kernel
theorem dX9_odds_8 : decode cX9_odds 8 = .ok (.iload_n 2, 1) := by decide +kernel
theorem dX9_odds_9 : decode cX9_odds 9 = .ok (.iconst 0, 1) := by decide +kernel
theorem dX9_odds_10 : decode cX9_odds 10 = .ok (.bipush 10, 2) := by decide +kernel
theorem dX9_odds_12 : decode cX9_odds 12 = .ok (.invokestatic 80, 3) := by decide +kernel
theorem dX9_odds_15 : decode cX9_odds 15 = .ok (.ifCond .eq 12, 3) := by decide +kernel
theorem dX9_odds_18 : decode cX9_odds 18 = .ok (.iload_n 3, 1) := by decide +kernel
theorem dX9_odds_19 : decode cX9_odds 19 = .ok (.iconst 0, 1) := by decide +kernel
theorem dX9_odds_20 : decode cX9_odds 20 = .ok (.iconst 1, 1) := by decide +kernel
theorem dX9_odds_21 : decode cX9_odds 21 = .ok (.invokestatic 80, 3) := by decide +kernel
theorem dX9_odds_24 : decode cX9_odds 24 = .ok (.ifCond .ne 5, 3) := by decide +kernel
theorem dX9_odds_27 : decode cX9_odds 27 = .ok (.iconst (-1), 1) := by decide +kernel
theorem dX9_odds_28 : decode cX9_odds 28 = .ok (.ireturn, 1) := by decide +kernel
theorem dX9_odds_29 : decode cX9_odds 29 = .ok (.aload_n 0, 1) := by decide +kernel
theorem dX9_odds_30 : decode cX9_odds 30 = .ok (.invokevirtual 241, 3) := by decide +kernel
theorem dX9_odds_33 : decode cX9_odds 33 = .ok (.aload_n 0, 1) := by decide +kernel
theorem dX9_odds_34 : decode cX9_odds 34 = .ok (.getfield 46, 3) := by decide +kernel
theorem dX9_odds_37 : decode cX9_odds 37 = .ok (.iconst 2, 1) := by decide +kernel
theorem dX9_odds_38 : decode cX9_odds 38 = .ok (.iaload, 1) := by decide +kernel
theorem dX9_odds_39 : decode cX9_odds 39 = .ok (.iconst (-1), 1) := by decide +kernel
theorem dX9_odds_40 : decode cX9_odds 40 = .ok (.ixor, 1) := by decide +kernel
theorem dX9_odds_41 : decode cX9_odds 41 = .ok (.iand, 1) := by decide +kernel
theorem dX9_odds_42 : decode cX9_odds 42 = .ok (.istore 4, 2) := by decide +kernel
theorem dX9_odds_44 : decode cX9_odds 44 = .ok (.iconst 0, 1) := by decide +kernel
theorem dX9_odds_45 : decode cX9_odds 45 = .ok (.istore 5, 2) := by decide +kernel
theorem dX9_odds_47 : decode cX9_odds 47 = .ok (.iconst 1, 1) := by decide +kernel
theorem dX9_odds_48 : decode cX9_odds 48 = .ok (.istore 6, 2) := by decide +kernel
theorem dX9_odds_50 : decode cX9_odds 50 = .ok (.iconst 0, 1) := by decide +kernel
theorem dX9_odds_51 : decode cX9_odds 51 = .ok (.istore 7, 2) := by decide +kernel
theorem dX9_odds_53 : decode cX9_odds 53 = .ok (.iload 7, 2) := by decide +kernel
theorem dX9_odds_55 : decode cX9_odds 55 = .ok (.aload_n 0, 1) := by decide +kernel
theorem dX9_odds_56 : decode cX9_odds 56 = .ok (.getfield 172, 3) := by decide +kernel
theorem dX9_odds_59 : decode cX9_odds 59 = .ok (.if_icmp .ge 30, 3) := by decide +kernel
theorem dX9_odds_62 : decode cX9_odds 62 = .ok (.iload 6, 2) := by decide +kernel
theorem dX9_odds_64 : decode cX9_odds 64 = .ok (.iload 4, 2) := by decide +kernel
theorem dX9_odds_66 : decode cX9_odds 66 = .ok (.iload 7, 2) := by decide +kernel
theorem dX9_odds_68 : decode cX9_odds 68 = .ok (.invokestatic 191, 3) := by decide +kernel
theorem dX9_odds_71 : decode cX9_odds 71 = .ok (.ifCond .eq 8, 3) := by decide +kernel
theorem dX9_odds_74 : decode cX9_odds 74 = .ok (.bipush 10, 2) := by decide +kernel
theorem dX9_odds_76 : decode cX9_odds 76 = .ok (.goto 4, 3) := by decide +kernel
theorem dX9_odds_79 : decode cX9_odds 79 = .ok (.iconst 1, 1) := by decide +kernel
theorem dX9_odds_80 : decode cX9_odds 80 = .ok (.imul, 1) := by decide +kernel
theorem dX9_odds_81 : decode cX9_odds 81 = .ok (.istore 6, 2) := by decide +kernel
theorem dX9_odds_83 : decode cX9_odds 83 = .ok (.iinc 7 1, 3) := by decide +kernel
theorem dX9_odds_86 : decode cX9_odds 86 = .ok (.goto (-33), 3) := by decide +kernel
theorem dX9_odds_89 : decode cX9_odds 89 = .ok (.aload_n 0, 1) := by decide +kernel
theorem dX9_odds_90 : decode cX9_odds 90 = .ok (.invokevirtual 244, 3) := by decide +kernel
theorem dX9_odds_93 : decode cX9_odds 93 = .ok (.iconst 0, 1) := by decide +kernel
theorem dX9_odds_94 : decode cX9_odds 94 = .ok (.istore 7, 2) := by decide +kernel
theorem dX9_odds_96 : decode cX9_odds 96 = .ok (.iload 7, 2) := by decide +kernel
theorem dX9_odds_98 : decode cX9_odds 98 = .ok (.iload 4, 2) := by decide +kernel
theorem dX9_odds_100 : decode cX9_odds 100 = .ok (.if_icmp .gt 115, 3) := by decide +kernel
theorem dX9_odds_103 : decode cX9_odds 103 = .ok (.iload 7, 2) := by decide +kernel
theorem dX9_odds_105 : decode cX9_odds 105 = .ok (.iload 4, 2) := by decide +kernel
theorem dX9_odds_107 : decode cX9_odds 107 = .ok (.iconst (-1), 1) := by decide +kernel
theorem dX9_odds_108 : decode cX9_odds 108 = .ok (.ixor, 1) := by decide +kernel
theorem dX9_odds_109 : decode cX9_odds 109 = .ok (.iand, 1) := by decide +kernel
theorem dX9_odds_110 : decode cX9_odds 110 = .ok (.ifCond .ne 99, 3) := by decide +kernel
theorem dX9_odds_113 : decode cX9_odds 113 = .ok (.iconst 1, 1) := by decide +kernel
theorem dX9_odds_114 : decode cX9_odds 114 = .ok (.istore 8, 2) := by decide +kernel
theorem dX9_odds_116 : decode cX9_odds 116 = .ok (.iconst 0, 1) := by decide +kernel
theorem dX9_odds_117 : decode cX9_odds 117 = .ok (.istore 9, 2) := by decide +kernel
theorem dX9_odds_119 : decode cX9_odds 119 = .ok (.iload 9, 2) := by decide +kernel
theorem dX9_odds_121 : decode cX9_odds 121 = .ok (.aload_n 0, 1) := by decide +kernel
theorem dX9_odds_122 : decode cX9_odds 122 = .ok (.getfield 172, 3) := by decide +kernel
theorem dX9_odds_125 : decode cX9_odds 125 = .ok (.if_icmp .ge 46, 3) := by decide +kernel
theorem dX9_odds_128 : decode cX9_odds 128 = .ok (.iload 8, 2) := by decide +kernel
theorem dX9_odds_130 : decode cX9_odds 130 = .ok (.iload 4, 2) := by decide +kernel
theorem dX9_odds_132 : decode cX9_odds 132 = .ok (.iload 9, 2) := by decide +kernel
theorem dX9_odds_134 : decode cX9_odds 134 = .ok (.invokestatic 191, 3) := by decide +kernel
theorem dX9_odds_137 : decode cX9_odds 137 = .ok (.ifCond .ne 7, 3) := by decide +kernel
theorem dX9_odds_140 : decode cX9_odds 140 = .ok (.iconst 1, 1) := by decide +kernel
theorem dX9_odds_141 : decode cX9_odds 141 = .ok (.goto 21, 3) := by decide +kernel
theorem dX9_odds_144 : decode cX9_odds 144 = .ok (.iload 7, 2) := by decide +kernel
theorem dX9_odds_146 : decode cX9_odds 146 = .ok (.iload 9, 2) := by decide +kernel
theorem dX9_odds_148 : decode cX9_odds 148 = .ok (.invokestatic 191, 3) := by decide +kernel
theorem dX9_odds_151 : decode cX9_odds 151 = .ok (.ifCond .eq 7, 3) := by decide +kernel
theorem dX9_odds_154 : decode cX9_odds 154 = .ok (.iload_n 2, 1) := by decide +kernel
theorem dX9_odds_155 : decode cX9_odds 155 = .ok (.goto 7, 3) := by decide +kernel
theorem dX9_odds_158 : decode cX9_odds 158 = .ok (.bipush 10, 2) := by decide +kernel
theorem dX9_odds_160 : decode cX9_odds 160 = .ok (.iload_n 2, 1) := by decide +kernel
theorem dX9_odds_161 : decode cX9_odds 161 = .ok (.isub, 1) := by decide +kernel
theorem dX9_odds_162 : decode cX9_odds 162 = .ok (.imul, 1) := by decide +kernel
theorem dX9_odds_163 : decode cX9_odds 163 = .ok (.istore 8, 2) := by decide +kernel
theorem dX9_odds_165 : decode cX9_odds 165 = .ok (.iinc 9 1, 3) := by decide +kernel
theorem dX9_odds_168 : decode cX9_odds 168 = .ok (.goto (-49), 3) := by decide +kernel
theorem dX9_odds_171 : decode cX9_odds 171 = .ok (.aload_n 0, 1) := by decide +kernel
theorem dX9_odds_172 : decode cX9_odds 172 = .ok (.getfield 49, 3) := by decide +kernel
theorem dX9_odds_175 : decode cX9_odds 175 = .ok (.iconst 2, 1) := by decide +kernel
theorem dX9_odds_176 : decode cX9_odds 176 = .ok (.aload_n 0, 1) := by decide +kernel
theorem dX9_odds_177 : decode cX9_odds 177 = .ok (.getfield 46, 3) := by decide +kernel
theorem dX9_odds_180 : decode cX9_odds 180 = .ok (.iconst 2, 1) := by decide +kernel
theorem dX9_odds_181 : decode cX9_odds 181 = .ok (.iaload, 1) := by decide +kernel
theorem dX9_odds_182 : decode cX9_odds 182 = .ok (.iload 7, 2) := by decide +kernel
theorem dX9_odds_184 : decode cX9_odds 184 = .ok (.ior, 1) := by decide +kernel
theorem dX9_odds_185 : decode cX9_odds 185 = .ok (.iastore, 1) := by decide +kernel
theorem dX9_odds_186 : decode cX9_odds 186 = .ok (.iload 5, 2) := by decide +kernel
theorem dX9_odds_188 : decode cX9_odds 188 = .ok (.aload_n 0, 1) := by decide +kernel
theorem dX9_odds_189 : decode cX9_odds 189 = .ok (.aload_n 0, 1) := by decide +kernel
theorem dX9_odds_190 : decode cX9_odds 190 = .ok (.getfield 49, 3) := by decide +kernel
theorem dX9_odds_193 : decode cX9_odds 193 = .ok (.iload_n 1, 1) := by decide +kernel
theorem dX9_odds_194 : decode cX9_odds 194 = .ok (.invokevirtual 199, 3) := by decide +kernel
theorem dX9_odds_197 : decode cX9_odds 197 = .ok (.ifCond .ne 8, 3) := by decide +kernel
theorem dX9_odds_200 : decode cX9_odds 200 = .ok (.iload 8, 2) := by decide +kernel
theorem dX9_odds_202 : decode cX9_odds 202 = .ok (.goto 4, 3) := by decide +kernel
theorem dX9_odds_205 : decode cX9_odds 205 = .ok (.iconst 0, 1) := by decide +kernel
theorem dX9_odds_206 : decode cX9_odds 206 = .ok (.iadd, 1) := by decide +kernel
theorem dX9_odds_207 : decode cX9_odds 207 = .ok (.istore 5, 2) := by decide +kernel
theorem dX9_odds_209 : decode cX9_odds 209 = .ok (.iinc 7 1, 3) := by decide +kernel
theorem dX9_odds_212 : decode cX9_odds 212 = .ok (.goto (-116), 3) := by decide +kernel
theorem dX9_odds_215 : decode cX9_odds 215 = .ok (.iload 5, 2) := by decide +kernel
theorem dX9_odds_217 : decode cX9_odds 217 = .ok (.iload 6, 2) := by decide +kernel
theorem dX9_odds_219 : decode cX9_odds 219 = .ok (.invokestatic 276, 3) := by decide +kernel
theorem dX9_odds_222 : decode cX9_odds 222 = .ok (.istore 7, 2) := by decide +kernel
theorem dX9_odds_224 : decode cX9_odds 224 = .ok (.iload_n 3, 1) := by decide +kernel
theorem dX9_odds_225 : decode cX9_odds 225 = .ok (.ifCond .ne 11, 3) := by decide +kernel
theorem dX9_odds_228 : decode cX9_odds 228 = .ok (.iload 5, 2) := by decide +kernel
theorem dX9_odds_230 : decode cX9_odds 230 = .ok (.iload 7, 2) := by decide +kernel
theorem dX9_odds_232 : decode cX9_odds 232 = .ok (.idiv, 1) := by decide +kernel
theorem dX9_odds_233 : decode cX9_odds 233 = .ok (.goto 8, 3) := by decide +kernel
theorem dX9_odds_236 : decode cX9_odds 236 = .ok (.iload 6, 2) := by decide +kernel
theorem dX9_odds_238 : decode cX9_odds 238 = .ok (.iload 7, 2) := by decide +kernel
theorem dX9_odds_240 : decode cX9_odds 240 = .ok (.idiv, 1) := by decide +kernel
theorem dX9_odds_241 : decode cX9_odds 241 = .ok (.ireturn, 1) := by decide +kernel
set_option maxRecDepth 20000 in
theorem ggX9_saw_X9_isLimb : GoodIn wsX9_saw wsX9_isLimb := goodIn_r _ [8, 9, 10, 11, 7, 12, 13, 14, 15, 16, 17, 18, 19, 20, 21, 22, 23, 24, 25, 26, 27, 28, 29, 30, 31, 32, 33, 34, 35, 36, 37, 38, 39, 40, 41, 42, 43, 44, 45, 46, 47, 48, 49, 50, 51, 52, 53, 54, 55] (by decide +kernel) (by decide +kernel)
set_option maxRecDepth 20000 in
theorem gX9_saw_X9_isLimb : GoodIn wsX9_saw (wsV RX9 208 RX9 yX9_isLimb wsX9_isLimb) := goodIn_app (goodIn_of _ (by decide +kernel)) ggX9_saw_X9_isLimb
set_option maxRecDepth 20000 in
theorem ggX9_saw_X9_in : GoodIn wsX9_saw wsX9_in := goodIn_r _ [12] (by decide +kernel) (by decide +kernel)
set_option maxRecDepth 20000 in
theorem gX9_saw_X9_in : GoodIn wsX9_saw (va_wsS RX9 80 yX9_in wsX9_in) := goodIn_app (goodIn_of _ (by decide +kernel)) ggX9_saw_X9_in
theorem dX9_saw_0 : decode cX9_saw 0 = .ok (.aload_n 0, 1) := by decide +kernel
theorem dX9_saw_1 : decode cX9_saw 1 = .ok (.iload_n 1, 1) := by decide +kernel
theorem dX9_saw_2 : decode cX9_saw 2 = .ok (.invokevirtual 208, 3) := by decide +kernel
theorem dX9_saw_5 : decode cX9_saw 5 = .ok (.ifCond .eq 13, 3) := by decide +kernel
theorem dX9_saw_8 : decode cX9_saw 8 = .ok (.iload_n 2, 1) := by decide +kernel
theorem dX9_saw_9 : decode cX9_saw 9 = .ok (.iconst 0, 1) := by decide +kernel
theorem dX9_saw_10 : decode cX9_saw 10 = .ok (.bipush 49, 2) := by decide +kernel
theorem dX9_saw_12 : decode cX9_saw 12 = .ok (.invokestatic 80, 3) := by decide +kernel
theorem dX9_saw_15 : decode cX9_saw 15 = .ok (.ifCond .ne 5, 3) := by decide +kernel
theorem dX9_saw_18 : decode cX9_saw 18 = .ok (.iconst (-1), 1) := by decide +kernel
theorem dX9_saw_19 : decode cX9_saw 19 = .ok (.ireturn, 1) := by decide +kernel
theorem dX9_saw_20 : decode cX9_saw 20 = .ok (.aload_n 0, 1) := by decide +kernel
theorem dX9_saw_21 : decode cX9_saw 21 = .ok (.getfield 184, 3) := by decide +kernel
theorem dX9_saw_24 : decode cX9_saw 24 = .ok (.bipush 6, 2) := by decide +kernel
theorem dX9_saw_26 : decode cX9_saw 26 = .ok (.if_icmp .ne 6, 3) := by decide +kernel
theorem dX9_saw_29 : decode cX9_saw 29 = .ok (.bipush (-3), 2) := by decide +kernel
theorem dX9_saw_31 : decode cX9_saw 31 = .ok (.ireturn, 1) := by decide +kernel
theorem dX9_saw_32 : decode cX9_saw 32 = .ok (.aload_n 0, 1) := by decide +kernel
theorem dX9_saw_33 : decode cX9_saw 33 = .ok (.getfield 58, 3) := by decide +kernel
theorem dX9_saw_36 : decode cX9_saw 36 = .ok (.aload_n 0, 1) := by decide +kernel
theorem dX9_saw_37 : decode cX9_saw 37 = .ok (.getfield 184, 3) := by decide +kernel
theorem dX9_saw_40 : decode cX9_saw 40 = .ok (.iload_n 1, 1) := by decide +kernel
theorem dX9_saw_41 : decode cX9_saw 41 = .ok (.iastore, 1) := by decide +kernel
theorem dX9_saw_42 : decode cX9_saw 42 = .ok (.aload_n 0, 1) := by decide +kernel
theorem dX9_saw_43 : decode cX9_saw 43 = .ok (.getfield 61, 3) := by decide +kernel
theorem dX9_saw_46 : decode cX9_saw 46 = .ok (.aload_n 0, 1) := by decide +kernel
theorem dX9_saw_47 : decode cX9_saw 47 = .ok (.getfield 184, 3) := by decide +kernel
theorem dX9_saw_50 : decode cX9_saw 50 = .ok (.iload_n 2, 1) := by decide +kernel
theorem dX9_saw_51 : decode cX9_saw 51 = .ok (.iastore, 1) := by decide +kernel
theorem dX9_saw_52 : decode cX9_saw 52 = .ok (.aload_n 0, 1) := by decide +kernel
theorem dX9_saw_53 : decode cX9_saw 53 = .ok (.dup, 1) := by decide +kernel
theorem dX9_saw_54 : decode cX9_saw 54 = .ok (.getfield 184, 3) := by decide +kernel
theorem dX9_saw_57 : decode cX9_saw 57 = .ok (.iconst 1, 1) := by decide +kernel
theorem dX9_saw_58 : decode cX9_saw 58 = .ok (.iadd, 1) := by decide +kernel
theorem dX9_saw_59 : decode cX9_saw 59 = .ok (.putfield 184, 3) := by decide +kernel
theorem dX9_saw_62 : decode cX9_saw 62 = .ok (.aload_n 0, 1) := by decide +kernel
theorem dX9_saw_63 : decode cX9_saw 63 = .ok (.getfield 184, 3) := by decide +kernel
theorem dX9_saw_66 : decode cX9_saw 66 = .ok (.ireturn, 1) := by decide +kernel
theorem dX9_forget_0 : decode cX9_forget 0 = .ok (.aload_n 0, 1) := by decide +kernel
theorem dX9_forget_1 : decode cX9_forget 1 = .ok (.getfield 184, 3) := by decide +kernel
theorem dX9_forget_4 : decode cX9_forget 4 = .ok (.istore_n 1, 1) := by decide +kernel
theorem dX9_forget_5 : decode cX9_forget 5 = .ok (.aload_n 0, 1) := by decide +kernel
theorem dX9_forget_6 : decode cX9_forget 6 = .ok (.iconst 0, 1) := by decide +kernel
theorem dX9_forget_7 : decode cX9_forget 7 = .ok (.putfield 184, 3) := by decide +kernel
theorem dX9_forget_10 : decode cX9_forget 10 = .ok (.iload_n 1, 1) := by decide +kernel
theorem dX9_forget_11 : decode cX9_forget 11 = .ok (.ireturn, 1) := by decide +kernel
set_option maxRecDepth 20000 in
theorem ggX9_isSo_X9_height : GoodIn wsX9_isSo wsX9_height := goodIn_r _ [8, 9, 10, 11, 7, 12, 13, 14, 15, 16, 17, 18, 19, 20, 21, 22, 23, 24, 25, 26, 27, 28, 29, 30, 31, 32, 33, 34, 35, 36, 37, 38, 39, 40, 41, 42, 43, 44, 45, 46, 47, 48, 49, 50, 51, 52, 53, 54, 55, 56, 57, 58, 59, 60, 61, 62, 63] (by decide +kernel) (by decide +kernel)
set_option maxRecDepth 20000 in
theorem gX9_isSo_X9_height : GoodIn wsX9_isSo (wsV RX9 199 RX9 yX9_height wsX9_height) := goodIn_app (goodIn_of _ (by decide +kernel)) ggX9_isSo_X9_height
theorem dX9_isSo_0 : decode cX9_isSo 0 = .ok (.iconst 1, 1) := by decide +kernel
theorem dX9_isSo_1 : decode cX9_isSo 1 = .ok (.istore_n 2, 1) := by decide +kernel
theorem dX9_isSo_2 : decode cX9_isSo 2 = .ok (.iconst 0, 1) := by decide +kernel
theorem dX9_isSo_3 : decode cX9_isSo 3 = .ok (.istore_n 3, 1) := by decide +kernel
theorem dX9_isSo_4 : decode cX9_isSo 4 = .ok (.iload_n 3, 1) := by decide +kernel
theorem dX9_isSo_5 : decode cX9_isSo 5 = .ok (.aload_n 0, 1) := by decide +kernel
theorem dX9_isSo_6 : decode cX9_isSo 6 = .ok (.getfield 184, 3) := by decide +kernel
theorem dX9_isSo_9 : decode cX9_isSo 9 = .ok (.if_icmp .ge 39, 3) := by decide +kernel
theorem dX9_isSo_12 : decode cX9_isSo 12 = .ok (.iload_n 2, 1) := by decide +kernel
theorem dX9_isSo_13 : decode cX9_isSo 13 = .ok (.ifCond .eq 27, 3) := by decide +kernel
theorem dX9_isSo_16 : decode cX9_isSo 16 = .ok (.aload_n 0, 1) := by decide +kernel
theorem dX9_isSo_17 : decode cX9_isSo 17 = .ok (.aload_n 1, 1) := by decide +kernel
theorem dX9_isSo_18 : decode cX9_isSo 18 = .ok (.aload_n 0, 1) := by decide +kernel
theorem dX9_isSo_19 : decode cX9_isSo 19 = .ok (.getfield 58, 3) := by decide +kernel
theorem dX9_isSo_22 : decode cX9_isSo 22 = .ok (.iload_n 3, 1) := by decide +kernel
theorem dX9_isSo_23 : decode cX9_isSo 23 = .ok (.iaload, 1) := by decide +kernel
theorem dX9_isSo_24 : decode cX9_isSo 24 = .ok (.invokevirtual 199, 3) := by decide +kernel
theorem dX9_isSo_27 : decode cX9_isSo 27 = .ok (.aload_n 0, 1) := by decide +kernel
theorem dX9_isSo_28 : decode cX9_isSo 28 = .ok (.getfield 61, 3) := by decide +kernel
theorem dX9_isSo_31 : decode cX9_isSo 31 = .ok (.iload_n 3, 1) := by decide +kernel
theorem dX9_isSo_32 : decode cX9_isSo 32 = .ok (.iaload, 1) := by decide +kernel
theorem dX9_isSo_33 : decode cX9_isSo 33 = .ok (.if_icmp .ne 7, 3) := by decide +kernel
theorem dX9_isSo_36 : decode cX9_isSo 36 = .ok (.iconst 1, 1) := by decide +kernel
theorem dX9_isSo_37 : decode cX9_isSo 37 = .ok (.goto 4, 3) := by decide +kernel
theorem dX9_isSo_40 : decode cX9_isSo 40 = .ok (.iconst 0, 1) := by decide +kernel
theorem dX9_isSo_41 : decode cX9_isSo 41 = .ok (.istore_n 2, 1) := by decide +kernel
theorem dX9_isSo_42 : decode cX9_isSo 42 = .ok (.iinc 3 1, 3) := by decide +kernel
theorem dX9_isSo_45 : decode cX9_isSo 45 = .ok (.goto (-41), 3) := by decide +kernel
theorem dX9_isSo_48 : decode cX9_isSo 48 = .ok (.iload_n 2, 1) := by decide +kernel
theorem dX9_isSo_49 : decode cX9_isSo 49 = .ok (.ireturn, 1) := by decide +kernel
set_option maxRecDepth 20000 in
theorem ggX9_without_X9_copyNow : GoodIn wsX9_without wsX9_copyNow := goodIn_r _ [6, 1, 7, 8, 9, 10, 11, 12, 13, 14, 15, 16, 17, 18, 19, 20, 21, 22, 23, 24, 25, 26, 27, 28, 29, 30, 31, 32, 33, 34, 35, 36, 37, 38, 39, 40, 41, 42, 43, 44, 45, 46, 47, 48, 49, 50] (by decide +kernel) (by decide +kernel)
set_option maxRecDepth 20000 in
theorem gX9_without_X9_copyNow : GoodIn wsX9_without (wsV RX9 244 RX9 yX9_copyNow wsX9_copyNow) := goodIn_app (goodIn_of _ (by decide +kernel)) ggX9_without_X9_copyNow
theorem dX9_without_0 : decode cX9_without 0 = .ok (.aload_n 0, 1) := by decide +kernel
theorem dX9_without_1 : decode cX9_without 1 = .ok (.invokevirtual 244, 3) := by decide +kernel
theorem dX9_without_4 : decode cX9_without 4 = .ok (.aload_n 0, 1) := by decide +kernel
theorem dX9_without_5 : decode cX9_without 5 = .ok (.getfield 49, 3) := by decide +kernel
theorem dX9_without_8 : decode cX9_without 8 = .ok (.iconst 2, 1) := by decide +kernel
theorem dX9_without_9 : decode cX9_without 9 = .ok (.dup2, 1) := by decide +kernel
theorem dX9_without_10 : decode cX9_without 10 = .ok (.iaload, 1) := by decide +kernel
theorem dX9_without_11 : decode cX9_without 11 = .ok (.iload_n 1, 1) := by decide +kernel
theorem dX9_without_12 : decode cX9_without 12 = .ok (.bipush 6, 2) := by decide +kernel
theorem dX9_without_14 : decode cX9_without 14 = .ok (.if_icmp .ge 9, 3) := by decide +kernel
theorem dX9_without_17 : decode cX9_without 17 = .ok (.iconst 1, 1) := by decide +kernel
theorem dX9_without_18 : decode cX9_without 18 = .ok (.iload_n 1, 1) := by decide +kernel
theorem dX9_without_19 : decode cX9_without 19 = .ok (.ishl, 1) := by decide +kernel
theorem dX9_without_20 : decode cX9_without 20 = .ok (.goto 4, 3) := by decide +kernel
theorem dX9_without_23 : decode cX9_without 23 = .ok (.iconst 0, 1) := by decide +kernel
theorem dX9_without_24 : decode cX9_without 24 = .ok (.ior, 1) := by decide +kernel
theorem dX9_without_25 : decode cX9_without 25 = .ok (.iastore, 1) := by decide +kernel
theorem dX9_without_26 : decode cX9_without 26 = .ok (.return_, 1) := by decide +kernel
set_option maxRecDepth 20000 in
theorem ggX9_suspected_X9_without : GoodIn wsX9_suspected wsX9_without := goodIn_r _ [8, 3, 9, 10, 11, 7, 12, 2, 35, 36, 37, 38, 39, 40, 41, 42, 43, 44, 45, 46, 47, 48, 49, 50, 51, 52, 53, 54, 55, 56, 57, 58, 59, 60, 61, 62, 63, 64, 65, 66, 67, 68, 69, 70, 71, 72, 73, 74, 75, 76, 77] (by decide +kernel) (by decide +kernel)
set_option maxRecDepth 20000 in
theorem gX9_suspected_X9_without : GoodIn wsX9_suspected (wsV RX9 279 RX9 yX9_without wsX9_without) := goodIn_app (goodIn_of _ (by decide +kernel)) ggX9_suspected_X9_without
set_option maxRecDepth 20000 in
theorem ggX9_suspected_X9_has : GoodIn wsX9_suspected wsX9_has := goodIn_r _ [15] (by decide +kernel) (by decide +kernel)
set_option maxRecDepth 20000 in
theorem gX9_suspected_X9_has : GoodIn wsX9_suspected (va_wsS RX9 191 yX9_has wsX9_has) := goodIn_app (goodIn_of _ (by decide +kernel)) ggX9_suspected_X9_has
set_option maxRecDepth 20000 in
theorem ggX9_suspected_X9_isSo : GoodIn wsX9_suspected wsX9_isSo := goodIn_r _ [19, 20, 21, 22, 23, 24, 25, 7, 26, 1, 13, 14, 15, 27, 28, 29, 30, 31, 32, 33, 34, 35, 36, 37, 38, 39, 40, 41, 42, 43, 44, 45, 46, 47, 48, 49, 50, 51, 52, 53, 54, 55, 56, 57, 58, 59, 60, 61, 62, 63, 64, 65, 66, 67, 68, 69, 70, 71, 72, 73, 74, 75, 76, 77] (by decide +kernel) (by decide +kernel)
set_option maxRecDepth 20000 in
theorem gX9_suspected_X9_isSo : GoodIn wsX9_suspected (wsV RX9 283 RX9 yX9_isSo wsX9_isSo) := goodIn_app (goodIn_of _ (by decide +kernel)) ggX9_suspected_X9_isSo
theorem dX9_suspected_0 : decode cX9_suspected 0 = .ok (.iconst 0, 1) := by decide +kernel
theorem dX9_suspected_1 : decode cX9_suspected 1 = .ok (.istore_n 1, 1) := by decide +kernel
theorem dX9_suspected_2 : decode cX9_suspected 2 = .ok (.iconst 0, 1) := by decide +kernel
theorem dX9_suspected_3 : decode cX9_suspected 3 = .ok (.istore_n 2, 1) := by decide +kernel
theorem dX9_suspected_4 : decode cX9_suspected 4 = .ok (.iload_n 2, 1) := by decide +kernel
theorem dX9_suspected_5 : decode cX9_suspected 5 = .ok (.bipush 6, 2) := by decide +kernel
theorem dX9_suspected_7 : decode cX9_suspected 7 = .ok (.if_icmp .gt 72, 3) := by decide +kernel
theorem dX9_suspected_10 : decode cX9_suspected 10 = .ok (.aload_n 0, 1) := by decide +kernel
theorem dX9_suspected_11 : decode cX9_suspected 11 = .ok (.iload_n 2, 1) := by decide +kernel
theorem dX9_suspected_12 : decode cX9_suspected 12 = .ok (.invokevirtual 279, 3) := by decide +kernel
theorem dX9_suspected_15 : decode cX9_suspected 15 = .ok (.iload_n 2, 1) := by decide +kernel
theorem dX9_suspected_16 : decode cX9_suspected 16 = .ok (.bipush 6, 2) := by decide +kernel
theorem dX9_suspected_18 : decode cX9_suspected 18 = .ok (.if_icmp .eq 24, 3) := by decide +kernel
theorem dX9_suspected_21 : decode cX9_suspected 21 = .ok (.iload_n 2, 1) := by decide +kernel
theorem dX9_suspected_22 : decode cX9_suspected 22 = .ok (.aload_n 0, 1) := by decide +kernel
theorem dX9_suspected_23 : decode cX9_suspected 23 = .ok (.getfield 172, 3) := by decide +kernel
theorem dX9_suspected_26 : decode cX9_suspected 26 = .ok (.if_icmp .ge 20, 3) := by decide +kernel
theorem dX9_suspected_29 : decode cX9_suspected 29 = .ok (.aload_n 0, 1) := by decide +kernel
theorem dX9_suspected_30 : decode cX9_suspected 30 = .ok (.getfield 46, 3) := by decide +kernel
theorem dX9_suspected_33 : decode cX9_suspected 33 = .ok (.iconst 2, 1) := by decide +kernel
theorem dX9_suspected_34 : decode cX9_suspected 34 = .ok (.iaload, 1) := by decide +kernel
theorem dX9_suspected_35 : decode cX9_suspected 35 = .ok (.iload_n 2, 1) := by decide +kernel
theorem dX9_suspected_36 : decode cX9_suspected 36 = .ok (.invokestatic 191, 3) := by decide +kernel
theorem dX9_suspected_39 : decode cX9_suspected 39 = .ok (.ifCond .ne 7, 3) := by decide +kernel
theorem dX9_suspected_42 : decode cX9_suspected 42 = .ok (.iconst 1, 1) := by decide +kernel
theorem dX9_suspected_43 : decode cX9_suspected 43 = .ok (.goto 4, 3) := by decide +kernel
theorem dX9_suspected_46 : decode cX9_suspected 46 = .ok (.iconst 0, 1) := by decide +kernel
theorem dX9_suspected_47 : decode cX9_suspected 47 = .ok (.istore_n 3, 1) := by decide +kernel
theorem dX9_suspected_48 : decode cX9_suspected 48 = .ok (.iload_n 1, 1) := by decide +kernel
theorem dX9_suspected_49 : decode cX9_suspected 49 = .ok (.iload_n 3, 1) := by decide +kernel
theorem dX9_suspected_50 : decode cX9_suspected 50 = .ok (.ifCond .eq 20, 3) := by decide +kernel
theorem dX9_suspected_53 : decode cX9_suspected 53 = .ok (.aload_n 0, 1) := by decide +kernel
theorem dX9_suspected_54 : decode cX9_suspected 54 = .ok (.aload_n 0, 1) := by decide +kernel
theorem dX9_suspected_55 : decode cX9_suspected 55 = .ok (.getfield 49, 3) := by decide +kernel
theorem dX9_suspected_58 : decode cX9_suspected 58 = .ok (.invokevirtual 283, 3) := by decide +kernel
theorem dX9_suspected_61 : decode cX9_suspected 61 = .ok (.ifCond .eq 9, 3) := by decide +kernel
theorem dX9_suspected_64 : decode cX9_suspected 64 = .ok (.iconst 1, 1) := by decide +kernel
theorem dX9_suspected_65 : decode cX9_suspected 65 = .ok (.iload_n 2, 1) := by decide +kernel
theorem dX9_suspected_66 : decode cX9_suspected 66 = .ok (.ishl, 1) := by decide +kernel
theorem dX9_suspected_67 : decode cX9_suspected 67 = .ok (.goto 4, 3) := by decide +kernel
theorem dX9_suspected_70 : decode cX9_suspected 70 = .ok (.iconst 0, 1) := by decide +kernel
theorem dX9_suspected_71 : decode cX9_suspected 71 = .ok (.ior, 1) := by decide +kernel
theorem dX9_suspected_72 : decode cX9_suspected 72 = .ok (.istore_n 1, 1) := by decide +kernel
theorem dX9_suspected_73 : decode cX9_suspected 73 = .ok (.iinc 2 1, 3) := by decide +kernel
theorem dX9_suspected_76 : decode cX9_suspected 76 = .ok (.goto (-72), 3) := by decide +kernel
theorem dX9_suspected_79 : decode cX9_suspected 79 = .ok (.iload_n 1, 1) := by decide +kernel
theorem dX9_suspected_80 : decode cX9_suspected 80 = .ok (.ireturn, 1) := by decide +kernel
set_option maxRecDepth 20000 in
theorem ggX9_suspects_X9_suspected : GoodIn wsX9_suspects wsX9_suspected := goodIn_r _ [5, 6, 7, 8, 9, 10, 11, 4, 12, 13, 14, 15, 16, 17, 18, 19, 20, 21, 22, 23, 24, 25, 26, 27, 28, 29, 30, 31, 32, 33, 34, 35, 36, 37, 38, 39, 40, 41, 42, 43, 44, 45, 46, 47, 48, 49, 50, 51, 52, 53, 54, 55, 56, 57, 58, 59, 60, 61, 62, 63, 64, 65, 66, 67, 68, 69, 70, 71, 72, 73, 74, 75, 76, 77, 78, 79, 80, 81] (by decide +kernel) (by decide +kernel)
set_option maxRecDepth 20000 in
theorem gX9_suspects_X9_suspected : GoodIn wsX9_suspects (wsV RX9 287 RX9 yX9_suspected wsX9_suspected) := goodIn_app (goodIn_of _ (by decide +kernel)) ggX9_suspects_X9_suspected
theorem dX9_suspects_0 : decode cX9_suspects 0 = .ok (.aload_n 0, 1) := by decide +kernel
theorem dX9_suspects_1 : decode cX9_suspects 1 = .ok (.invokevirtual 287, 3) := by decide +kernel
theorem dX9_suspects_4 : decode cX9_suspects 4 = .ok (.ireturn, 1) := by decide +kernel
set_option maxRecDepth 20000 in
theorem ggX9_holes_X9_isString : GoodIn wsX9_holes wsX9_isString := goodIn_r _ [7, 8, 9, 10, 6, 11, 38, 39, 40, 41, 42, 43, 44, 45, 46, 47, 48, 49, 50, 51, 52, 53, 54, 55, 56, 57, 58, 59, 60, 61, 62, 63, 64, 65, 66, 67, 68, 69, 70, 71, 72, 73, 74, 75, 76, 77, 78, 79, 80] (by decide +kernel) (by decide +kernel)
set_option maxRecDepth 20000 in
theorem gX9_holes_X9_isString : GoodIn wsX9_holes (wsV RX9 211 RX9 yX9_isString wsX9_isString) := goodIn_app (goodIn_of _ (by decide +kernel)) ggX9_holes_X9_isString
set_option maxRecDepth 20000 in
theorem ggX9_holes_X9_has : GoodIn wsX9_holes wsX9_has := goodIn_r _ [14] (by decide +kernel) (by decide +kernel)
set_option maxRecDepth 20000 in
theorem gX9_holes_X9_has : GoodIn wsX9_holes (va_wsS RX9 191 yX9_has wsX9_has) := goodIn_app (goodIn_of _ (by decide +kernel)) ggX9_holes_X9_has
set_option maxRecDepth 20000 in
theorem ggX9_holes_X9_copyNow : GoodIn wsX9_holes wsX9_copyNow := goodIn_r _ [18, 2, 1, 38, 39, 40, 41, 42, 43, 44, 45, 46, 47, 48, 49, 50, 51, 52, 53, 54, 55, 56, 57, 58, 59, 60, 61, 62, 63, 64, 65, 66, 67, 68, 69, 70, 71, 72, 73, 74, 75, 76, 77, 78, 79, 80] (by decide +kernel) (by decide +kernel)
set_option maxRecDepth 20000 in
theorem gX9_holes_X9_copyNow : GoodIn wsX9_holes (wsV RX9 244 RX9 yX9_copyNow wsX9_copyNow) := goodIn_app (goodIn_of _ (by decide +kernel)) ggX9_holes_X9_copyNow
set_option maxRecDepth 20000 in
theorem ggX9_holes_X9_isSo : GoodIn wsX9_holes wsX9_isSo := goodIn_r _ [22, 23, 24, 25, 26, 27, 28, 6, 29, 8, 12, 13, 14, 30, 31, 32, 33, 34, 35, 36, 37, 38, 39, 40, 41, 42, 43, 44, 45, 46, 47, 48, 49, 50, 51, 52, 53, 54, 55, 56, 57, 58, 59, 60, 61, 62, 63, 64, 65, 66, 67, 68, 69, 70, 71, 72, 73, 74, 75, 76, 77, 78, 79, 80] (by decide +kernel) (by decide +kernel)
set_option maxRecDepth 20000 in
theorem gX9_holes_X9_isSo : GoodIn wsX9_holes (wsV RX9 283 RX9 yX9_isSo wsX9_isSo) := goodIn_app (goodIn_of _ (by decide +kernel)) ggX9_holes_X9_isSo
theorem dX9_holes_0 : decode cX9_holes 0 = .ok (.aload_n 0, 1) := by decide +kernel
theorem dX9_holes_1 : decode cX9_holes 1 = .ok (.iload_n 1, 1) := by decide +kernel
theorem dX9_holes_2 : decode cX9_holes 2 = .ok (.invokevirtual 211, 3) := by decide +kernel
theorem dX9_holes_5 : decode cX9_holes 5 = .ok (.ifCond .ne 5, 3) := by decide +kernel
theorem dX9_holes_8 : decode cX9_holes 8 = .ok (.iconst (-1), 1) := by decide +kernel
theorem dX9_holes_9 : decode cX9_holes 9 = .ok (.ireturn, 1) := by decide +kernel
theorem dX9_holes_10 : decode cX9_holes 10 = .ok (.aload_n 0, 1) := by decide +kernel
theorem dX9_holes_11 : decode cX9_holes 11 = .ok (.getfield 46, 3) := by decide +kernel
theorem dX9_holes_14 : decode cX9_holes 14 = .ok (.iconst 2, 1) := by decide +kernel
theorem dX9_holes_15 : decode cX9_holes 15 = .ok (.iaload, 1) := by decide +kernel
theorem dX9_holes_16 : decode cX9_holes 16 = .ok (.iload_n 1, 1) := by decide +kernel
theorem dX9_holes_17 : decode cX9_holes 17 = .ok (.invokestatic 191, 3) := by decide +kernel
theorem dX9_holes_20 : decode cX9_holes 20 = .ok (.ifCond .eq 6, 3) := by decide +kernel
theorem dX9_holes_23 : decode cX9_holes 23 = .ok (.bipush (-2), 2) := by decide +kernel
theorem dX9_holes_25 : decode cX9_holes 25 = .ok (.ireturn, 1) := by decide +kernel
theorem dX9_holes_26 : decode cX9_holes 26 = .ok (.aload_n 0, 1) := by decide +kernel
theorem dX9_holes_27 : decode cX9_holes 27 = .ok (.invokevirtual 244, 3) := by decide +kernel
theorem dX9_holes_30 : decode cX9_holes 30 = .ok (.iconst 0, 1) := by decide +kernel
theorem dX9_holes_31 : decode cX9_holes 31 = .ok (.istore_n 2, 1) := by decide +kernel
theorem dX9_holes_32 : decode cX9_holes 32 = .ok (.iconst 0, 1) := by decide +kernel
theorem dX9_holes_33 : decode cX9_holes 33 = .ok (.istore_n 3, 1) := by decide +kernel
theorem dX9_holes_34 : decode cX9_holes 34 = .ok (.iload_n 3, 1) := by decide +kernel
theorem dX9_holes_35 : decode cX9_holes 35 = .ok (.bipush 7, 2) := by decide +kernel
theorem dX9_holes_37 : decode cX9_holes 37 = .ok (.if_icmp .ge 40, 3) := by decide +kernel
theorem dX9_holes_40 : decode cX9_holes 40 = .ok (.aload_n 0, 1) := by decide +kernel
theorem dX9_holes_41 : decode cX9_holes 41 = .ok (.getfield 49, 3) := by decide +kernel
theorem dX9_holes_44 : decode cX9_holes 44 = .ok (.bipush 9, 2) := by decide +kernel
theorem dX9_holes_46 : decode cX9_holes 46 = .ok (.iload_n 1, 1) := by decide +kernel
theorem dX9_holes_47 : decode cX9_holes 47 = .ok (.iadd, 1) := by decide +kernel
theorem dX9_holes_48 : decode cX9_holes 48 = .ok (.iload_n 3, 1) := by decide +kernel
theorem dX9_holes_49 : decode cX9_holes 49 = .ok (.iastore, 1) := by decide +kernel
theorem dX9_holes_50 : decode cX9_holes 50 = .ok (.iload_n 2, 1) := by decide +kernel
theorem dX9_holes_51 : decode cX9_holes 51 = .ok (.aload_n 0, 1) := by decide +kernel
theorem dX9_holes_52 : decode cX9_holes 52 = .ok (.aload_n 0, 1) := by decide +kernel
theorem dX9_holes_53 : decode cX9_holes 53 = .ok (.getfield 49, 3) := by decide +kernel
theorem dX9_holes_56 : decode cX9_holes 56 = .ok (.invokevirtual 283, 3) := by decide +kernel
theorem dX9_holes_59 : decode cX9_holes 59 = .ok (.ifCond .eq 9, 3) := by decide +kernel
theorem dX9_holes_62 : decode cX9_holes 62 = .ok (.iconst 1, 1) := by decide +kernel
theorem dX9_holes_63 : decode cX9_holes 63 = .ok (.iload_n 3, 1) := by decide +kernel
theorem dX9_holes_64 : decode cX9_holes 64 = .ok (.ishl, 1) := by decide +kernel
theorem dX9_holes_65 : decode cX9_holes 65 = .ok (.goto 4, 3) := by decide +kernel
theorem dX9_holes_68 : decode cX9_holes 68 = .ok (.iconst 0, 1) := by decide +kernel
theorem dX9_holes_69 : decode cX9_holes 69 = .ok (.ior, 1) := by decide +kernel
theorem dX9_holes_70 : decode cX9_holes 70 = .ok (.istore_n 2, 1) := by decide +kernel
theorem dX9_holes_71 : decode cX9_holes 71 = .ok (.iinc 3 1, 3) := by decide +kernel
theorem dX9_holes_74 : decode cX9_holes 74 = .ok (.goto (-40), 3) := by decide +kernel
theorem dX9_holes_77 : decode cX9_holes 77 = .ok (.iload_n 2, 1) := by decide +kernel
theorem dX9_holes_78 : decode cX9_holes 78 = .ok (.ireturn, 1) := by decide +kernel
set_option maxRecDepth 20000 in
theorem ggX9_heightWithout_X9_without : GoodIn wsX9_heightWithout wsX9_without := goodIn_r _ [6, 1, 7, 8, 9, 5, 10, 11, 28, 29, 30, 31, 32, 33, 34, 35, 36, 37, 38, 39, 40, 41, 42, 43, 44, 45, 46, 47, 48, 49, 50, 51, 52, 53, 54, 55, 56, 57, 58, 59, 60, 61, 62, 63, 64, 65, 66, 67, 68, 69, 70] (by decide +kernel) (by decide +kernel)
set_option maxRecDepth 20000 in
theorem gX9_heightWithout_X9_without : GoodIn wsX9_heightWithout (wsV RX9 279 RX9 yX9_without wsX9_without) := goodIn_app (goodIn_of _ (by decide +kernel)) ggX9_heightWithout_X9_without
set_option maxRecDepth 20000 in
theorem ggX9_heightWithout_X9_height : GoodIn wsX9_heightWithout wsX9_height := goodIn_r _ [15, 16, 17, 18, 5, 19, 20, 21, 22, 23, 24, 25, 26, 27, 28, 29, 30, 31, 32, 33, 34, 35, 36, 37, 38, 39, 40, 41, 42, 43, 44, 45, 46, 47, 48, 49, 50, 51, 52, 53, 54, 55, 56, 57, 58, 59, 60, 61, 62, 63, 64, 65, 66, 67, 68, 69, 70] (by decide +kernel) (by decide +kernel)
set_option maxRecDepth 20000 in
theorem gX9_heightWithout_X9_height : GoodIn wsX9_heightWithout (wsV RX9 199 RX9 yX9_height wsX9_height) := goodIn_app (goodIn_of _ (by decide +kernel)) ggX9_heightWithout_X9_height
theorem dX9_heightWithout_0 : decode cX9_heightWithout 0 = .ok (.aload_n 0, 1) := by decide +kernel
theorem dX9_heightWithout_1 : decode cX9_heightWithout 1 = .ok (.iload_n 2, 1) := by decide +kernel
theorem dX9_heightWithout_2 : decode cX9_heightWithout 2 = .ok (.invokevirtual 279, 3) := by decide +kernel
theorem dX9_heightWithout_5 : decode cX9_heightWithout 5 = .ok (.aload_n 0, 1) := by decide +kernel
theorem dX9_heightWithout_6 : decode cX9_heightWithout 6 = .ok (.aload_n 0, 1) := by decide +kernel
theorem dX9_heightWithout_7 : decode cX9_heightWithout 7 = .ok (.getfield 49, 3) := by decide +kernel
theorem dX9_heightWithout_10 : decode cX9_heightWithout 10 = .ok (.iload_n 1, 1) := by decide +kernel
theorem dX9_heightWithout_11 : decode cX9_heightWithout 11 = .ok (.invokevirtual 199, 3) := by decide +kernel
theorem dX9_heightWithout_14 : decode cX9_heightWithout 14 = .ok (.ireturn, 1) := by decide +kernel
set_option maxRecDepth 20000 in
theorem ggX9_alike_X9_has : GoodIn wsX9_alike wsX9_has := goodIn_r _ [4] (by decide +kernel) (by decide +kernel)
set_option maxRecDepth 20000 in
theorem gX9_alike_X9_has : GoodIn wsX9_alike (va_wsS RX9 191 yX9_has wsX9_has) := goodIn_app (goodIn_of _ (by decide +kernel)) ggX9_alike_X9_has
set_option maxRecDepth 20000 in
theorem ggX9_alike_X9_heightWithout : GoodIn wsX9_alike wsX9_heightWithout := goodIn_r _ [8, 9, 10, 11, 12, 3, 13, 14, 15, 16, 17, 18, 19, 20, 21, 22, 23, 1, 2, 4, 24, 25, 26, 27, 28, 29, 30, 31, 32, 33, 34, 35, 36, 37, 38, 39, 40, 41, 42, 43, 44, 45, 46, 47, 48, 49, 50, 51, 52, 53, 54, 55, 56, 57, 58, 59, 60, 61, 62, 63, 64, 65, 66, 67, 68, 69, 70, 71, 72, 73, 74] (by decide +kernel) (by decide +kernel)
set_option maxRecDepth 20000 in
theorem gX9_alike_X9_heightWithout : GoodIn wsX9_alike (wsV RX9 290 RX9 yX9_heightWithout wsX9_heightWithout) := goodIn_app (goodIn_of _ (by decide +kernel)) ggX9_alike_X9_heightWithout
theorem dX9_alike_0 : decode cX9_alike 0 = .ok (.iconst 0, 1) := by decide +kernel
theorem dX9_alike_1 : decode cX9_alike 1 = .ok (.istore_n 3, 1) := by decide +kernel
theorem dX9_alike_2 : decode cX9_alike 2 = .ok (.iconst 0, 1) := by decide +kernel
theorem dX9_alike_3 : decode cX9_alike 3 = .ok (.istore 4, 2) := by decide +kernel
theorem dX9_alike_5 : decode cX9_alike 5 = .ok (.iload 4, 2) := by decide +kernel
theorem dX9_alike_7 : decode cX9_alike 7 = .ok (.bipush 6, 2) := by decide +kernel
theorem dX9_alike_9 : decode cX9_alike 9 = .ok (.if_icmp .gt 86, 3) := by decide +kernel
theorem dX9_alike_12 : decode cX9_alike 12 = .ok (.iconst 0, 1) := by decide +kernel
theorem dX9_alike_13 : decode cX9_alike 13 = .ok (.istore 5, 2) := by decide +kernel
theorem dX9_alike_15 : decode cX9_alike 15 = .ok (.iconst 0, 1) := by decide +kernel
theorem dX9_alike_16 : decode cX9_alike 16 = .ok (.istore 6, 2) := by decide +kernel
theorem dX9_alike_18 : decode cX9_alike 18 = .ok (.iload 6, 2) := by decide +kernel
theorem dX9_alike_20 : decode cX9_alike 20 = .ok (.bipush 6, 2) := by decide +kernel
theorem dX9_alike_22 : decode cX9_alike 22 = .ok (.if_icmp .gt 54, 3) := by decide +kernel
theorem dX9_alike_25 : decode cX9_alike 25 = .ok (.iload 5, 2) := by decide +kernel
theorem dX9_alike_27 : decode cX9_alike 27 = .ok (.iload_n 2, 1) := by decide +kernel
theorem dX9_alike_28 : decode cX9_alike 28 = .ok (.iload 4, 2) := by decide +kernel
theorem dX9_alike_30 : decode cX9_alike 30 = .ok (.invokestatic 191, 3) := by decide +kernel
theorem dX9_alike_33 : decode cX9_alike 33 = .ok (.ifCond .eq 33, 3) := by decide +kernel
theorem dX9_alike_36 : decode cX9_alike 36 = .ok (.iload_n 2, 1) := by decide +kernel
theorem dX9_alike_37 : decode cX9_alike 37 = .ok (.iload 6, 2) := by decide +kernel
theorem dX9_alike_39 : decode cX9_alike 39 = .ok (.invokestatic 191, 3) := by decide +kernel
theorem dX9_alike_42 : decode cX9_alike 42 = .ok (.ifCond .eq 24, 3) := by decide +kernel
theorem dX9_alike_45 : decode cX9_alike 45 = .ok (.aload_n 0, 1) := by decide +kernel
theorem dX9_alike_46 : decode cX9_alike 46 = .ok (.iload_n 1, 1) := by decide +kernel
theorem dX9_alike_47 : decode cX9_alike 47 = .ok (.iload 6, 2) := by decide +kernel
theorem dX9_alike_49 : decode cX9_alike 49 = .ok (.invokevirtual 290, 3) := by decide +kernel
theorem dX9_alike_52 : decode cX9_alike 52 = .ok (.aload_n 0, 1) := by decide +kernel
theorem dX9_alike_53 : decode cX9_alike 53 = .ok (.iload_n 1, 1) := by decide +kernel
theorem dX9_alike_54 : decode cX9_alike 54 = .ok (.iload 4, 2) := by decide +kernel
theorem dX9_alike_56 : decode cX9_alike 56 = .ok (.invokevirtual 290, 3) := by decide +kernel
theorem dX9_alike_59 : decode cX9_alike 59 = .ok (.if_icmp .ne 7, 3) := by decide +kernel
theorem dX9_alike_62 : decode cX9_alike 62 = .ok (.iconst 1, 1) := by decide +kernel
theorem dX9_alike_63 : decode cX9_alike 63 = .ok (.goto 4, 3) := by decide +kernel
theorem dX9_alike_66 : decode cX9_alike 66 = .ok (.iconst 0, 1) := by decide +kernel
theorem dX9_alike_67 : decode cX9_alike 67 = .ok (.iadd, 1) := by decide +kernel
theorem dX9_alike_68 : decode cX9_alike 68 = .ok (.istore 5, 2) := by decide +kernel
theorem dX9_alike_70 : decode cX9_alike 70 = .ok (.iinc 6 1, 3) := by decide +kernel
theorem dX9_alike_73 : decode cX9_alike 73 = .ok (.goto (-55), 3) := by decide +kernel
theorem dX9_alike_76 : decode cX9_alike 76 = .ok (.iload 5, 2) := by decide +kernel
theorem dX9_alike_78 : decode cX9_alike 78 = .ok (.iload_n 3, 1) := by decide +kernel
theorem dX9_alike_79 : decode cX9_alike 79 = .ok (.if_icmp .le 8, 3) := by decide +kernel
theorem dX9_alike_82 : decode cX9_alike 82 = .ok (.iload 5, 2) := by decide +kernel
theorem dX9_alike_84 : decode cX9_alike 84 = .ok (.goto 4, 3) := by decide +kernel
theorem dX9_alike_87 : decode cX9_alike 87 = .ok (.iload_n 3, 1) := by decide +kernel
theorem dX9_alike_88 : decode cX9_alike 88 = .ok (.istore_n 3, 1) := by decide +kernel
theorem dX9_alike_89 : decode cX9_alike 89 = .ok (.iinc 4 1, 3) := by decide +kernel
theorem dX9_alike_92 : decode cX9_alike 92 = .ok (.goto (-87), 3) := by decide +kernel
theorem dX9_alike_95 : decode cX9_alike 95 = .ok (.iload_n 3, 1) := by decide +kernel
theorem dX9_alike_96 : decode cX9_alike 96 = .ok (.ireturn, 1) := by decide +kernel
set_option maxRecDepth 20000 in
theorem ggX9_look_X9_suspected : GoodIn wsX9_look wsX9_suspected := goodIn_r _ [7, 8, 9, 10, 11, 12, 13, 6, 14, 15, 16, 17, 18, 19, 20, 21, 22, 23, 24, 25, 26, 27, 28, 29, 30, 31, 32, 33, 34, 35, 36, 37, 38, 39, 40, 49, 50, 51, 52, 53, 54, 55, 56, 57, 58, 59, 60, 61, 62, 63, 64, 65, 66, 67, 68, 69, 70, 71, 72, 73, 74, 75, 76, 77, 78, 79, 80, 81, 82, 83, 84, 85, 86, 87, 88, 89, 90, 91] (by decide +kernel) (by decide +kernel)
set_option maxRecDepth 20000 in
theorem gX9_look_X9_suspected : GoodIn wsX9_look (wsV RX9 287 RX9 yX9_suspected wsX9_suspected) := goodIn_app (goodIn_of _ (by decide +kernel)) ggX9_look_X9_suspected
set_option maxRecDepth 20000 in
theorem ggX9_look_X9_alike : GoodIn wsX9_look wsX9_alike := goodIn_r _ [44, 19, 20, 6, 21, 45, 46, 47, 48, 10, 11, 12, 13, 14, 15, 16, 17, 18, 9, 29, 30, 31, 32, 8, 33, 34, 35, 36, 37, 38, 39, 40, 49, 50, 51, 52, 53, 54, 55, 56, 57, 58, 59, 60, 61, 62, 63, 64, 65, 66, 67, 68, 69, 70, 71, 72, 73, 74, 75, 76, 77, 78, 79, 80, 81, 82, 83, 84, 85, 86, 87, 88, 89, 90, 91] (by decide +kernel) (by decide +kernel)
set_option maxRecDepth 20000 in
theorem gX9_look_X9_alike : GoodIn wsX9_look (wsV RX9 293 RX9 yX9_alike wsX9_alike) := goodIn_app (goodIn_of _ (by decide +kernel)) ggX9_look_X9_alike
theorem dX9_look_0 : decode cX9_look 0 = .ok (.aload_n 0, 1) := by decide +kernel
theorem dX9_look_1 : decode cX9_look 1 = .ok (.invokevirtual 287, 3) := by decide +kernel
theorem dX9_look_4 : decode cX9_look 4 = .ok (.istore_n 1, 1) := by decide +kernel
theorem dX9_look_5 : decode cX9_look 5 = .ok (.bipush (-9), 2) := by decide +kernel
theorem dX9_look_7 : decode cX9_look 7 = .ok (.istore_n 2, 1) := by decide +kernel
theorem dX9_look_8 : decode cX9_look 8 = .ok (.ldc_w 262, 3) := by decide +kernel
theorem dX9_look_11 : decode cX9_look 11 = .ok (.istore_n 3, 1) := by decide +kernel
theorem dX9_look_12 : decode cX9_look 12 = .ok (.iconst 0, 1) := by decide +kernel
theorem dX9_look_13 : decode cX9_look 13 = .ok (.istore 4, 2) := by decide +kernel
theorem dX9_look_15 : decode cX9_look 15 = .ok (.iload 4, 2) := by decide +kernel
theorem dX9_look_17 : decode cX9_look 17 = .ok (.aload_n 0, 1) := by decide +kernel
theorem dX9_look_18 : decode cX9_look 18 = .ok (.getfield 169, 3) := by decide +kernel
theorem dX9_look_21 : decode cX9_look 21 = .ok (.if_icmp .ge 48, 3) := by decide +kernel
theorem dX9_look_24 : decode cX9_look 24 = .ok (.iload_n 1, 1) := by decide +kernel
theorem dX9_look_25 : decode cX9_look 25 = .ok (.ifCond .eq 44, 3) := by decide +kernel
theorem dX9_look_28 : decode cX9_look 28 = .ok (.aload_n 0, 1) := by decide +kernel
theorem dX9_look_29 : decode cX9_look 29 = .ok (.iload 4, 2) := by decide +kernel
theorem dX9_look_31 : decode cX9_look 31 = .ok (.iload_n 1, 1) := by decide +kernel
theorem dX9_look_32 : decode cX9_look 32 = .ok (.invokevirtual 293, 3) := by decide +kernel
theorem dX9_look_35 : decode cX9_look 35 = .ok (.istore 5, 2) := by decide +kernel
theorem dX9_look_37 : decode cX9_look 37 = .ok (.iload 5, 2) := by decide +kernel
theorem dX9_look_39 : decode cX9_look 39 = .ok (.iload_n 3, 1) := by decide +kernel
theorem dX9_look_40 : decode cX9_look 40 = .ok (.if_icmp .ge 8, 3) := by decide +kernel
theorem dX9_look_43 : decode cX9_look 43 = .ok (.iload 4, 2) := by decide +kernel
theorem dX9_look_45 : decode cX9_look 45 = .ok (.goto 4, 3) := by decide +kernel
theorem dX9_look_48 : decode cX9_look 48 = .ok (.iload_n 2, 1) := by decide +kernel
theorem dX9_look_49 : decode cX9_look 49 = .ok (.istore_n 2, 1) := by decide +kernel
theorem dX9_look_50 : decode cX9_look 50 = .ok (.iload 5, 2) := by decide +kernel
theorem dX9_look_52 : decode cX9_look 52 = .ok (.iload_n 3, 1) := by decide +kernel
theorem dX9_look_53 : decode cX9_look 53 = .ok (.if_icmp .ge 8, 3) := by decide +kernel
theorem dX9_look_56 : decode cX9_look 56 = .ok (.iload 5, 2) := by decide +kernel
theorem dX9_look_58 : decode cX9_look 58 = .ok (.goto 4, 3) := by decide +kernel
theorem dX9_look_61 : decode cX9_look 61 = .ok (.iload_n 3, 1) := by decide +kernel
theorem dX9_look_62 : decode cX9_look 62 = .ok (.istore_n 3, 1) := by decide +kernel
theorem dX9_look_63 : decode cX9_look 63 = .ok (.iinc 4 1, 3) := by decide +kernel
theorem dX9_look_66 : decode cX9_look 66 = .ok (.goto (-51), 3) := by decide +kernel
theorem dX9_look_69 : decode cX9_look 69 = .ok (.iload_n 2, 1) := by decide +kernel
theorem dX9_look_70 : decode cX9_look 70 = .ok (.ireturn, 1) := by decide +kernel
set_option maxRecDepth 20000 in
theorem ggX9_mark_X9_in : GoodIn wsX9_mark wsX9_in := goodIn_r _ [14] (by decide +kernel) (by decide +kernel)
set_option maxRecDepth 20000 in
theorem gX9_mark_X9_in : GoodIn wsX9_mark (va_wsS RX9 80 yX9_in wsX9_in) := goodIn_app (goodIn_of _ (by decide +kernel)) ggX9_mark_X9_in
set_option maxRecDepth 20000 in
theorem ggX9_mark_X9_isLimb : GoodIn wsX9_mark wsX9_isLimb := goodIn_r _ [18, 19, 11, 12, 13, 14, 36, 37, 38, 39, 40, 41, 42, 43, 44, 45, 46, 47, 48, 49, 50, 51, 52, 53, 54, 55, 56, 57, 58, 59, 60, 61, 62, 63, 64, 65, 66, 67, 68, 69, 70, 71, 72, 73, 74, 75, 76, 77, 78] (by decide +kernel) (by decide +kernel)
set_option maxRecDepth 20000 in
theorem gX9_mark_X9_isLimb : GoodIn wsX9_mark (wsV RX9 208 RX9 yX9_isLimb wsX9_isLimb) := goodIn_app (goodIn_of _ (by decide +kernel)) ggX9_mark_X9_isLimb
set_option maxRecDepth 20000 in
theorem ggX9_mark_X9_height : GoodIn wsX9_mark wsX9_height := goodIn_r _ [23, 24, 25, 26, 13, 27, 28, 29, 30, 31, 32, 33, 34, 35, 36, 37, 38, 39, 40, 41, 42, 43, 44, 45, 46, 47, 48, 49, 50, 51, 52, 53, 54, 55, 56, 57, 58, 59, 60, 61, 62, 63, 64, 65, 66, 67, 68, 69, 70, 71, 72, 73, 74, 75, 76, 77, 78] (by decide +kernel) (by decide +kernel)
set_option maxRecDepth 20000 in
theorem gX9_mark_X9_height : GoodIn wsX9_mark (wsV RX9 199 RX9 yX9_height wsX9_height) := goodIn_app (goodIn_of _ (by decide +kernel)) ggX9_mark_X9_height
theorem dX9_mark_0 : decode cX9_mark 0 = .ok (.iload_n 1, 1) := by decide +kernel
theorem dX9_mark_1 : decode cX9_mark 1 = .ok (.iconst 0, 1) := by decide +kernel
theorem dX9_mark_2 : decode cX9_mark 2 = .ok (.iconst 5, 1) := by decide +kernel
theorem dX9_mark_3 : decode cX9_mark 3 = .ok (.invokestatic 80, 3) := by decide +kernel
theorem dX9_mark_6 : decode cX9_mark 6 = .ok (.ifCond .eq 11, 3) := by decide +kernel
theorem dX9_mark_9 : decode cX9_mark 9 = .ok (.aload_n 0, 1) := by decide +kernel
theorem dX9_mark_10 : decode cX9_mark 10 = .ok (.iload_n 2, 1) := by decide +kernel
theorem dX9_mark_11 : decode cX9_mark 11 = .ok (.invokevirtual 208, 3) := by decide +kernel
theorem dX9_mark_14 : decode cX9_mark 14 = .ok (.ifCond .ne 6, 3) := by decide +kernel
theorem dX9_mark_17 : decode cX9_mark 17 = .ok (.ldc 214, 2) := by decide +kernel
theorem dX9_mark_19 : decode cX9_mark 19 = .ok (.ireturn, 1) := by decide +kernel
theorem dX9_mark_20 : decode cX9_mark 20 = .ok (.aload_n 0, 1) := by decide +kernel
theorem dX9_mark_21 : decode cX9_mark 21 = .ok (.aload_n 0, 1) := by decide +kernel
theorem dX9_mark_22 : decode cX9_mark 22 = .ok (.getfield 46, 3) := by decide +kernel
theorem dX9_mark_25 : decode cX9_mark 25 = .ok (.iload_n 2, 1) := by decide +kernel
theorem dX9_mark_26 : decode cX9_mark 26 = .ok (.invokevirtual 199, 3) := by decide +kernel
theorem dX9_mark_29 : decode cX9_mark 29 = .ok (.istore_n 3, 1) := by decide +kernel
theorem dX9_mark_30 : decode cX9_mark 30 = .ok (.aload_n 0, 1) := by decide +kernel
theorem dX9_mark_31 : decode cX9_mark 31 = .ok (.dup, 1) := by decide +kernel
theorem dX9_mark_32 : decode cX9_mark 32 = .ok (.getfield 296, 3) := by decide +kernel
theorem dX9_mark_35 : decode cX9_mark 35 = .ok (.lconst 1, 1) := by decide +kernel
theorem dX9_mark_36 : decode cX9_mark 36 = .ok (.ladd, 1) := by decide +kernel
theorem dX9_mark_37 : decode cX9_mark 37 = .ok (.putfield 296, 3) := by decide +kernel
theorem dX9_mark_40 : decode cX9_mark 40 = .ok (.iload_n 1, 1) := by decide +kernel
theorem dX9_mark_41 : decode cX9_mark 41 = .ok (.tableswitch 144 1 5 #[35, 56, 77, 100, 123], 35) := by decide +kernel
theorem dX9_mark_76 : decode cX9_mark 76 = .ok (.aload_n 0, 1) := by decide +kernel
theorem dX9_mark_77 : decode cX9_mark 77 = .ok (.dup, 1) := by decide +kernel
theorem dX9_mark_78 : decode cX9_mark 78 = .ok (.getfield 296, 3) := by decide +kernel
theorem dX9_mark_81 : decode cX9_mark 81 = .ok (.ldc2_w 300, 3) := by decide +kernel
theorem dX9_mark_84 : decode cX9_mark 84 = .ok (.ladd, 1) := by decide +kernel
theorem dX9_mark_85 : decode cX9_mark 85 = .ok (.putfield 296, 3) := by decide +kernel
theorem dX9_mark_88 : decode cX9_mark 88 = .ok (.iload_n 3, 1) := by decide +kernel
theorem dX9_mark_89 : decode cX9_mark 89 = .ok (.aload_n 0, 1) := by decide +kernel
theorem dX9_mark_90 : decode cX9_mark 90 = .ok (.getfield 31, 3) := by decide +kernel
theorem dX9_mark_93 : decode cX9_mark 93 = .ok (.iload_n 2, 1) := by decide +kernel
theorem dX9_mark_94 : decode cX9_mark 94 = .ok (.iaload, 1) := by decide +kernel
theorem dX9_mark_95 : decode cX9_mark 95 = .ok (.iadd, 1) := by decide +kernel
theorem dX9_mark_96 : decode cX9_mark 96 = .ok (.ireturn, 1) := by decide +kernel
theorem dX9_mark_97 : decode cX9_mark 97 = .ok (.aload_n 0, 1) := by decide +kernel
theorem dX9_mark_98 : decode cX9_mark 98 = .ok (.dup, 1) := by decide +kernel
theorem dX9_mark_99 : decode cX9_mark 99 = .ok (.getfield 296, 3) := by decide +kernel
theorem dX9_mark_102 : decode cX9_mark 102 = .ok (.ldc2_w 302, 3) := by decide +kernel
theorem dX9_mark_105 : decode cX9_mark 105 = .ok (.ladd, 1) := by decide +kernel
theorem dX9_mark_106 : decode cX9_mark 106 = .ok (.putfield 296, 3) := by decide +kernel
theorem dX9_mark_109 : decode cX9_mark 109 = .ok (.iload_n 3, 1) := by decide +kernel
theorem dX9_mark_110 : decode cX9_mark 110 = .ok (.aload_n 0, 1) := by decide +kernel
theorem dX9_mark_111 : decode cX9_mark 111 = .ok (.getfield 28, 3) := by decide +kernel
theorem dX9_mark_114 : decode cX9_mark 114 = .ok (.iload_n 2, 1) := by decide +kernel
theorem dX9_mark_115 : decode cX9_mark 115 = .ok (.iaload, 1) := by decide +kernel
theorem dX9_mark_116 : decode cX9_mark 116 = .ok (.isub, 1) := by decide +kernel
theorem dX9_mark_117 : decode cX9_mark 117 = .ok (.ireturn, 1) := by decide +kernel
theorem dX9_mark_118 : decode cX9_mark 118 = .ok (.aload_n 0, 1) := by decide +kernel
theorem dX9_mark_119 : decode cX9_mark 119 = .ok (.dup, 1) := by decide +kernel
theorem dX9_mark_120 : decode cX9_mark 120 = .ok (.getfield 296, 3) := by decide +kernel
theorem dX9_mark_123 : decode cX9_mark 123 = .ok (.ldc2_w 304, 3) := by decide +kernel
theorem dX9_mark_126 : decode cX9_mark 126 = .ok (.ladd, 1) := by decide +kernel
theorem dX9_mark_127 : decode cX9_mark 127 = .ok (.putfield 296, 3) := by decide +kernel
theorem dX9_mark_130 : decode cX9_mark 130 = .ok (.iconst 2, 1) := by decide +kernel
theorem dX9_mark_131 : decode cX9_mark 131 = .ok (.iload_n 3, 1) := by decide +kernel
theorem dX9_mark_132 : decode cX9_mark 132 = .ok (.aload_n 0, 1) := by decide +kernel
theorem dX9_mark_133 : decode cX9_mark 133 = .ok (.getfield 31, 3) := by decide +kernel
theorem dX9_mark_136 : decode cX9_mark 136 = .ok (.iload_n 2, 1) := by decide +kernel
theorem dX9_mark_137 : decode cX9_mark 137 = .ok (.iaload, 1) := by decide +kernel
theorem dX9_mark_138 : decode cX9_mark 138 = .ok (.iadd, 1) := by decide +kernel
theorem dX9_mark_139 : decode cX9_mark 139 = .ok (.imul, 1) := by decide +kernel
theorem dX9_mark_140 : decode cX9_mark 140 = .ok (.ireturn, 1) := by decide +kernel
theorem dX9_mark_141 : decode cX9_mark 141 = .ok (.aload_n 0, 1) := by decide +kernel
theorem dX9_mark_142 : decode cX9_mark 142 = .ok (.dup, 1) := by decide +kernel
theorem dX9_mark_143 : decode cX9_mark 143 = .ok (.getfield 296, 3) := by decide +kernel
theorem dX9_mark_146 : decode cX9_mark 146 = .ok (.ldc2_w 306, 3) := by decide +kernel
theorem dX9_mark_149 : decode cX9_mark 149 = .ok (.ladd, 1) := by decide +kernel
theorem dX9_mark_150 : decode cX9_mark 150 = .ok (.putfield 296, 3) := by decide +kernel
theorem dX9_mark_153 : decode cX9_mark 153 = .ok (.iload_n 3, 1) := by decide +kernel
theorem dX9_mark_154 : decode cX9_mark 154 = .ok (.aload_n 0, 1) := by decide +kernel
theorem dX9_mark_155 : decode cX9_mark 155 = .ok (.getfield 28, 3) := by decide +kernel
theorem dX9_mark_158 : decode cX9_mark 158 = .ok (.iload_n 2, 1) := by decide +kernel
theorem dX9_mark_159 : decode cX9_mark 159 = .ok (.iaload, 1) := by decide +kernel
theorem dX9_mark_160 : decode cX9_mark 160 = .ok (.isub, 1) := by decide +kernel
theorem dX9_mark_161 : decode cX9_mark 161 = .ok (.iload_n 2, 1) := by decide +kernel
theorem dX9_mark_162 : decode cX9_mark 162 = .ok (.iadd, 1) := by decide +kernel
theorem dX9_mark_163 : decode cX9_mark 163 = .ok (.ireturn, 1) := by decide +kernel
theorem dX9_mark_164 : decode cX9_mark 164 = .ok (.aload_n 0, 1) := by decide +kernel
theorem dX9_mark_165 : decode cX9_mark 165 = .ok (.dup, 1) := by decide +kernel
theorem dX9_mark_166 : decode cX9_mark 166 = .ok (.getfield 296, 3) := by decide +kernel
theorem dX9_mark_169 : decode cX9_mark 169 = .ok (.ldc2_w 308, 3) := by decide +kernel
theorem dX9_mark_172 : decode cX9_mark 172 = .ok (.ladd, 1) := by decide +kernel
theorem dX9_mark_173 : decode cX9_mark 173 = .ok (.putfield 296, 3) := by decide +kernel
theorem dX9_mark_176 : decode cX9_mark 176 = .ok (.iload_n 3, 1) := by decide +kernel
theorem dX9_mark_177 : decode cX9_mark 177 = .ok (.aload_n 0, 1) := by decide +kernel
theorem dX9_mark_178 : decode cX9_mark 178 = .ok (.getfield 46, 3) := by decide +kernel
theorem dX9_mark_181 : decode cX9_mark 181 = .ok (.iconst 0, 1) := by decide +kernel
theorem dX9_mark_182 : decode cX9_mark 182 = .ok (.iaload, 1) := by decide +kernel
theorem dX9_mark_183 : decode cX9_mark 183 = .ok (.iadd, 1) := by decide +kernel
theorem dX9_mark_184 : decode cX9_mark 184 = .ok (.ireturn, 1) := by decide +kernel
theorem dX9_mark_185 : decode cX9_mark 185 = .ok (.iload_n 3, 1) := by decide +kernel
theorem dX9_mark_186 : decode cX9_mark 186 = .ok (.ireturn, 1) := by decide +kernel
theorem dX9_trace_0 : decode cX9_trace 0 = .ok (.aload_n 0, 1) := by decide +kernel
theorem dX9_trace_1 : decode cX9_trace 1 = .ok (.getfield 296, 3) := by decide +kernel
theorem dX9_trace_4 : decode cX9_trace 4 = .ok (.lreturn, 1) := by decide +kernel
set_option maxRecDepth 20000 in
theorem ggX9_keep_X9_in : GoodIn wsX9_keep wsX9_in := goodIn_r _ [13] (by decide +kernel) (by decide +kernel)
set_option maxRecDepth 20000 in
theorem gX9_keep_X9_in : GoodIn wsX9_keep (va_wsS RX9 80 yX9_in wsX9_in) := goodIn_app (goodIn_of _ (by decide +kernel)) ggX9_keep_X9_in
theorem dX9_keep_0 : decode cX9_keep 0 = .ok (.iload_n 1, 1) := by decide +kernel
theorem dX9_keep_1 : decode cX9_keep 1 = .ok (.iconst 0, 1) := by decide +kernel
theorem dX9_keep_2 : decode cX9_keep 2 = .ok (.iconst 1, 1) := by decide +kernel
theorem dX9_keep_3 : decode cX9_keep 3 = .ok (.invokestatic 80, 3) := by decide +kernel
theorem dX9_keep_6 : decode cX9_keep 6 = .ok (.ifCond .ne 5, 3) := by decide +kernel
theorem dX9_keep_9 : decode cX9_keep 9 = .ok (.iconst (-1), 1) := by decide +kernel
theorem dX9_keep_10 : decode cX9_keep 10 = .ok (.ireturn, 1) := by decide +kernel
theorem dX9_keep_11 : decode cX9_keep 11 = .ok (.aload_n 0, 1) := by decide +kernel
theorem dX9_keep_12 : decode cX9_keep 12 = .ok (.getfield 64, 3) := by decide +kernel
theorem dX9_keep_15 : decode cX9_keep 15 = .ok (.iload_n 1, 1) := by decide +kernel
theorem dX9_keep_16 : decode cX9_keep 16 = .ok (.iconst 1, 1) := by decide +kernel
theorem dX9_keep_17 : decode cX9_keep 17 = .ok (.bastore, 1) := by decide +kernel
theorem dX9_keep_18 : decode cX9_keep 18 = .ok (.aload_n 0, 1) := by decide +kernel
theorem dX9_keep_19 : decode cX9_keep 19 = .ok (.getfield 74, 3) := by decide +kernel
theorem dX9_keep_22 : decode cX9_keep 22 = .ok (.iload_n 1, 1) := by decide +kernel
theorem dX9_keep_23 : decode cX9_keep 23 = .ok (.aload_n 0, 1) := by decide +kernel
theorem dX9_keep_24 : decode cX9_keep 24 = .ok (.getfield 181, 3) := by decide +kernel
theorem dX9_keep_27 : decode cX9_keep 27 = .ok (.iastore, 1) := by decide +kernel
theorem dX9_keep_28 : decode cX9_keep 28 = .ok (.aload_n 0, 1) := by decide +kernel
theorem dX9_keep_29 : decode cX9_keep 29 = .ok (.getfield 77, 3) := by decide +kernel
theorem dX9_keep_32 : decode cX9_keep 32 = .ok (.iload_n 1, 1) := by decide +kernel
theorem dX9_keep_33 : decode cX9_keep 33 = .ok (.aload_n 0, 1) := by decide +kernel
theorem dX9_keep_34 : decode cX9_keep 34 = .ok (.getfield 225, 3) := by decide +kernel
