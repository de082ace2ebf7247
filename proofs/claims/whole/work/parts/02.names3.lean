theorem dX0_load_22 : decode cX0_load 22 = .ok (.if_icmp .ne 13, 3) := by decide +kernel
theorem dX0_load_25 : decode cX0_load 25 = .ok (.iload_n 3, 1) := by decide +kernel
theorem dX0_load_26 : decode cX0_load 26 = .ok (.aload_n 0, 1) := by decide +kernel
theorem dX0_load_27 : decode cX0_load 27 = .ok (.getfield 18, 3) := by decide +kernel
theorem dX0_load_30 : decode cX0_load 30 = .ok (.iload 4, 2) := by decide +kernel
theorem dX0_load_32 : decode cX0_load 32 = .ok (.iaload, 1) := by decide +kernel
theorem dX0_load_33 : decode cX0_load 33 = .ok (.iadd, 1) := by decide +kernel
theorem dX0_load_34 : decode cX0_load 34 = .ok (.istore_n 3, 1) := by decide +kernel
theorem dX0_load_35 : decode cX0_load 35 = .ok (.iinc 4 1, 3) := by decide +kernel
theorem dX0_load_38 : decode cX0_load 38 = .ok (.goto (-33), 3) := by decide +kernel
theorem dX0_load_41 : decode cX0_load 41 = .ok (.iload_n 3, 1) := by decide +kernel
theorem dX0_load_42 : decode cX0_load 42 = .ok (.ireturn, 1) := by decide +kernel
set_option maxRecDepth 20000 in
theorem ggX0_mostOverloaded_X0_load : GoodIn wsX0_mostOverloaded wsX0_load := goodIn_r _ [7, 8, 9, 10, 11, 12, 6, 13, 1, 14, 15, 16, 17, 18, 19, 20, 21, 22, 23, 24, 25, 26, 27, 28, 29, 30, 31, 32, 33, 34, 35, 36, 37, 38, 39, 40, 41, 42, 43, 44, 45, 46, 47, 48] (by decide +kernel) (by decide +kernel)
set_option maxRecDepth 20000 in
theorem gX0_mostOverloaded_X0_load : GoodIn wsX0_mostOverloaded (wsV RX0 115 RX0 yX0_load wsX0_load) := goodIn_app (goodIn_of _ (by decide +kernel)) ggX0_mostOverloaded_X0_load
theorem dX0_mostOverloaded_0 : decode cX0_mostOverloaded 0 = .ok (.iconst 0, 1) := by decide +kernel
theorem dX0_mostOverloaded_1 : decode cX0_mostOverloaded 1 = .ok (.istore_n 2, 1) := by decide +kernel
theorem dX0_mostOverloaded_2 : decode cX0_mostOverloaded 2 = .ok (.bipush (-9), 2) := by decide +kernel
theorem dX0_mostOverloaded_4 : decode cX0_mostOverloaded 4 = .ok (.istore_n 3, 1) := by decide +kernel
theorem dX0_mostOverloaded_5 : decode cX0_mostOverloaded 5 = .ok (.iconst 0, 1) := by decide +kernel
theorem dX0_mostOverloaded_6 : decode cX0_mostOverloaded 6 = .ok (.istore 4, 2) := by decide +kernel
theorem dX0_mostOverloaded_8 : decode cX0_mostOverloaded 8 = .ok (.iload 4, 2) := by decide +kernel
theorem dX0_mostOverloaded_10 : decode cX0_mostOverloaded 10 = .ok (.aload_n 0, 1) := by decide +kernel
theorem dX0_mostOverloaded_11 : decode cX0_mostOverloaded 11 = .ok (.getfield 44, 3) := by decide +kernel
theorem dX0_mostOverloaded_14 : decode cX0_mostOverloaded 14 = .ok (.if_icmp .ge 38, 3) := by decide +kernel
theorem dX0_mostOverloaded_17 : decode cX0_mostOverloaded 17 = .ok (.aload_n 0, 1) := by decide +kernel
theorem dX0_mostOverloaded_18 : decode cX0_mostOverloaded 18 = .ok (.aload_n 1, 1) := by decide +kernel
theorem dX0_mostOverloaded_19 : decode cX0_mostOverloaded 19 = .ok (.iload 4, 2) := by decide +kernel
theorem dX0_mostOverloaded_21 : decode cX0_mostOverloaded 21 = .ok (.invokevirtual 115, 3) := by decide +kernel
theorem dX0_mostOverloaded_24 : decode cX0_mostOverloaded 24 = .ok (.aload_n 0, 1) := by decide +kernel
theorem dX0_mostOverloaded_25 : decode cX0_mostOverloaded 25 = .ok (.getfield 21, 3) := by decide +kernel
theorem dX0_mostOverloaded_28 : decode cX0_mostOverloaded 28 = .ok (.iload 4, 2) := by decide +kernel
theorem dX0_mostOverloaded_30 : decode cX0_mostOverloaded 30 = .ok (.iaload, 1) := by decide +kernel
theorem dX0_mostOverloaded_31 : decode cX0_mostOverloaded 31 = .ok (.isub, 1) := by decide +kernel
theorem dX0_mostOverloaded_32 : decode cX0_mostOverloaded 32 = .ok (.istore 5, 2) := by decide +kernel
theorem dX0_mostOverloaded_34 : decode cX0_mostOverloaded 34 = .ok (.iload 5, 2) := by decide +kernel
theorem dX0_mostOverloaded_36 : decode cX0_mostOverloaded 36 = .ok (.iload_n 2, 1) := by decide +kernel
theorem dX0_mostOverloaded_37 : decode cX0_mostOverloaded 37 = .ok (.if_icmp .le 9, 3) := by decide +kernel
theorem dX0_mostOverloaded_40 : decode cX0_mostOverloaded 40 = .ok (.iload 5, 2) := by decide +kernel
theorem dX0_mostOverloaded_42 : decode cX0_mostOverloaded 42 = .ok (.istore_n 2, 1) := by decide +kernel
theorem dX0_mostOverloaded_43 : decode cX0_mostOverloaded 43 = .ok (.iload 4, 2) := by decide +kernel
theorem dX0_mostOverloaded_45 : decode cX0_mostOverloaded 45 = .ok (.istore_n 3, 1) := by decide +kernel
theorem dX0_mostOverloaded_46 : decode cX0_mostOverloaded 46 = .ok (.iinc 4 1, 3) := by decide +kernel
theorem dX0_mostOverloaded_49 : decode cX0_mostOverloaded 49 = .ok (.goto (-41), 3) := by decide +kernel
theorem dX0_mostOverloaded_52 : decode cX0_mostOverloaded 52 = .ok (.iload_n 3, 1) := by decide +kernel
theorem dX0_mostOverloaded_53 : decode cX0_mostOverloaded 53 = .ok (.ireturn, 1) := by decide +kernel
set_option maxRecDepth 20000 in
theorem ggX0_grounded_X0_height : GoodIn wsX0_grounded wsX0_height := goodIn_r _ [6, 7, 8, 9, 10, 11, 12, 13, 14, 5, 15, 16, 17, 18, 19, 20, 21, 22, 23, 24, 25, 26, 27, 28, 29, 30, 31, 32, 33, 34, 35, 36, 37, 38, 39, 40, 41, 42, 43, 44, 45, 46] (by decide +kernel) (by decide +kernel)
set_option maxRecDepth 20000 in
theorem gX0_grounded_X0_height : GoodIn wsX0_grounded (wsV RX0 104 RX0 yX0_height wsX0_height) := goodIn_app (goodIn_of _ (by decide +kernel)) ggX0_grounded_X0_height
theorem dX0_grounded_0 : decode cX0_grounded 0 = .ok (.iconst 0, 1) := by decide +kernel
theorem dX0_grounded_1 : decode cX0_grounded 1 = .ok (.istore_n 2, 1) := by decide +kernel
theorem dX0_grounded_2 : decode cX0_grounded 2 = .ok (.iconst 0, 1) := by decide +kernel
theorem dX0_grounded_3 : decode cX0_grounded 3 = .ok (.istore_n 3, 1) := by decide +kernel
theorem dX0_grounded_4 : decode cX0_grounded 4 = .ok (.iload_n 3, 1) := by decide +kernel
theorem dX0_grounded_5 : decode cX0_grounded 5 = .ok (.aload_n 0, 1) := by decide +kernel
theorem dX0_grounded_6 : decode cX0_grounded 6 = .ok (.getfield 40, 3) := by decide +kernel
theorem dX0_grounded_9 : decode cX0_grounded 9 = .ok (.if_icmp .ge 24, 3) := by decide +kernel
theorem dX0_grounded_12 : decode cX0_grounded 12 = .ok (.aload_n 0, 1) := by decide +kernel
theorem dX0_grounded_13 : decode cX0_grounded 13 = .ok (.aload_n 1, 1) := by decide +kernel
theorem dX0_grounded_14 : decode cX0_grounded 14 = .ok (.iload_n 3, 1) := by decide +kernel
theorem dX0_grounded_15 : decode cX0_grounded 15 = .ok (.invokevirtual 104, 3) := by decide +kernel
theorem dX0_grounded_18 : decode cX0_grounded 18 = .ok (.ifCond .ne 9, 3) := by decide +kernel
theorem dX0_grounded_21 : decode cX0_grounded 21 = .ok (.iload_n 2, 1) := by decide +kernel
theorem dX0_grounded_22 : decode cX0_grounded 22 = .ok (.iconst 1, 1) := by decide +kernel
theorem dX0_grounded_23 : decode cX0_grounded 23 = .ok (.iload_n 3, 1) := by decide +kernel
theorem dX0_grounded_24 : decode cX0_grounded 24 = .ok (.ishl, 1) := by decide +kernel
theorem dX0_grounded_25 : decode cX0_grounded 25 = .ok (.ior, 1) := by decide +kernel
theorem dX0_grounded_26 : decode cX0_grounded 26 = .ok (.istore_n 2, 1) := by decide +kernel
theorem dX0_grounded_27 : decode cX0_grounded 27 = .ok (.iinc 3 1, 3) := by decide +kernel
theorem dX0_grounded_30 : decode cX0_grounded 30 = .ok (.goto (-26), 3) := by decide +kernel
theorem dX0_grounded_33 : decode cX0_grounded 33 = .ok (.iload_n 2, 1) := by decide +kernel
theorem dX0_grounded_34 : decode cX0_grounded 34 = .ok (.ireturn, 1) := by decide +kernel
set_option maxRecDepth 20000 in
theorem ggX0_groundsJust_X0_height : GoodIn wsX0_groundsJust wsX0_height := goodIn_r _ [6, 7, 8, 9, 10, 11, 12, 13, 14, 5, 15, 16, 17, 18, 19, 20, 21, 22, 23, 24, 25, 26, 27, 28, 29, 30, 31, 32, 33, 34, 35, 36, 37, 38, 39, 40, 41, 42, 43, 44, 45, 46] (by decide +kernel) (by decide +kernel)
set_option maxRecDepth 20000 in
theorem gX0_groundsJust_X0_height : GoodIn wsX0_groundsJust (wsV RX0 104 RX0 yX0_height wsX0_height) := goodIn_app (goodIn_of _ (by decide +kernel)) ggX0_groundsJust_X0_height
theorem dX0_groundsJust_0 : decode cX0_groundsJust 0 = .ok (.iconst 0, 1) := by decide +kernel
theorem dX0_groundsJust_1 : decode cX0_groundsJust 1 = .ok (.istore_n 3, 1) := by decide +kernel
theorem dX0_groundsJust_2 : decode cX0_groundsJust 2 = .ok (.iload_n 3, 1) := by decide +kernel
theorem dX0_groundsJust_3 : decode cX0_groundsJust 3 = .ok (.aload_n 0, 1) := by decide +kernel
theorem dX0_groundsJust_4 : decode cX0_groundsJust 4 = .ok (.getfield 40, 3) := by decide +kernel
theorem dX0_groundsJust_7 : decode cX0_groundsJust 7 = .ok (.if_icmp .ge 46, 3) := by decide +kernel
theorem dX0_groundsJust_10 : decode cX0_groundsJust 10 = .ok (.iload_n 2, 1) := by decide +kernel
theorem dX0_groundsJust_11 : decode cX0_groundsJust 11 = .ok (.iload_n 3, 1) := by decide +kernel
theorem dX0_groundsJust_12 : decode cX0_groundsJust 12 = .ok (.ishr, 1) := by decide +kernel
theorem dX0_groundsJust_13 : decode cX0_groundsJust 13 = .ok (.iconst 1, 1) := by decide +kernel
theorem dX0_groundsJust_14 : decode cX0_groundsJust 14 = .ok (.iand, 1) := by decide +kernel
theorem dX0_groundsJust_15 : decode cX0_groundsJust 15 = .ok (.iconst 1, 1) := by decide +kernel
theorem dX0_groundsJust_16 : decode cX0_groundsJust 16 = .ok (.if_icmp .ne 7, 3) := by decide +kernel
theorem dX0_groundsJust_19 : decode cX0_groundsJust 19 = .ok (.iconst 1, 1) := by decide +kernel
theorem dX0_groundsJust_20 : decode cX0_groundsJust 20 = .ok (.goto 4, 3) := by decide +kernel
theorem dX0_groundsJust_23 : decode cX0_groundsJust 23 = .ok (.iconst 0, 1) := by decide +kernel
theorem dX0_groundsJust_24 : decode cX0_groundsJust 24 = .ok (.istore 4, 2) := by decide +kernel
theorem dX0_groundsJust_26 : decode cX0_groundsJust 26 = .ok (.aload_n 0, 1) := by decide +kernel
theorem dX0_groundsJust_27 : decode cX0_groundsJust 27 = .ok (.aload_n 1, 1) := by decide +kernel
theorem dX0_groundsJust_28 : decode cX0_groundsJust 28 = .ok (.iload_n 3, 1) := by decide +kernel
theorem dX0_groundsJust_29 : decode cX0_groundsJust 29 = .ok (.invokevirtual 104, 3) := by decide +kernel
theorem dX0_groundsJust_32 : decode cX0_groundsJust 32 = .ok (.ifCond .ne 7, 3) := by decide +kernel
theorem dX0_groundsJust_35 : decode cX0_groundsJust 35 = .ok (.iconst 1, 1) := by decide +kernel
theorem dX0_groundsJust_36 : decode cX0_groundsJust 36 = .ok (.goto 4, 3) := by decide +kernel
theorem dX0_groundsJust_39 : decode cX0_groundsJust 39 = .ok (.iconst 0, 1) := by decide +kernel
theorem dX0_groundsJust_40 : decode cX0_groundsJust 40 = .ok (.iload 4, 2) := by decide +kernel
theorem dX0_groundsJust_42 : decode cX0_groundsJust 42 = .ok (.if_icmp .eq 5, 3) := by decide +kernel
theorem dX0_groundsJust_45 : decode cX0_groundsJust 45 = .ok (.iconst 0, 1) := by decide +kernel
theorem dX0_groundsJust_46 : decode cX0_groundsJust 46 = .ok (.ireturn, 1) := by decide +kernel
theorem dX0_groundsJust_47 : decode cX0_groundsJust 47 = .ok (.iinc 3 1, 3) := by decide +kernel
theorem dX0_groundsJust_50 : decode cX0_groundsJust 50 = .ok (.goto (-48), 3) := by decide +kernel
theorem dX0_groundsJust_53 : decode cX0_groundsJust 53 = .ok (.iconst 1, 1) := by decide +kernel
theorem dX0_groundsJust_54 : decode cX0_groundsJust 54 = .ok (.ireturn, 1) := by decide +kernel
set_option maxRecDepth 20000 in
theorem ggX0_heightsTogether_X0_height : GoodIn wsX0_heightsTogether wsX0_height := goodIn_r _ [6, 7, 8, 9, 10, 11, 12, 13, 14, 5, 15, 16, 17, 18, 19, 20, 21, 22, 23, 24, 25, 26, 27, 28, 29, 30, 31, 32, 33, 34, 35, 36, 37, 38, 39, 40, 41, 42, 43, 44, 45, 46] (by decide +kernel) (by decide +kernel)
set_option maxRecDepth 20000 in
theorem gX0_heightsTogether_X0_height : GoodIn wsX0_heightsTogether (wsV RX0 104 RX0 yX0_height wsX0_height) := goodIn_app (goodIn_of _ (by decide +kernel)) ggX0_heightsTogether_X0_height
theorem dX0_heightsTogether_0 : decode cX0_heightsTogether 0 = .ok (.iconst 0, 1) := by decide +kernel
theorem dX0_heightsTogether_1 : decode cX0_heightsTogether 1 = .ok (.istore_n 2, 1) := by decide +kernel
theorem dX0_heightsTogether_2 : decode cX0_heightsTogether 2 = .ok (.iconst 0, 1) := by decide +kernel
theorem dX0_heightsTogether_3 : decode cX0_heightsTogether 3 = .ok (.istore_n 3, 1) := by decide +kernel
theorem dX0_heightsTogether_4 : decode cX0_heightsTogether 4 = .ok (.iload_n 3, 1) := by decide +kernel
theorem dX0_heightsTogether_5 : decode cX0_heightsTogether 5 = .ok (.aload_n 0, 1) := by decide +kernel
theorem dX0_heightsTogether_6 : decode cX0_heightsTogether 6 = .ok (.getfield 40, 3) := by decide +kernel
theorem dX0_heightsTogether_9 : decode cX0_heightsTogether 9 = .ok (.if_icmp .ge 18, 3) := by decide +kernel
theorem dX0_heightsTogether_12 : decode cX0_heightsTogether 12 = .ok (.iload_n 2, 1) := by decide +kernel
theorem dX0_heightsTogether_13 : decode cX0_heightsTogether 13 = .ok (.aload_n 0, 1) := by decide +kernel
theorem dX0_heightsTogether_14 : decode cX0_heightsTogether 14 = .ok (.aload_n 1, 1) := by decide +kernel
theorem dX0_heightsTogether_15 : decode cX0_heightsTogether 15 = .ok (.iload_n 3, 1) := by decide +kernel
theorem dX0_heightsTogether_16 : decode cX0_heightsTogether 16 = .ok (.invokevirtual 104, 3) := by decide +kernel
theorem dX0_heightsTogether_19 : decode cX0_heightsTogether 19 = .ok (.iadd, 1) := by decide +kernel
theorem dX0_heightsTogether_20 : decode cX0_heightsTogether 20 = .ok (.istore_n 2, 1) := by decide +kernel
theorem dX0_heightsTogether_21 : decode cX0_heightsTogether 21 = .ok (.iinc 3 1, 3) := by decide +kernel
theorem dX0_heightsTogether_24 : decode cX0_heightsTogether 24 = .ok (.goto (-20), 3) := by decide +kernel
theorem dX0_heightsTogether_27 : decode cX0_heightsTogether 27 = .ok (.iload_n 2, 1) := by decide +kernel
theorem dX0_heightsTogether_28 : decode cX0_heightsTogether 28 = .ok (.ireturn, 1) := by decide +kernel
set_option maxRecDepth 20000 in
theorem ggX0_hangsAlike_X0_height : GoodIn wsX0_hangsAlike wsX0_height := goodIn_r _ [6, 7, 8, 9, 10, 11, 12, 13, 14, 5, 15, 16, 17, 18, 19, 20, 21, 22, 23, 24, 25, 26, 27, 28, 29, 30, 31, 32, 33, 34, 35, 36, 37, 38, 39, 40, 41, 42, 43, 44, 45, 46] (by decide +kernel) (by decide +kernel)
set_option maxRecDepth 20000 in
theorem gX0_hangsAlike_X0_height : GoodIn wsX0_hangsAlike (wsV RX0 104 RX0 yX0_height wsX0_height) := goodIn_app (goodIn_of _ (by decide +kernel)) ggX0_hangsAlike_X0_height
theorem dX0_hangsAlike_0 : decode cX0_hangsAlike 0 = .ok (.iconst 0, 1) := by decide +kernel
theorem dX0_hangsAlike_1 : decode cX0_hangsAlike 1 = .ok (.istore_n 3, 1) := by decide +kernel
theorem dX0_hangsAlike_2 : decode cX0_hangsAlike 2 = .ok (.iload_n 3, 1) := by decide +kernel
theorem dX0_hangsAlike_3 : decode cX0_hangsAlike 3 = .ok (.aload_n 0, 1) := by decide +kernel
theorem dX0_hangsAlike_4 : decode cX0_hangsAlike 4 = .ok (.getfield 40, 3) := by decide +kernel
theorem dX0_hangsAlike_7 : decode cX0_hangsAlike 7 = .ok (.if_icmp .ge 26, 3) := by decide +kernel
theorem dX0_hangsAlike_10 : decode cX0_hangsAlike 10 = .ok (.aload_n 0, 1) := by decide +kernel
theorem dX0_hangsAlike_11 : decode cX0_hangsAlike 11 = .ok (.aload_n 1, 1) := by decide +kernel
theorem dX0_hangsAlike_12 : decode cX0_hangsAlike 12 = .ok (.iload_n 3, 1) := by decide +kernel
theorem dX0_hangsAlike_13 : decode cX0_hangsAlike 13 = .ok (.invokevirtual 104, 3) := by decide +kernel
theorem dX0_hangsAlike_16 : decode cX0_hangsAlike 16 = .ok (.aload_n 0, 1) := by decide +kernel
theorem dX0_hangsAlike_17 : decode cX0_hangsAlike 17 = .ok (.aload_n 2, 1) := by decide +kernel
theorem dX0_hangsAlike_18 : decode cX0_hangsAlike 18 = .ok (.iload_n 3, 1) := by decide +kernel
theorem dX0_hangsAlike_19 : decode cX0_hangsAlike 19 = .ok (.invokevirtual 104, 3) := by decide +kernel
theorem dX0_hangsAlike_22 : decode cX0_hangsAlike 22 = .ok (.if_icmp .eq 5, 3) := by decide +kernel
theorem dX0_hangsAlike_25 : decode cX0_hangsAlike 25 = .ok (.iconst 0, 1) := by decide +kernel
theorem dX0_hangsAlike_26 : decode cX0_hangsAlike 26 = .ok (.ireturn, 1) := by decide +kernel
theorem dX0_hangsAlike_27 : decode cX0_hangsAlike 27 = .ok (.iinc 3 1, 3) := by decide +kernel
theorem dX0_hangsAlike_30 : decode cX0_hangsAlike 30 = .ok (.goto (-28), 3) := by decide +kernel
theorem dX0_hangsAlike_33 : decode cX0_hangsAlike 33 = .ok (.iconst 1, 1) := by decide +kernel
theorem dX0_hangsAlike_34 : decode cX0_hangsAlike 34 = .ok (.ireturn, 1) := by decide +kernel
set_option maxRecDepth 20000 in
theorem ggX0_crossings_X4_isCut : GoodIn wsX0_crossings wsX4_isCut := goodIn_r _ [6, 7, 27] (by decide +kernel) (by decide +kernel)
set_option maxRecDepth 20000 in
theorem gX0_crossings_X4_isCut : GoodIn wsX0_crossings (wsV RX0 84 RX4 yX4_isCut wsX4_isCut) := goodIn_app (goodIn_of _ (by decide +kernel)) ggX0_crossings_X4_isCut
set_option maxRecDepth 20000 in
theorem ggX0_crossings_X4_holeOf : GoodIn wsX0_crossings wsX4_holeOf := goodIn_r _ [11, 7, 27] (by decide +kernel) (by decide +kernel)
set_option maxRecDepth 20000 in
theorem gX0_crossings_X4_holeOf : GoodIn wsX0_crossings (wsV RX0 118 RX4 yX4_holeOf wsX4_holeOf) := goodIn_app (goodIn_of _ (by decide +kernel)) ggX0_crossings_X4_holeOf
set_option maxRecDepth 20000 in
theorem ggX0_crossings_X4_limbOf : GoodIn wsX0_crossings wsX4_limbOf := goodIn_r _ [15, 7, 27] (by decide +kernel) (by decide +kernel)
set_option maxRecDepth 20000 in
theorem gX0_crossings_X4_limbOf : GoodIn wsX0_crossings (wsV RX0 92 RX4 yX4_limbOf wsX4_limbOf) := goodIn_app (goodIn_of _ (by decide +kernel)) ggX0_crossings_X4_limbOf
theorem dX0_crossings_0 : decode cX0_crossings 0 = .ok (.iconst 0, 1) := by decide +kernel
theorem dX0_crossings_1 : decode cX0_crossings 1 = .ok (.istore_n 2, 1) := by decide +kernel
theorem dX0_crossings_2 : decode cX0_crossings 2 = .ok (.iconst 0, 1) := by decide +kernel
theorem dX0_crossings_3 : decode cX0_crossings 3 = .ok (.istore_n 3, 1) := by decide +kernel
theorem dX0_crossings_4 : decode cX0_crossings 4 = .ok (.iload_n 3, 1) := by decide +kernel
theorem dX0_crossings_5 : decode cX0_crossings 5 = .ok (.aload_n 0, 1) := by decide +kernel
theorem dX0_crossings_6 : decode cX0_crossings 6 = .ok (.getfield 44, 3) := by decide +kernel
theorem dX0_crossings_9 : decode cX0_crossings 9 = .ok (.if_icmp .ge 99, 3) := by decide +kernel
theorem dX0_crossings_12 : decode cX0_crossings 12 = .ok (.iconst 0, 1) := by decide +kernel
theorem dX0_crossings_13 : decode cX0_crossings 13 = .ok (.istore 4, 2) := by decide +kernel
theorem dX0_crossings_15 : decode cX0_crossings 15 = .ok (.iload 4, 2) := by decide +kernel
theorem dX0_crossings_17 : decode cX0_crossings 17 = .ok (.aload_n 0, 1) := by decide +kernel
theorem dX0_crossings_18 : decode cX0_crossings 18 = .ok (.getfield 44, 3) := by decide +kernel
theorem dX0_crossings_21 : decode cX0_crossings 21 = .ok (.if_icmp .ge 81, 3) := by decide +kernel
theorem dX0_crossings_24 : decode cX0_crossings 24 = .ok (.aload_n 1, 1) := by decide +kernel
theorem dX0_crossings_25 : decode cX0_crossings 25 = .ok (.iload_n 3, 1) := by decide +kernel
theorem dX0_crossings_26 : decode cX0_crossings 26 = .ok (.invokevirtual 84, 3) := by decide +kernel
theorem dX0_crossings_29 : decode cX0_crossings 29 = .ok (.ifCond .ne 16, 3) := by decide +kernel
theorem dX0_crossings_32 : decode cX0_crossings 32 = .ok (.aload_n 1, 1) := by decide +kernel
theorem dX0_crossings_33 : decode cX0_crossings 33 = .ok (.iload 4, 2) := by decide +kernel
theorem dX0_crossings_35 : decode cX0_crossings 35 = .ok (.invokevirtual 84, 3) := by decide +kernel
theorem dX0_crossings_38 : decode cX0_crossings 38 = .ok (.ifCond .ne 7, 3) := by decide +kernel
theorem dX0_crossings_41 : decode cX0_crossings 41 = .ok (.iconst 1, 1) := by decide +kernel
theorem dX0_crossings_42 : decode cX0_crossings 42 = .ok (.goto 4, 3) := by decide +kernel
theorem dX0_crossings_45 : decode cX0_crossings 45 = .ok (.iconst 0, 1) := by decide +kernel
theorem dX0_crossings_46 : decode cX0_crossings 46 = .ok (.istore 5, 2) := by decide +kernel
theorem dX0_crossings_48 : decode cX0_crossings 48 = .ok (.aload_n 1, 1) := by decide +kernel
theorem dX0_crossings_49 : decode cX0_crossings 49 = .ok (.iload_n 3, 1) := by decide +kernel
theorem dX0_crossings_50 : decode cX0_crossings 50 = .ok (.invokevirtual 118, 3) := by decide +kernel
theorem dX0_crossings_53 : decode cX0_crossings 53 = .ok (.aload_n 1, 1) := by decide +kernel
theorem dX0_crossings_54 : decode cX0_crossings 54 = .ok (.iload 4, 2) := by decide +kernel
theorem dX0_crossings_56 : decode cX0_crossings 56 = .ok (.invokevirtual 118, 3) := by decide +kernel
theorem dX0_crossings_59 : decode cX0_crossings 59 = .ok (.if_icmp .ge 7, 3) := by decide +kernel
theorem dX0_crossings_62 : decode cX0_crossings 62 = .ok (.iconst 1, 1) := by decide +kernel
theorem dX0_crossings_63 : decode cX0_crossings 63 = .ok (.goto 4, 3) := by decide +kernel
theorem dX0_crossings_66 : decode cX0_crossings 66 = .ok (.iconst 0, 1) := by decide +kernel
theorem dX0_crossings_67 : decode cX0_crossings 67 = .ok (.istore 6, 2) := by decide +kernel
theorem dX0_crossings_69 : decode cX0_crossings 69 = .ok (.iload 5, 2) := by decide +kernel
theorem dX0_crossings_71 : decode cX0_crossings 71 = .ok (.ifCond .eq 25, 3) := by decide +kernel
theorem dX0_crossings_74 : decode cX0_crossings 74 = .ok (.iload 6, 2) := by decide +kernel
theorem dX0_crossings_76 : decode cX0_crossings 76 = .ok (.ifCond .eq 20, 3) := by decide +kernel
theorem dX0_crossings_79 : decode cX0_crossings 79 = .ok (.aload_n 1, 1) := by decide +kernel
theorem dX0_crossings_80 : decode cX0_crossings 80 = .ok (.iload_n 3, 1) := by decide +kernel
theorem dX0_crossings_81 : decode cX0_crossings 81 = .ok (.invokevirtual 92, 3) := by decide +kernel
theorem dX0_crossings_84 : decode cX0_crossings 84 = .ok (.aload_n 1, 1) := by decide +kernel
theorem dX0_crossings_85 : decode cX0_crossings 85 = .ok (.iload 4, 2) := by decide +kernel
theorem dX0_crossings_87 : decode cX0_crossings 87 = .ok (.invokevirtual 92, 3) := by decide +kernel
theorem dX0_crossings_90 : decode cX0_crossings 90 = .ok (.if_icmp .le 6, 3) := by decide +kernel
theorem dX0_crossings_93 : decode cX0_crossings 93 = .ok (.iinc 2 1, 3) := by decide +kernel
theorem dX0_crossings_96 : decode cX0_crossings 96 = .ok (.iinc 4 1, 3) := by decide +kernel
theorem dX0_crossings_99 : decode cX0_crossings 99 = .ok (.goto (-84), 3) := by decide +kernel
theorem dX0_crossings_102 : decode cX0_crossings 102 = .ok (.iinc 3 1, 3) := by decide +kernel
theorem dX0_crossings_105 : decode cX0_crossings 105 = .ok (.goto (-101), 3) := by decide +kernel
theorem dX0_crossings_108 : decode cX0_crossings 108 = .ok (.iload_n 2, 1) := by decide +kernel
theorem dX0_crossings_109 : decode cX0_crossings 109 = .ok (.ireturn, 1) := by decide +kernel
theorem dX1_init_0 : decode cX1_init 0 = .ok (.aload_n 0, 1) := by decide +kernel
theorem dX1_init_1 : decode cX1_init 1 = .ok (.invokespecial 1, 3) := by decide +kernel
theorem dX1_init_4 : decode cX1_init 4 = .ok (.return_, 1) := by decide +kernel
theorem dX1_asked_0 : decode cX1_asked 0 = .ok (.aload_n 0, 1) := by decide +kernel
theorem dX1_asked_1 : decode cX1_asked 1 = .ok (.getfield 7, 3) := by decide +kernel
theorem dX1_asked_4 : decode cX1_asked 4 = .ok (.lreturn, 1) := by decide +kernel
set_option maxRecDepth 20000 in
theorem ggX1_asLimb_X0_height : GoodIn wsX1_asLimb wsX0_height := goodIn_r _ [6, 7, 8, 9, 10, 11, 12, 13, 14, 5, 15, 16, 17, 18, 19, 20, 21, 22, 23, 24, 25, 26, 27, 28, 29, 30, 31, 32, 33, 34, 36, 37, 38, 39, 40, 41, 42, 43, 44, 45, 46, 47] (by decide +kernel) (by decide +kernel)
set_option maxRecDepth 20000 in
theorem gX1_asLimb_X0_height : GoodIn wsX1_asLimb (wsV RX1 13 RX0 yX0_height wsX0_height) := goodIn_app (goodIn_of _ (by decide +kernel)) ggX1_asLimb_X0_height
theorem dX1_asLimb_0 : decode cX1_asLimb 0 = .ok (.aload_n 0, 1) := by decide +kernel
theorem dX1_asLimb_1 : decode cX1_asLimb 1 = .ok (.dup, 1) := by decide +kernel
theorem dX1_asLimb_2 : decode cX1_asLimb 2 = .ok (.getfield 7, 3) := by decide +kernel
theorem dX1_asLimb_5 : decode cX1_asLimb 5 = .ok (.lconst 1, 1) := by decide +kernel
theorem dX1_asLimb_6 : decode cX1_asLimb 6 = .ok (.ladd, 1) := by decide +kernel
theorem dX1_asLimb_7 : decode cX1_asLimb 7 = .ok (.putfield 7, 3) := by decide +kernel
theorem dX1_asLimb_10 : decode cX1_asLimb 10 = .ok (.aload_n 1, 1) := by decide +kernel
theorem dX1_asLimb_11 : decode cX1_asLimb 11 = .ok (.aload_n 2, 1) := by decide +kernel
theorem dX1_asLimb_12 : decode cX1_asLimb 12 = .ok (.iload_n 3, 1) := by decide +kernel
theorem dX1_asLimb_13 : decode cX1_asLimb 13 = .ok (.invokevirtual 13, 3) := by decide +kernel
theorem dX1_asLimb_16 : decode cX1_asLimb 16 = .ok (.ireturn, 1) := by decide +kernel
set_option maxRecDepth 20000 in
theorem ggX1_asHead_X1_asLimb : GoodIn wsX1_asHead wsX1_asLimb := goodIn_r _ [8, 1, 9, 10, 11, 12, 13, 14, 15, 16, 17, 18, 19, 20, 21, 22, 23, 24, 25, 26, 27, 28, 29, 30, 31, 32, 33, 34, 35, 36, 37, 38, 39, 40, 41, 42, 43, 44, 45, 46, 47, 48, 49, 50, 51, 52, 53, 54] (by decide +kernel) (by decide +kernel)
set_option maxRecDepth 20000 in
theorem gX1_asHead_X1_asLimb : GoodIn wsX1_asHead (wsV RX1 21 RX1 yX1_asLimb wsX1_asLimb) := goodIn_app (goodIn_of _ (by decide +kernel)) ggX1_asHead_X1_asLimb
theorem dX1_asHead_0 : decode cX1_asHead 0 = .ok (.aload_n 0, 1) := by decide +kernel
theorem dX1_asHead_1 : decode cX1_asHead 1 = .ok (.dup, 1) := by decide +kernel
theorem dX1_asHead_2 : decode cX1_asHead 2 = .ok (.getfield 7, 3) := by decide +kernel
theorem dX1_asHead_5 : decode cX1_asHead 5 = .ok (.ldc2_w 19, 3) := by decide +kernel
theorem dX1_asHead_8 : decode cX1_asHead 8 = .ok (.ladd, 1) := by decide +kernel
theorem dX1_asHead_9 : decode cX1_asHead 9 = .ok (.putfield 7, 3) := by decide +kernel
theorem dX1_asHead_12 : decode cX1_asHead 12 = .ok (.aload_n 0, 1) := by decide +kernel
theorem dX1_asHead_13 : decode cX1_asHead 13 = .ok (.aload_n 1, 1) := by decide +kernel
theorem dX1_asHead_14 : decode cX1_asHead 14 = .ok (.aload_n 2, 1) := by decide +kernel
theorem dX1_asHead_15 : decode cX1_asHead 15 = .ok (.iload_n 3, 1) := by decide +kernel
theorem dX1_asHead_16 : decode cX1_asHead 16 = .ok (.invokevirtual 21, 3) := by decide +kernel
theorem dX1_asHead_19 : decode cX1_asHead 19 = .ok (.aload_n 1, 1) := by decide +kernel
theorem dX1_asHead_20 : decode cX1_asHead 20 = .ok (.getfield 25, 3) := by decide +kernel
theorem dX1_asHead_23 : decode cX1_asHead 23 = .ok (.iload_n 3, 1) := by decide +kernel
theorem dX1_asHead_24 : decode cX1_asHead 24 = .ok (.iaload, 1) := by decide +kernel
theorem dX1_asHead_25 : decode cX1_asHead 25 = .ok (.iadd, 1) := by decide +kernel
theorem dX1_asHead_26 : decode cX1_asHead 26 = .ok (.ireturn, 1) := by decide +kernel
set_option maxRecDepth 20000 in
theorem ggX1_asFoot_X1_asLimb : GoodIn wsX1_asFoot wsX1_asLimb := goodIn_r _ [8, 1, 9, 10, 11, 12, 13, 14, 15, 16, 17, 18, 19, 20, 21, 22, 23, 24, 25, 26, 27, 28, 29, 30, 31, 32, 33, 34, 35, 36, 37, 38, 39, 40, 41, 42, 43, 44, 45, 46, 47, 48, 49, 50, 51, 52, 53, 54] (by decide +kernel) (by decide +kernel)
set_option maxRecDepth 20000 in
theorem gX1_asFoot_X1_asLimb : GoodIn wsX1_asFoot (wsV RX1 21 RX1 yX1_asLimb wsX1_asLimb) := goodIn_app (goodIn_of _ (by decide +kernel)) ggX1_asFoot_X1_asLimb
theorem dX1_asFoot_0 : decode cX1_asFoot 0 = .ok (.aload_n 0, 1) := by decide +kernel
theorem dX1_asFoot_1 : decode cX1_asFoot 1 = .ok (.dup, 1) := by decide +kernel
theorem dX1_asFoot_2 : decode cX1_asFoot 2 = .ok (.getfield 7, 3) := by decide +kernel
theorem dX1_asFoot_5 : decode cX1_asFoot 5 = .ok (.ldc2_w 29, 3) := by decide +kernel
theorem dX1_asFoot_8 : decode cX1_asFoot 8 = .ok (.ladd, 1) := by decide +kernel
theorem dX1_asFoot_9 : decode cX1_asFoot 9 = .ok (.putfield 7, 3) := by decide +kernel
theorem dX1_asFoot_12 : decode cX1_asFoot 12 = .ok (.aload_n 0, 1) := by decide +kernel
theorem dX1_asFoot_13 : decode cX1_asFoot 13 = .ok (.aload_n 1, 1) := by decide +kernel
theorem dX1_asFoot_14 : decode cX1_asFoot 14 = .ok (.aload_n 2, 1) := by decide +kernel
theorem dX1_asFoot_15 : decode cX1_asFoot 15 = .ok (.iload_n 3, 1) := by decide +kernel
theorem dX1_asFoot_16 : decode cX1_asFoot 16 = .ok (.invokevirtual 21, 3) := by decide +kernel
theorem dX1_asFoot_19 : decode cX1_asFoot 19 = .ok (.aload_n 1, 1) := by decide +kernel
theorem dX1_asFoot_20 : decode cX1_asFoot 20 = .ok (.getfield 31, 3) := by decide +kernel
theorem dX1_asFoot_23 : decode cX1_asFoot 23 = .ok (.iload_n 3, 1) := by decide +kernel
theorem dX1_asFoot_24 : decode cX1_asFoot 24 = .ok (.iaload, 1) := by decide +kernel
theorem dX1_asFoot_25 : decode cX1_asFoot 25 = .ok (.isub, 1) := by decide +kernel
theorem dX1_asFoot_26 : decode cX1_asFoot 26 = .ok (.ireturn, 1) := by decide +kernel
set_option maxRecDepth 20000 in
theorem ggX1_asCrown_X1_asHead : GoodIn wsX1_asCrown wsX1_asHead := goodIn_r _ [7, 1, 8, 9, 10, 11, 12, 6, 13, 14, 15, 16, 17, 18, 19, 20, 21, 22, 23, 24, 25, 26, 27, 28, 29, 30, 31, 32, 33, 34, 35, 36, 37, 38, 39, 40, 41, 42, 43, 44, 45, 46, 47, 48, 49, 50, 51, 52, 53, 54, 55, 56, 57, 58, 59] (by decide +kernel) (by decide +kernel)
set_option maxRecDepth 20000 in
theorem gX1_asCrown_X1_asHead : GoodIn wsX1_asCrown (wsV RX1 36 RX1 yX1_asHead wsX1_asHead) := goodIn_app (goodIn_of _ (by decide +kernel)) ggX1_asCrown_X1_asHead
theorem dX1_asCrown_0 : decode cX1_asCrown 0 = .ok (.aload_n 0, 1) := by decide +kernel
theorem dX1_asCrown_1 : decode cX1_asCrown 1 = .ok (.dup, 1) := by decide +kernel
theorem dX1_asCrown_2 : decode cX1_asCrown 2 = .ok (.getfield 7, 3) := by decide +kernel
theorem dX1_asCrown_5 : decode cX1_asCrown 5 = .ok (.ldc2_w 34, 3) := by decide +kernel
theorem dX1_asCrown_8 : decode cX1_asCrown 8 = .ok (.ladd, 1) := by decide +kernel
theorem dX1_asCrown_9 : decode cX1_asCrown 9 = .ok (.putfield 7, 3) := by decide +kernel
theorem dX1_asCrown_12 : decode cX1_asCrown 12 = .ok (.aload_n 0, 1) := by decide +kernel
theorem dX1_asCrown_13 : decode cX1_asCrown 13 = .ok (.aload_n 1, 1) := by decide +kernel
theorem dX1_asCrown_14 : decode cX1_asCrown 14 = .ok (.aload_n 2, 1) := by decide +kernel
theorem dX1_asCrown_15 : decode cX1_asCrown 15 = .ok (.iload_n 3, 1) := by decide +kernel
theorem dX1_asCrown_16 : decode cX1_asCrown 16 = .ok (.invokevirtual 36, 3) := by decide +kernel
theorem dX1_asCrown_19 : decode cX1_asCrown 19 = .ok (.iconst 2, 1) := by decide +kernel
theorem dX1_asCrown_20 : decode cX1_asCrown 20 = .ok (.imul, 1) := by decide +kernel
theorem dX1_asCrown_21 : decode cX1_asCrown 21 = .ok (.ireturn, 1) := by decide +kernel
set_option maxRecDepth 20000 in
theorem ggX1_asToe_X1_asFoot : GoodIn wsX1_asToe wsX1_asFoot := goodIn_r _ [7, 1, 8, 9, 10, 11, 12, 6, 13, 14, 15, 16, 17, 18, 19, 20, 21, 22, 23, 24, 25, 26, 27, 28, 29, 30, 31, 32, 33, 34, 35, 36, 37, 38, 39, 40, 41, 42, 43, 44, 45, 46, 47, 48, 49, 50, 51, 52, 53, 54, 55, 56, 57, 58, 59] (by decide +kernel) (by decide +kernel)
set_option maxRecDepth 20000 in
theorem gX1_asToe_X1_asFoot : GoodIn wsX1_asToe (wsV RX1 41 RX1 yX1_asFoot wsX1_asFoot) := goodIn_app (goodIn_of _ (by decide +kernel)) ggX1_asToe_X1_asFoot
theorem dX1_asToe_0 : decode cX1_asToe 0 = .ok (.aload_n 0, 1) := by decide +kernel
theorem dX1_asToe_1 : decode cX1_asToe 1 = .ok (.dup, 1) := by decide +kernel
theorem dX1_asToe_2 : decode cX1_asToe 2 = .ok (.getfield 7, 3) := by decide +kernel
theorem dX1_asToe_5 : decode cX1_asToe 5 = .ok (.ldc2_w 39, 3) := by decide +kernel
theorem dX1_asToe_8 : decode cX1_asToe 8 = .ok (.ladd, 1) := by decide +kernel
theorem dX1_asToe_9 : decode cX1_asToe 9 = .ok (.putfield 7, 3) := by decide +kernel
theorem dX1_asToe_12 : decode cX1_asToe 12 = .ok (.aload_n 0, 1) := by decide +kernel
theorem dX1_asToe_13 : decode cX1_asToe 13 = .ok (.aload_n 1, 1) := by decide +kernel
theorem dX1_asToe_14 : decode cX1_asToe 14 = .ok (.aload_n 2, 1) := by decide +kernel
theorem dX1_asToe_15 : decode cX1_asToe 15 = .ok (.iload_n 3, 1) := by decide +kernel
theorem dX1_asToe_16 : decode cX1_asToe 16 = .ok (.invokevirtual 41, 3) := by decide +kernel
theorem dX1_asToe_19 : decode cX1_asToe 19 = .ok (.iload_n 3, 1) := by decide +kernel
theorem dX1_asToe_20 : decode cX1_asToe 20 = .ok (.iadd, 1) := by decide +kernel
theorem dX1_asToe_21 : decode cX1_asToe 21 = .ok (.ireturn, 1) := by decide +kernel
set_option maxRecDepth 20000 in
theorem ggX1_asHand_X1_asLimb : GoodIn wsX1_asHand wsX1_asLimb := goodIn_r _ [7, 1, 8, 9, 10, 11, 12, 13, 14, 15, 16, 17, 18, 19, 20, 21, 22, 23, 24, 25, 26, 27, 28, 29, 30, 31, 32, 33, 34, 35, 36, 37, 38, 39, 40, 45, 46, 47, 48, 49, 50, 51, 52, 53, 54, 55, 56, 57] (by decide +kernel) (by decide +kernel)
set_option maxRecDepth 20000 in
theorem gX1_asHand_X1_asLimb : GoodIn wsX1_asHand (wsV RX1 21 RX1 yX1_asLimb wsX1_asLimb) := goodIn_app (goodIn_of _ (by decide +kernel)) ggX1_asHand_X1_asLimb
set_option maxRecDepth 20000 in
theorem ggX1_asHand_X4_lift : GoodIn wsX1_asHand wsX4_lift := goodIn_r _ [44, 27, 57] (by decide +kernel) (by decide +kernel)
set_option maxRecDepth 20000 in
theorem gX1_asHand_X4_lift : GoodIn wsX1_asHand (wsV RX1 46 RX4 yX4_lift wsX4_lift) := goodIn_app (goodIn_of _ (by decide +kernel)) ggX1_asHand_X4_lift
theorem dX1_asHand_0 : decode cX1_asHand 0 = .ok (.aload_n 0, 1) := by decide +kernel
theorem dX1_asHand_1 : decode cX1_asHand 1 = .ok (.dup, 1) := by decide +kernel
theorem dX1_asHand_2 : decode cX1_asHand 2 = .ok (.getfield 7, 3) := by decide +kernel
theorem dX1_asHand_5 : decode cX1_asHand 5 = .ok (.ldc2_w 44, 3) := by decide +kernel
theorem dX1_asHand_8 : decode cX1_asHand 8 = .ok (.ladd, 1) := by decide +kernel
theorem dX1_asHand_9 : decode cX1_asHand 9 = .ok (.putfield 7, 3) := by decide +kernel
theorem dX1_asHand_12 : decode cX1_asHand 12 = .ok (.aload_n 0, 1) := by decide +kernel
theorem dX1_asHand_13 : decode cX1_asHand 13 = .ok (.aload_n 1, 1) := by decide +kernel
theorem dX1_asHand_14 : decode cX1_asHand 14 = .ok (.aload_n 2, 1) := by decide +kernel
theorem dX1_asHand_15 : decode cX1_asHand 15 = .ok (.iload_n 3, 1) := by decide +kernel
theorem dX1_asHand_16 : decode cX1_asHand 16 = .ok (.invokevirtual 21, 3) := by decide +kernel
theorem dX1_asHand_19 : decode cX1_asHand 19 = .ok (.aload_n 2, 1) := by decide +kernel
theorem dX1_asHand_20 : decode cX1_asHand 20 = .ok (.invokevirtual 46, 3) := by decide +kernel
theorem dX1_asHand_23 : decode cX1_asHand 23 = .ok (.iadd, 1) := by decide +kernel
theorem dX1_asHand_24 : decode cX1_asHand 24 = .ok (.ireturn, 1) := by decide +kernel
theorem dX2_init_0 : decode cX2_init 0 = .ok (.aload_n 0, 1) := by decide +kernel
theorem dX2_init_1 : decode cX2_init 1 = .ok (.invokespecial 3, 3) := by decide +kernel
theorem dX2_init_4 : decode cX2_init 4 = .ok (.aload_n 0, 1) := by decide +kernel
theorem dX2_init_5 : decode cX2_init 5 = .ok (.sipush 896, 3) := by decide +kernel
theorem dX2_init_8 : decode cX2_init 8 = .ok (.newarray .int, 2) := by decide +kernel
theorem dX2_init_10 : decode cX2_init 10 = .ok (.putfield 9, 3) := by decide +kernel
theorem dX2_init_13 : decode cX2_init 13 = .ok (.aload_n 0, 1) := by decide +kernel
theorem dX2_init_14 : decode cX2_init 14 = .ok (.bipush 7, 2) := by decide +kernel
theorem dX2_init_16 : decode cX2_init 16 = .ok (.newarray .int, 2) := by decide +kernel
theorem dX2_init_18 : decode cX2_init 18 = .ok (.putfield 15, 3) := by decide +kernel
theorem dX2_init_21 : decode cX2_init 21 = .ok (.return_, 1) := by decide +kernel
theorem dX2_moves_0 : decode cX2_moves 0 = .ok (.aload_n 0, 1) := by decide +kernel
theorem dX2_moves_1 : decode cX2_moves 1 = .ok (.getfield 18, 3) := by decide +kernel
theorem dX2_moves_4 : decode cX2_moves 4 = .ok (.ireturn, 1) := by decide +kernel
theorem dX2_beatAt_0 : decode cX2_beatAt 0 = .ok (.aload_n 0, 1) := by decide +kernel
theorem dX2_beatAt_1 : decode cX2_beatAt 1 = .ok (.getfield 15, 3) := by decide +kernel
theorem dX2_beatAt_4 : decode cX2_beatAt 4 = .ok (.iload_n 1, 1) := by decide +kernel
theorem dX2_beatAt_5 : decode cX2_beatAt 5 = .ok (.iaload, 1) := by decide +kernel
theorem dX2_beatAt_6 : decode cX2_beatAt 6 = .ok (.ireturn, 1) := by decide +kernel
set_option maxRecDepth 20000 in
theorem ggX2_plan_X2_fillToGo : GoodIn wsX2_plan wsX2_fillToGo := goodIn_r _ [10, 2, 4, 5, 11, 12, 13, 14, 9, 15, 16, 17, 18, 19, 20, 21, 22, 23, 24, 25, 26, 40, 41, 42, 43, 44, 45, 46, 47, 48, 49, 50, 37, 38, 39] (by decide +kernel) (by decide +kernel)
set_option maxRecDepth 20000 in
theorem gX2_plan_X2_fillToGo : GoodIn wsX2_plan (wsV RX2 22 RX2 yX2_fillToGo wsX2_fillToGo) := goodIn_app (goodIn_of _ (by decide +kernel)) ggX2_plan_X2_fillToGo
set_option maxRecDepth 20000 in
theorem ggX2_plan_X4_lift : GoodIn wsX2_plan wsX4_lift := goodIn_r _ [31, 32, 51] (by decide +kernel) (by decide +kernel)
set_option maxRecDepth 20000 in
theorem gX2_plan_X4_lift : GoodIn wsX2_plan (wsV RX2 26 RX4 yX4_lift wsX4_lift) := goodIn_app (goodIn_of _ (by decide +kernel)) ggX2_plan_X4_lift
set_option maxRecDepth 20000 in
theorem ggX2_plan_X4_tilt : GoodIn wsX2_plan wsX4_tilt := goodIn_r _ [36, 32, 51] (by decide +kernel) (by decide +kernel)
set_option maxRecDepth 20000 in
theorem gX2_plan_X4_tilt : GoodIn wsX2_plan (wsV RX2 32 RX4 yX4_tilt wsX4_tilt) := goodIn_app (goodIn_of _ (by decide +kernel)) ggX2_plan_X4_tilt
set_option maxRecDepth 20000 in
theorem ggX2_plan_X2_bestNext : GoodIn wsX2_plan wsX2_bestNext := goodIn_r _ [15, 2, 16, 17, 18, 9, 19, 11, 20, 21, 22, 4, 23, 24, 25, 26, 5, 40, 41, 42, 43, 44, 45, 46, 47, 48, 49, 50, 37, 38, 39] (by decide +kernel) (by decide +kernel)
set_option maxRecDepth 20000 in
theorem gX2_plan_X2_bestNext : GoodIn wsX2_plan (wsV RX2 40 RX2 yX2_bestNext wsX2_bestNext) := goodIn_app (goodIn_of _ (by decide +kernel)) ggX2_plan_X2_bestNext
set_option maxRecDepth 20000 in
theorem ggX2_plan_X2_movesTo : GoodIn wsX2_plan wsX2_movesTo := goodIn_r _ [22, 4, 23, 24, 25, 26, 5, 40, 41, 42, 43, 44, 45, 46, 47, 48, 49, 50] (by decide +kernel) (by decide +kernel)
set_option maxRecDepth 20000 in
theorem gX2_plan_X2_movesTo : GoodIn wsX2_plan (va_wsS RX2 44 yX2_movesTo wsX2_movesTo) := goodIn_app (goodIn_of _ (by decide +kernel)) ggX2_plan_X2_movesTo
theorem dX2_plan_0 : decode cX2_plan 0 = .ok (.aload_n 0, 1) := by decide +kernel
theorem dX2_plan_1 : decode cX2_plan 1 = .ok (.aload_n 1, 1) := by decide +kernel
theorem dX2_plan_2 : decode cX2_plan 2 = .ok (.invokevirtual 22, 3) := by decide +kernel
theorem dX2_plan_5 : decode cX2_plan 5 = .ok (.aload_n 0, 1) := by decide +kernel
theorem dX2_plan_6 : decode cX2_plan 6 = .ok (.iconst 0, 1) := by decide +kernel
theorem dX2_plan_7 : decode cX2_plan 7 = .ok (.putfield 18, 3) := by decide +kernel
theorem dX2_plan_10 : decode cX2_plan 10 = .ok (.iconst 0, 1) := by decide +kernel
theorem dX2_plan_11 : decode cX2_plan 11 = .ok (.istore_n 3, 1) := by decide +kernel
theorem dX2_plan_12 : decode cX2_plan 12 = .ok (.aload_n 2, 1) := by decide +kernel
theorem dX2_plan_13 : decode cX2_plan 13 = .ok (.invokevirtual 26, 3) := by decide +kernel
theorem dX2_plan_16 : decode cX2_plan 16 = .ok (.istore 4, 2) := by decide +kernel
theorem dX2_plan_18 : decode cX2_plan 18 = .ok (.aload_n 2, 1) := by decide +kernel
theorem dX2_plan_19 : decode cX2_plan 19 = .ok (.invokevirtual 32, 3) := by decide +kernel
theorem dX2_plan_22 : decode cX2_plan 22 = .ok (.istore 5, 2) := by decide +kernel
theorem dX2_plan_24 : decode cX2_plan 24 = .ok (.iconst 0, 1) := by decide +kernel
theorem dX2_plan_25 : decode cX2_plan 25 = .ok (.istore 6, 2) := by decide +kernel
theorem dX2_plan_27 : decode cX2_plan 27 = .ok (.iload 6, 2) := by decide +kernel
theorem dX2_plan_29 : decode cX2_plan 29 = .ok (.aload_n 1, 1) := by decide +kernel
theorem dX2_plan_30 : decode cX2_plan 30 = .ok (.getfield 35, 3) := by decide +kernel
theorem dX2_plan_33 : decode cX2_plan 33 = .ok (.if_icmp .ge 82, 3) := by decide +kernel
theorem dX2_plan_36 : decode cX2_plan 36 = .ok (.aload_n 0, 1) := by decide +kernel
theorem dX2_plan_37 : decode cX2_plan 37 = .ok (.aload_n 1, 1) := by decide +kernel
theorem dX2_plan_38 : decode cX2_plan 38 = .ok (.iload_n 3, 1) := by decide +kernel
theorem dX2_plan_39 : decode cX2_plan 39 = .ok (.iload 4, 2) := by decide +kernel
theorem dX2_plan_41 : decode cX2_plan 41 = .ok (.iload 5, 2) := by decide +kernel
theorem dX2_plan_43 : decode cX2_plan 43 = .ok (.invokevirtual 40, 3) := by decide +kernel
theorem dX2_plan_46 : decode cX2_plan 46 = .ok (.istore 7, 2) := by decide +kernel
theorem dX2_plan_48 : decode cX2_plan 48 = .ok (.iload 7, 2) := by decide +kernel
theorem dX2_plan_50 : decode cX2_plan 50 = .ok (.bipush (-9), 2) := by decide +kernel
theorem dX2_plan_52 : decode cX2_plan 52 = .ok (.if_icmp .ne 4, 3) := by decide +kernel
theorem dX2_plan_55 : decode cX2_plan 55 = .ok (.return_, 1) := by decide +kernel
theorem dX2_plan_56 : decode cX2_plan 56 = .ok (.aload_n 0, 1) := by decide +kernel
theorem dX2_plan_57 : decode cX2_plan 57 = .ok (.dup, 1) := by decide +kernel
theorem dX2_plan_58 : decode cX2_plan 58 = .ok (.getfield 18, 3) := by decide +kernel
theorem dX2_plan_61 : decode cX2_plan 61 = .ok (.aload_n 1, 1) := by decide +kernel
theorem dX2_plan_62 : decode cX2_plan 62 = .ok (.iload 7, 2) := by decide +kernel
theorem dX2_plan_64 : decode cX2_plan 64 = .ok (.iload 4, 2) := by decide +kernel
theorem dX2_plan_66 : decode cX2_plan 66 = .ok (.iload 5, 2) := by decide +kernel
theorem dX2_plan_68 : decode cX2_plan 68 = .ok (.invokestatic 44, 3) := by decide +kernel
theorem dX2_plan_71 : decode cX2_plan 71 = .ok (.iadd, 1) := by decide +kernel
theorem dX2_plan_72 : decode cX2_plan 72 = .ok (.putfield 18, 3) := by decide +kernel
theorem dX2_plan_75 : decode cX2_plan 75 = .ok (.aload_n 0, 1) := by decide +kernel
theorem dX2_plan_76 : decode cX2_plan 76 = .ok (.getfield 15, 3) := by decide +kernel
theorem dX2_plan_79 : decode cX2_plan 79 = .ok (.iload 6, 2) := by decide +kernel
theorem dX2_plan_81 : decode cX2_plan 81 = .ok (.iload 7, 2) := by decide +kernel
theorem dX2_plan_83 : decode cX2_plan 83 = .ok (.iastore, 1) := by decide +kernel
theorem dX2_plan_84 : decode cX2_plan 84 = .ok (.iload_n 3, 1) := by decide +kernel
theorem dX2_plan_85 : decode cX2_plan 85 = .ok (.iconst 1, 1) := by decide +kernel
theorem dX2_plan_86 : decode cX2_plan 86 = .ok (.iload 7, 2) := by decide +kernel
theorem dX2_plan_88 : decode cX2_plan 88 = .ok (.ishl, 1) := by decide +kernel
theorem dX2_plan_89 : decode cX2_plan 89 = .ok (.ior, 1) := by decide +kernel
theorem dX2_plan_90 : decode cX2_plan 90 = .ok (.istore_n 3, 1) := by decide +kernel
theorem dX2_plan_91 : decode cX2_plan 91 = .ok (.aload_n 1, 1) := by decide +kernel
theorem dX2_plan_92 : decode cX2_plan 92 = .ok (.getfield 47, 3) := by decide +kernel
theorem dX2_plan_95 : decode cX2_plan 95 = .ok (.iload 7, 2) := by decide +kernel
theorem dX2_plan_97 : decode cX2_plan 97 = .ok (.iaload, 1) := by decide +kernel
theorem dX2_plan_98 : decode cX2_plan 98 = .ok (.istore 4, 2) := by decide +kernel
theorem dX2_plan_100 : decode cX2_plan 100 = .ok (.aload_n 1, 1) := by decide +kernel
theorem dX2_plan_101 : decode cX2_plan 101 = .ok (.getfield 50, 3) := by decide +kernel
theorem dX2_plan_104 : decode cX2_plan 104 = .ok (.iload 7, 2) := by decide +kernel
theorem dX2_plan_106 : decode cX2_plan 106 = .ok (.iaload, 1) := by decide +kernel
theorem dX2_plan_107 : decode cX2_plan 107 = .ok (.istore 5, 2) := by decide +kernel
theorem dX2_plan_109 : decode cX2_plan 109 = .ok (.iinc 6 1, 3) := by decide +kernel
theorem dX2_plan_112 : decode cX2_plan 112 = .ok (.goto (-85), 3) := by decide +kernel
theorem dX2_plan_115 : decode cX2_plan 115 = .ok (.return_, 1) := by decide +kernel
set_option maxRecDepth 20000 in
theorem ggX2_fillToGo_X2_bestNext : GoodIn wsX2_fillToGo wsX2_bestNext := goodIn_r _ [9, 1, 10, 11, 12, 8, 13, 4, 14, 15, 16, 2, 17, 18, 19, 20, 3, 21, 22, 23, 24, 25, 26, 27, 28, 29, 30, 31, 32, 33, 34] (by decide +kernel) (by decide +kernel)
set_option maxRecDepth 20000 in
theorem gX2_fillToGo_X2_bestNext : GoodIn wsX2_fillToGo (wsV RX2 40 RX2 yX2_bestNext wsX2_bestNext) := goodIn_app (goodIn_of _ (by decide +kernel)) ggX2_fillToGo_X2_bestNext
set_option maxRecDepth 20000 in
theorem ggX2_fillToGo_X2_through : GoodIn wsX2_fillToGo wsX2_through := goodIn_r _ [13, 4, 14, 15, 8, 16, 2, 17, 18, 19, 20, 3, 32, 33, 34, 21, 22, 23, 24, 25, 26, 27, 28, 29, 30, 31] (by decide +kernel) (by decide +kernel)
set_option maxRecDepth 20000 in
theorem gX2_fillToGo_X2_through : GoodIn wsX2_fillToGo (wsV RX2 53 RX2 yX2_through wsX2_through) := goodIn_app (goodIn_of _ (by decide +kernel)) ggX2_fillToGo_X2_through
theorem dX2_fillToGo_0 : decode cX2_fillToGo 0 = .ok (.iconst 1, 1) := by decide +kernel
theorem dX2_fillToGo_1 : decode cX2_fillToGo 1 = .ok (.aload_n 1, 1) := by decide +kernel
theorem dX2_fillToGo_2 : decode cX2_fillToGo 2 = .ok (.getfield 35, 3) := by decide +kernel
theorem dX2_fillToGo_5 : decode cX2_fillToGo 5 = .ok (.ishl, 1) := by decide +kernel
theorem dX2_fillToGo_6 : decode cX2_fillToGo 6 = .ok (.iconst 1, 1) := by decide +kernel
theorem dX2_fillToGo_7 : decode cX2_fillToGo 7 = .ok (.isub, 1) := by decide +kernel
theorem dX2_fillToGo_8 : decode cX2_fillToGo 8 = .ok (.istore_n 2, 1) := by decide +kernel
theorem dX2_fillToGo_9 : decode cX2_fillToGo 9 = .ok (.iload_n 2, 1) := by decide +kernel
theorem dX2_fillToGo_10 : decode cX2_fillToGo 10 = .ok (.ifCond .le 87, 3) := by decide +kernel
theorem dX2_fillToGo_13 : decode cX2_fillToGo 13 = .ok (.iconst 0, 1) := by decide +kernel
theorem dX2_fillToGo_14 : decode cX2_fillToGo 14 = .ok (.istore_n 3, 1) := by decide +kernel
theorem dX2_fillToGo_15 : decode cX2_fillToGo 15 = .ok (.iload_n 3, 1) := by decide +kernel
theorem dX2_fillToGo_16 : decode cX2_fillToGo 16 = .ok (.aload_n 1, 1) := by decide +kernel
theorem dX2_fillToGo_17 : decode cX2_fillToGo 17 = .ok (.getfield 35, 3) := by decide +kernel
theorem dX2_fillToGo_20 : decode cX2_fillToGo 20 = .ok (.if_icmp .ge 71, 3) := by decide +kernel
theorem dX2_fillToGo_23 : decode cX2_fillToGo 23 = .ok (.aload_n 1, 1) := by decide +kernel
theorem dX2_fillToGo_24 : decode cX2_fillToGo 24 = .ok (.getfield 47, 3) := by decide +kernel
theorem dX2_fillToGo_27 : decode cX2_fillToGo 27 = .ok (.iload_n 3, 1) := by decide +kernel
theorem dX2_fillToGo_28 : decode cX2_fillToGo 28 = .ok (.iaload, 1) := by decide +kernel
theorem dX2_fillToGo_29 : decode cX2_fillToGo 29 = .ok (.istore 4, 2) := by decide +kernel
theorem dX2_fillToGo_31 : decode cX2_fillToGo 31 = .ok (.aload_n 1, 1) := by decide +kernel
theorem dX2_fillToGo_32 : decode cX2_fillToGo 32 = .ok (.getfield 50, 3) := by decide +kernel
theorem dX2_fillToGo_35 : decode cX2_fillToGo 35 = .ok (.iload_n 3, 1) := by decide +kernel
theorem dX2_fillToGo_36 : decode cX2_fillToGo 36 = .ok (.iaload, 1) := by decide +kernel
theorem dX2_fillToGo_37 : decode cX2_fillToGo 37 = .ok (.istore 5, 2) := by decide +kernel
theorem dX2_fillToGo_39 : decode cX2_fillToGo 39 = .ok (.aload_n 0, 1) := by decide +kernel
theorem dX2_fillToGo_40 : decode cX2_fillToGo 40 = .ok (.aload_n 1, 1) := by decide +kernel
theorem dX2_fillToGo_41 : decode cX2_fillToGo 41 = .ok (.iload_n 2, 1) := by decide +kernel
theorem dX2_fillToGo_42 : decode cX2_fillToGo 42 = .ok (.iload 4, 2) := by decide +kernel
theorem dX2_fillToGo_44 : decode cX2_fillToGo 44 = .ok (.iload 5, 2) := by decide +kernel
theorem dX2_fillToGo_46 : decode cX2_fillToGo 46 = .ok (.invokevirtual 40, 3) := by decide +kernel
theorem dX2_fillToGo_49 : decode cX2_fillToGo 49 = .ok (.istore 6, 2) := by decide +kernel
theorem dX2_fillToGo_51 : decode cX2_fillToGo 51 = .ok (.aload_n 0, 1) := by decide +kernel
theorem dX2_fillToGo_52 : decode cX2_fillToGo 52 = .ok (.getfield 9, 3) := by decide +kernel
theorem dX2_fillToGo_55 : decode cX2_fillToGo 55 = .ok (.iload_n 2, 1) := by decide +kernel
theorem dX2_fillToGo_56 : decode cX2_fillToGo 56 = .ok (.bipush 7, 2) := by decide +kernel
theorem dX2_fillToGo_58 : decode cX2_fillToGo 58 = .ok (.imul, 1) := by decide +kernel
theorem dX2_fillToGo_59 : decode cX2_fillToGo 59 = .ok (.iload_n 3, 1) := by decide +kernel
theorem dX2_fillToGo_60 : decode cX2_fillToGo 60 = .ok (.iadd, 1) := by decide +kernel
theorem dX2_fillToGo_61 : decode cX2_fillToGo 61 = .ok (.iload 6, 2) := by decide +kernel
theorem dX2_fillToGo_63 : decode cX2_fillToGo 63 = .ok (.bipush (-9), 2) := by decide +kernel
theorem dX2_fillToGo_65 : decode cX2_fillToGo 65 = .ok (.if_icmp .ne 7, 3) := by decide +kernel
theorem dX2_fillToGo_68 : decode cX2_fillToGo 68 = .ok (.iconst 0, 1) := by decide +kernel
theorem dX2_fillToGo_69 : decode cX2_fillToGo 69 = .ok (.goto 15, 3) := by decide +kernel
theorem dX2_fillToGo_72 : decode cX2_fillToGo 72 = .ok (.aload_n 0, 1) := by decide +kernel
theorem dX2_fillToGo_73 : decode cX2_fillToGo 73 = .ok (.aload_n 1, 1) := by decide +kernel
theorem dX2_fillToGo_74 : decode cX2_fillToGo 74 = .ok (.iload_n 2, 1) := by decide +kernel
theorem dX2_fillToGo_75 : decode cX2_fillToGo 75 = .ok (.iload 6, 2) := by decide +kernel
theorem dX2_fillToGo_77 : decode cX2_fillToGo 77 = .ok (.iload 4, 2) := by decide +kernel
theorem dX2_fillToGo_79 : decode cX2_fillToGo 79 = .ok (.iload 5, 2) := by decide +kernel
theorem dX2_fillToGo_81 : decode cX2_fillToGo 81 = .ok (.invokevirtual 53, 3) := by decide +kernel
theorem dX2_fillToGo_84 : decode cX2_fillToGo 84 = .ok (.iastore, 1) := by decide +kernel
theorem dX2_fillToGo_85 : decode cX2_fillToGo 85 = .ok (.iinc 3 1, 3) := by decide +kernel
theorem dX2_fillToGo_88 : decode cX2_fillToGo 88 = .ok (.goto (-73), 3) := by decide +kernel
theorem dX2_fillToGo_91 : decode cX2_fillToGo 91 = .ok (.iinc 2 (-1), 3) := by decide +kernel
theorem dX2_fillToGo_94 : decode cX2_fillToGo 94 = .ok (.goto (-85), 3) := by decide +kernel
theorem dX2_fillToGo_97 : decode cX2_fillToGo 97 = .ok (.return_, 1) := by decide +kernel
set_option maxRecDepth 20000 in
theorem ggX2_bestNext_X2_through : GoodIn wsX2_bestNext wsX2_through := goodIn_r _ [6, 7, 8, 9, 5, 10, 11, 12, 13, 14, 15, 16, 28, 29, 30, 17, 18, 19, 20, 21, 22, 23, 24, 25, 26, 27] (by decide +kernel) (by decide +kernel)
set_option maxRecDepth 20000 in
theorem gX2_bestNext_X2_through : GoodIn wsX2_bestNext (wsV RX2 53 RX2 yX2_through wsX2_through) := goodIn_app (goodIn_of _ (by decide +kernel)) ggX2_bestNext_X2_through
theorem dX2_bestNext_0 : decode cX2_bestNext 0 = .ok (.bipush (-9), 2) := by decide +kernel
theorem dX2_bestNext_2 : decode cX2_bestNext 2 = .ok (.istore 5, 2) := by decide +kernel
theorem dX2_bestNext_4 : decode cX2_bestNext 4 = .ok (.iconst 0, 1) := by decide +kernel
theorem dX2_bestNext_5 : decode cX2_bestNext 5 = .ok (.istore 6, 2) := by decide +kernel
theorem dX2_bestNext_7 : decode cX2_bestNext 7 = .ok (.iconst 0, 1) := by decide +kernel
theorem dX2_bestNext_8 : decode cX2_bestNext 8 = .ok (.istore 7, 2) := by decide +kernel
theorem dX2_bestNext_10 : decode cX2_bestNext 10 = .ok (.iload 7, 2) := by decide +kernel
theorem dX2_bestNext_12 : decode cX2_bestNext 12 = .ok (.aload_n 1, 1) := by decide +kernel
theorem dX2_bestNext_13 : decode cX2_bestNext 13 = .ok (.getfield 35, 3) := by decide +kernel
theorem dX2_bestNext_16 : decode cX2_bestNext 16 = .ok (.if_icmp .ge 53, 3) := by decide +kernel
theorem dX2_bestNext_19 : decode cX2_bestNext 19 = .ok (.iload_n 2, 1) := by decide +kernel
theorem dX2_bestNext_20 : decode cX2_bestNext 20 = .ok (.iload 7, 2) := by decide +kernel
theorem dX2_bestNext_22 : decode cX2_bestNext 22 = .ok (.ishr, 1) := by decide +kernel
theorem dX2_bestNext_23 : decode cX2_bestNext 23 = .ok (.iconst 1, 1) := by decide +kernel
theorem dX2_bestNext_24 : decode cX2_bestNext 24 = .ok (.iand, 1) := by decide +kernel
theorem dX2_bestNext_25 : decode cX2_bestNext 25 = .ok (.ifCond .ne 38, 3) := by decide +kernel
theorem dX2_bestNext_28 : decode cX2_bestNext 28 = .ok (.aload_n 0, 1) := by decide +kernel
theorem dX2_bestNext_29 : decode cX2_bestNext 29 = .ok (.aload_n 1, 1) := by decide +kernel
theorem dX2_bestNext_30 : decode cX2_bestNext 30 = .ok (.iload_n 2, 1) := by decide +kernel
theorem dX2_bestNext_31 : decode cX2_bestNext 31 = .ok (.iload 7, 2) := by decide +kernel
theorem dX2_bestNext_33 : decode cX2_bestNext 33 = .ok (.iload_n 3, 1) := by decide +kernel
theorem dX2_bestNext_34 : decode cX2_bestNext 34 = .ok (.iload 4, 2) := by decide +kernel
theorem dX2_bestNext_36 : decode cX2_bestNext 36 = .ok (.invokevirtual 53, 3) := by decide +kernel
theorem dX2_bestNext_39 : decode cX2_bestNext 39 = .ok (.istore 8, 2) := by decide +kernel
theorem dX2_bestNext_41 : decode cX2_bestNext 41 = .ok (.iload 5, 2) := by decide +kernel
theorem dX2_bestNext_43 : decode cX2_bestNext 43 = .ok (.bipush (-9), 2) := by decide +kernel
theorem dX2_bestNext_45 : decode cX2_bestNext 45 = .ok (.if_icmp .eq 10, 3) := by decide +kernel
theorem dX2_bestNext_48 : decode cX2_bestNext 48 = .ok (.iload 8, 2) := by decide +kernel
theorem dX2_bestNext_50 : decode cX2_bestNext 50 = .ok (.iload 6, 2) := by decide +kernel
theorem dX2_bestNext_52 : decode cX2_bestNext 52 = .ok (.if_icmp .ge 11, 3) := by decide +kernel
theorem dX2_bestNext_55 : decode cX2_bestNext 55 = .ok (.iload 7, 2) := by decide +kernel
theorem dX2_bestNext_57 : decode cX2_bestNext 57 = .ok (.istore 5, 2) := by decide +kernel
theorem dX2_bestNext_59 : decode cX2_bestNext 59 = .ok (.iload 8, 2) := by decide +kernel
theorem dX2_bestNext_61 : decode cX2_bestNext 61 = .ok (.istore 6, 2) := by decide +kernel
theorem dX2_bestNext_63 : decode cX2_bestNext 63 = .ok (.iinc 7 1, 3) := by decide +kernel
theorem dX2_bestNext_66 : decode cX2_bestNext 66 = .ok (.goto (-56), 3) := by decide +kernel
theorem dX2_bestNext_69 : decode cX2_bestNext 69 = .ok (.iload 5, 2) := by decide +kernel
theorem dX2_bestNext_71 : decode cX2_bestNext 71 = .ok (.ireturn, 1) := by decide +kernel
set_option maxRecDepth 20000 in
theorem ggX2_through_X2_movesTo : GoodIn wsX2_through wsX2_movesTo := goodIn_r _ [5, 6, 7, 8, 9, 10, 11, 15, 16, 17, 18, 19, 20, 21, 22, 23, 24, 25] (by decide +kernel) (by decide +kernel)
set_option maxRecDepth 20000 in
theorem gX2_through_X2_movesTo : GoodIn wsX2_through (va_wsS RX2 44 yX2_movesTo wsX2_movesTo) := goodIn_app (goodIn_of _ (by decide +kernel)) ggX2_through_X2_movesTo
theorem dX2_through_0 : decode cX2_through 0 = .ok (.aload_n 1, 1) := by decide +kernel
theorem dX2_through_1 : decode cX2_through 1 = .ok (.iload_n 3, 1) := by decide +kernel
theorem dX2_through_2 : decode cX2_through 2 = .ok (.iload 4, 2) := by decide +kernel
theorem dX2_through_4 : decode cX2_through 4 = .ok (.iload 5, 2) := by decide +kernel
theorem dX2_through_6 : decode cX2_through 6 = .ok (.invokestatic 44, 3) := by decide +kernel
theorem dX2_through_9 : decode cX2_through 9 = .ok (.aload_n 0, 1) := by decide +kernel
theorem dX2_through_10 : decode cX2_through 10 = .ok (.getfield 9, 3) := by decide +kernel
theorem dX2_through_13 : decode cX2_through 13 = .ok (.iload_n 2, 1) := by decide +kernel
theorem dX2_through_14 : decode cX2_through 14 = .ok (.iconst 1, 1) := by decide +kernel
theorem dX2_through_15 : decode cX2_through 15 = .ok (.iload_n 3, 1) := by decide +kernel
theorem dX2_through_16 : decode cX2_through 16 = .ok (.ishl, 1) := by decide +kernel
theorem dX2_through_17 : decode cX2_through 17 = .ok (.ior, 1) := by decide +kernel
theorem dX2_through_18 : decode cX2_through 18 = .ok (.bipush 7, 2) := by decide +kernel
theorem dX2_through_20 : decode cX2_through 20 = .ok (.imul, 1) := by decide +kernel
theorem dX2_through_21 : decode cX2_through 21 = .ok (.iload_n 3, 1) := by decide +kernel
theorem dX2_through_22 : decode cX2_through 22 = .ok (.iadd, 1) := by decide +kernel
theorem dX2_through_23 : decode cX2_through 23 = .ok (.iaload, 1) := by decide +kernel
theorem dX2_through_24 : decode cX2_through 24 = .ok (.iadd, 1) := by decide +kernel
theorem dX2_through_25 : decode cX2_through 25 = .ok (.ireturn, 1) := by decide +kernel
theorem dX2_movesTo_0 : decode cX2_movesTo 0 = .ok (.aload_n 0, 1) := by decide +kernel
theorem dX2_movesTo_1 : decode cX2_movesTo 1 = .ok (.getfield 47, 3) := by decide +kernel
theorem dX2_movesTo_4 : decode cX2_movesTo 4 = .ok (.iload_n 1, 1) := by decide +kernel
theorem dX2_movesTo_5 : decode cX2_movesTo 5 = .ok (.iaload, 1) := by decide +kernel
theorem dX2_movesTo_6 : decode cX2_movesTo 6 = .ok (.iload_n 2, 1) := by decide +kernel
theorem dX2_movesTo_7 : decode cX2_movesTo 7 = .ok (.isub, 1) := by decide +kernel
theorem dX2_movesTo_8 : decode cX2_movesTo 8 = .ok (.invokestatic 57, 3) := by decide +kernel
theorem dX2_movesTo_11 : decode cX2_movesTo 11 = .ok (.aload_n 0, 1) := by decide +kernel
theorem dX2_movesTo_12 : decode cX2_movesTo 12 = .ok (.getfield 50, 3) := by decide +kernel
theorem dX2_movesTo_15 : decode cX2_movesTo 15 = .ok (.iload_n 1, 1) := by decide +kernel
theorem dX2_movesTo_16 : decode cX2_movesTo 16 = .ok (.iaload, 1) := by decide +kernel
theorem dX2_movesTo_17 : decode cX2_movesTo 17 = .ok (.iload_n 3, 1) := by decide +kernel
theorem dX2_movesTo_18 : decode cX2_movesTo 18 = .ok (.isub, 1) := by decide +kernel
theorem dX2_movesTo_19 : decode cX2_movesTo 19 = .ok (.invokestatic 57, 3) := by decide +kernel
theorem dX2_movesTo_22 : decode cX2_movesTo 22 = .ok (.iadd, 1) := by decide +kernel
theorem dX2_movesTo_23 : decode cX2_movesTo 23 = .ok (.ireturn, 1) := by decide +kernel
theorem dX3_init_0 : decode cX3_init 0 = .ok (.aload_n 0, 1) := by decide +kernel
theorem dX3_init_1 : decode cX3_init 1 = .ok (.invokespecial 1, 3) := by decide +kernel
theorem dX3_init_4 : decode cX3_init 4 = .ok (.aload_n 0, 1) := by decide +kernel
theorem dX3_init_5 : decode cX3_init 5 = .ok (.sipush 210, 3) := by decide +kernel
theorem dX3_init_8 : decode cX3_init 8 = .ok (.newarray .int, 2) := by decide +kernel
theorem dX3_init_10 : decode cX3_init 10 = .ok (.putfield 11, 3) := by decide +kernel
theorem dX3_init_13 : decode cX3_init 13 = .ok (.return_, 1) := by decide +kernel
theorem dX3_known_0 : decode cX3_known 0 = .ok (.aload_n 0, 1) := by decide +kernel
theorem dX3_known_1 : decode cX3_known 1 = .ok (.getfield 15, 3) := by decide +kernel
theorem dX3_known_4 : decode cX3_known 4 = .ok (.ireturn, 1) := by decide +kernel
theorem dX3_empty_0 : decode cX3_empty 0 = .ok (.aload_n 0, 1) := by decide +kernel
theorem dX3_empty_1 : decode cX3_empty 1 = .ok (.iconst 0, 1) := by decide +kernel
theorem dX3_empty_2 : decode cX3_empty 2 = .ok (.putfield 15, 3) := by decide +kernel
theorem dX3_empty_5 : decode cX3_empty 5 = .ok (.aload_n 0, 1) := by decide +kernel
theorem dX3_empty_6 : decode cX3_empty 6 = .ok (.iconst 0, 1) := by decide +kernel
theorem dX3_empty_7 : decode cX3_empty 7 = .ok (.putfield 19, 3) := by decide +kernel
theorem dX3_empty_10 : decode cX3_empty 10 = .ok (.return_, 1) := by decide +kernel
set_option maxRecDepth 20000 in
theorem ggX3_add_X4_writeTo : GoodIn wsX3_add wsX4_writeTo := goodIn_r _ [12, 13, 14, 15, 16, 17, 21] (by decide +kernel) (by decide +kernel)
set_option maxRecDepth 20000 in
theorem gX3_add_X4_writeTo : GoodIn wsX3_add (wsV RX3 22 RX4 yX4_writeTo wsX4_writeTo) := goodIn_app (goodIn_of _ (by decide +kernel)) ggX3_add_X4_writeTo
theorem dX3_add_0 : decode cX3_add 0 = .ok (.aload_n 1, 1) := by decide +kernel
theorem dX3_add_1 : decode cX3_add 1 = .ok (.aload_n 0, 1) := by decide +kernel
theorem dX3_add_2 : decode cX3_add 2 = .ok (.getfield 11, 3) := by decide +kernel
theorem dX3_add_5 : decode cX3_add 5 = .ok (.aload_n 0, 1) := by decide +kernel
theorem dX3_add_6 : decode cX3_add 6 = .ok (.getfield 19, 3) := by decide +kernel
theorem dX3_add_9 : decode cX3_add 9 = .ok (.invokevirtual 22, 3) := by decide +kernel
theorem dX3_add_12 : decode cX3_add 12 = .ok (.aload_n 0, 1) := by decide +kernel
theorem dX3_add_13 : decode cX3_add 13 = .ok (.aload_n 0, 1) := by decide +kernel
theorem dX3_add_14 : decode cX3_add 14 = .ok (.getfield 19, 3) := by decide +kernel
theorem dX3_add_17 : decode cX3_add 17 = .ok (.iconst 1, 1) := by decide +kernel
theorem dX3_add_18 : decode cX3_add 18 = .ok (.iadd, 1) := by decide +kernel
theorem dX3_add_19 : decode cX3_add 19 = .ok (.bipush 10, 2) := by decide +kernel
theorem dX3_add_21 : decode cX3_add 21 = .ok (.if_icmp .ge 12, 3) := by decide +kernel
theorem dX3_add_24 : decode cX3_add 24 = .ok (.aload_n 0, 1) := by decide +kernel
theorem dX3_add_25 : decode cX3_add 25 = .ok (.getfield 19, 3) := by decide +kernel
theorem dX3_add_28 : decode cX3_add 28 = .ok (.iconst 1, 1) := by decide +kernel
theorem dX3_add_29 : decode cX3_add 29 = .ok (.iadd, 1) := by decide +kernel
theorem dX3_add_30 : decode cX3_add 30 = .ok (.goto 4, 3) := by decide +kernel
theorem dX3_add_33 : decode cX3_add 33 = .ok (.iconst 0, 1) := by decide +kernel
theorem dX3_add_34 : decode cX3_add 34 = .ok (.putfield 19, 3) := by decide +kernel
theorem dX3_add_37 : decode cX3_add 37 = .ok (.aload_n 0, 1) := by decide +kernel
theorem dX3_add_38 : decode cX3_add 38 = .ok (.aload_n 0, 1) := by decide +kernel
theorem dX3_add_39 : decode cX3_add 39 = .ok (.getfield 15, 3) := by decide +kernel
theorem dX3_add_42 : decode cX3_add 42 = .ok (.iconst 1, 1) := by decide +kernel
theorem dX3_add_43 : decode cX3_add 43 = .ok (.iadd, 1) := by decide +kernel
theorem dX3_add_44 : decode cX3_add 44 = .ok (.bipush 10, 2) := by decide +kernel
theorem dX3_add_46 : decode cX3_add 46 = .ok (.invokestatic 26, 3) := by decide +kernel
theorem dX3_add_49 : decode cX3_add 49 = .ok (.putfield 15, 3) := by decide +kernel
theorem dX3_add_52 : decode cX3_add 52 = .ok (.return_, 1) := by decide +kernel
set_option maxRecDepth 20000 in
theorem ggX3_takeBack_X4_readFrom : GoodIn wsX3_takeBack wsX4_readFrom := goodIn_r _ [8, 9, 10, 11, 12, 13, 17] (by decide +kernel) (by decide +kernel)
set_option maxRecDepth 20000 in
theorem gX3_takeBack_X4_readFrom : GoodIn wsX3_takeBack (wsV RX3 32 RX4 yX4_readFrom wsX4_readFrom) := goodIn_app (goodIn_of _ (by decide +kernel)) ggX3_takeBack_X4_readFrom
theorem dX3_takeBack_0 : decode cX3_takeBack 0 = .ok (.aload_n 0, 1) := by decide +kernel
theorem dX3_takeBack_1 : decode cX3_takeBack 1 = .ok (.getfield 15, 3) := by decide +kernel
theorem dX3_takeBack_4 : decode cX3_takeBack 4 = .ok (.ifCond .ne 5, 3) := by decide +kernel
theorem dX3_takeBack_7 : decode cX3_takeBack 7 = .ok (.iconst 0, 1) := by decide +kernel
theorem dX3_takeBack_8 : decode cX3_takeBack 8 = .ok (.ireturn, 1) := by decide +kernel
theorem dX3_takeBack_9 : decode cX3_takeBack 9 = .ok (.aload_n 0, 1) := by decide +kernel
theorem dX3_takeBack_10 : decode cX3_takeBack 10 = .ok (.aload_n 0, 1) := by decide +kernel
theorem dX3_takeBack_11 : decode cX3_takeBack 11 = .ok (.getfield 19, 3) := by decide +kernel
theorem dX3_takeBack_14 : decode cX3_takeBack 14 = .ok (.ifCond .le 12, 3) := by decide +kernel
theorem dX3_takeBack_17 : decode cX3_takeBack 17 = .ok (.aload_n 0, 1) := by decide +kernel
theorem dX3_takeBack_18 : decode cX3_takeBack 18 = .ok (.getfield 19, 3) := by decide +kernel
theorem dX3_takeBack_21 : decode cX3_takeBack 21 = .ok (.iconst 1, 1) := by decide +kernel
theorem dX3_takeBack_22 : decode cX3_takeBack 22 = .ok (.isub, 1) := by decide +kernel
theorem dX3_takeBack_23 : decode cX3_takeBack 23 = .ok (.goto 5, 3) := by decide +kernel
theorem dX3_takeBack_26 : decode cX3_takeBack 26 = .ok (.bipush 9, 2) := by decide +kernel
theorem dX3_takeBack_28 : decode cX3_takeBack 28 = .ok (.putfield 19, 3) := by decide +kernel
theorem dX3_takeBack_31 : decode cX3_takeBack 31 = .ok (.aload_n 0, 1) := by decide +kernel
theorem dX3_takeBack_32 : decode cX3_takeBack 32 = .ok (.dup, 1) := by decide +kernel
theorem dX3_takeBack_33 : decode cX3_takeBack 33 = .ok (.getfield 15, 3) := by decide +kernel
theorem dX3_takeBack_36 : decode cX3_takeBack 36 = .ok (.iconst 1, 1) := by decide +kernel
theorem dX3_takeBack_37 : decode cX3_takeBack 37 = .ok (.isub, 1) := by decide +kernel
theorem dX3_takeBack_38 : decode cX3_takeBack 38 = .ok (.putfield 15, 3) := by decide +kernel
theorem dX3_takeBack_41 : decode cX3_takeBack 41 = .ok (.aload_n 1, 1) := by decide +kernel
theorem dX3_takeBack_42 : decode cX3_takeBack 42 = .ok (.aload_n 0, 1) := by decide +kernel
theorem dX3_takeBack_43 : decode cX3_takeBack 43 = .ok (.getfield 11, 3) := by decide +kernel
theorem dX3_takeBack_46 : decode cX3_takeBack 46 = .ok (.aload_n 0, 1) := by decide +kernel
theorem dX3_takeBack_47 : decode cX3_takeBack 47 = .ok (.getfield 19, 3) := by decide +kernel
theorem dX3_takeBack_50 : decode cX3_takeBack 50 = .ok (.invokevirtual 32, 3) := by decide +kernel
theorem dX3_takeBack_53 : decode cX3_takeBack 53 = .ok (.iconst 1, 1) := by decide +kernel
theorem dX3_takeBack_54 : decode cX3_takeBack 54 = .ok (.ireturn, 1) := by decide +kernel
theorem dX3_copyFrom_0 : decode cX3_copyFrom 0 = .ok (.aload_n 1, 1) := by decide +kernel
theorem dX3_copyFrom_1 : decode cX3_copyFrom 1 = .ok (.getfield 11, 3) := by decide +kernel
theorem dX3_copyFrom_4 : decode cX3_copyFrom 4 = .ok (.iconst 0, 1) := by decide +kernel
theorem dX3_copyFrom_5 : decode cX3_copyFrom 5 = .ok (.aload_n 0, 1) := by decide +kernel
theorem dX3_copyFrom_6 : decode cX3_copyFrom 6 = .ok (.getfield 11, 3) := by decide +kernel
theorem dX3_copyFrom_9 : decode cX3_copyFrom 9 = .ok (.iconst 0, 1) := by decide +kernel
theorem dX3_copyFrom_10 : decode cX3_copyFrom 10 = .ok (.aload_n 0, 1) := by decide +kernel
theorem dX3_copyFrom_11 : decode cX3_copyFrom 11 = .ok (.getfield 11, 3) := by decide +kernel
theorem dX3_copyFrom_14 : decode cX3_copyFrom 14 = .ok (.arraylength, 1) := by decide +kernel
theorem dX3_copyFrom_15 : decode cX3_copyFrom 15 = .ok (.invokestatic 35, 3) := by decide +kernel
theorem dX3_copyFrom_18 : decode cX3_copyFrom 18 = .ok (.aload_n 0, 1) := by decide +kernel
theorem dX3_copyFrom_19 : decode cX3_copyFrom 19 = .ok (.aload_n 1, 1) := by decide +kernel
theorem dX3_copyFrom_20 : decode cX3_copyFrom 20 = .ok (.getfield 15, 3) := by decide +kernel
theorem dX3_copyFrom_23 : decode cX3_copyFrom 23 = .ok (.putfield 15, 3) := by decide +kernel
theorem dX3_copyFrom_26 : decode cX3_copyFrom 26 = .ok (.aload_n 0, 1) := by decide +kernel
theorem dX3_copyFrom_27 : decode cX3_copyFrom 27 = .ok (.aload_n 1, 1) := by decide +kernel
theorem dX3_copyFrom_28 : decode cX3_copyFrom 28 = .ok (.getfield 19, 3) := by decide +kernel
theorem dX3_copyFrom_31 : decode cX3_copyFrom 31 = .ok (.putfield 19, 3) := by decide +kernel
theorem dX3_copyFrom_34 : decode cX3_copyFrom 34 = .ok (.return_, 1) := by decide +kernel
theorem dX4_init_0 : decode cX4_init 0 = .ok (.aload_n 0, 1) := by decide +kernel
theorem dX4_init_1 : decode cX4_init 1 = .ok (.invokespecial 5, 3) := by decide +kernel
theorem dX4_init_4 : decode cX4_init 4 = .ok (.aload_n 0, 1) := by decide +kernel
theorem dX4_init_5 : decode cX4_init 5 = .ok (.bipush 21, 2) := by decide +kernel
theorem dX4_init_7 : decode cX4_init 7 = .ok (.newarray .int, 2) := by decide +kernel
theorem dX4_init_9 : decode cX4_init 9 = .ok (.putfield 11, 3) := by decide +kernel
theorem dX4_init_12 : decode cX4_init 12 = .ok (.return_, 1) := by decide +kernel
theorem dX4_lift_0 : decode cX4_lift 0 = .ok (.aload_n 0, 1) := by decide +kernel
theorem dX4_lift_1 : decode cX4_lift 1 = .ok (.getfield 11, 3) := by decide +kernel
theorem dX4_lift_4 : decode cX4_lift 4 = .ok (.iconst 0, 1) := by decide +kernel
theorem dX4_lift_5 : decode cX4_lift 5 = .ok (.iaload, 1) := by decide +kernel
theorem dX4_lift_6 : decode cX4_lift 6 = .ok (.ireturn, 1) := by decide +kernel
theorem dX4_tilt_0 : decode cX4_tilt 0 = .ok (.aload_n 0, 1) := by decide +kernel
theorem dX4_tilt_1 : decode cX4_tilt 1 = .ok (.getfield 11, 3) := by decide +kernel
theorem dX4_tilt_4 : decode cX4_tilt 4 = .ok (.iconst 1, 1) := by decide +kernel
theorem dX4_tilt_5 : decode cX4_tilt 5 = .ok (.iaload, 1) := by decide +kernel
theorem dX4_tilt_6 : decode cX4_tilt 6 = .ok (.ireturn, 1) := by decide +kernel
theorem dX4_cut_0 : decode cX4_cut 0 = .ok (.aload_n 0, 1) := by decide +kernel
theorem dX4_cut_1 : decode cX4_cut 1 = .ok (.getfield 11, 3) := by decide +kernel
theorem dX4_cut_4 : decode cX4_cut 4 = .ok (.iconst 2, 1) := by decide +kernel
theorem dX4_cut_5 : decode cX4_cut 5 = .ok (.iaload, 1) := by decide +kernel
theorem dX4_cut_6 : decode cX4_cut 6 = .ok (.ireturn, 1) := by decide +kernel
theorem dX4_isCut_0 : decode cX4_isCut 0 = .ok (.aload_n 0, 1) := by decide +kernel
theorem dX4_isCut_1 : decode cX4_isCut 1 = .ok (.getfield 11, 3) := by decide +kernel
theorem dX4_isCut_4 : decode cX4_isCut 4 = .ok (.iconst 2, 1) := by decide +kernel
theorem dX4_isCut_5 : decode cX4_isCut 5 = .ok (.iaload, 1) := by decide +kernel
theorem dX4_isCut_6 : decode cX4_isCut 6 = .ok (.iload_n 1, 1) := by decide +kernel
theorem dX4_isCut_7 : decode cX4_isCut 7 = .ok (.ishr, 1) := by decide +kernel
theorem dX4_isCut_8 : decode cX4_isCut 8 = .ok (.iconst 1, 1) := by decide +kernel
theorem dX4_isCut_9 : decode cX4_isCut 9 = .ok (.iand, 1) := by decide +kernel
theorem dX4_isCut_10 : decode cX4_isCut 10 = .ok (.iconst 1, 1) := by decide +kernel
theorem dX4_isCut_11 : decode cX4_isCut 11 = .ok (.if_icmp .ne 7, 3) := by decide +kernel
theorem dX4_isCut_14 : decode cX4_isCut 14 = .ok (.iconst 1, 1) := by decide +kernel
theorem dX4_isCut_15 : decode cX4_isCut 15 = .ok (.goto 4, 3) := by decide +kernel
theorem dX4_isCut_18 : decode cX4_isCut 18 = .ok (.iconst 0, 1) := by decide +kernel
theorem dX4_isCut_19 : decode cX4_isCut 19 = .ok (.ireturn, 1) := by decide +kernel
theorem dX4_limbOf_0 : decode cX4_limbOf 0 = .ok (.aload_n 0, 1) := by decide +kernel
theorem dX4_limbOf_1 : decode cX4_limbOf 1 = .ok (.getfield 11, 3) := by decide +kernel
theorem dX4_limbOf_4 : decode cX4_limbOf 4 = .ok (.iconst 3, 1) := by decide +kernel
theorem dX4_limbOf_5 : decode cX4_limbOf 5 = .ok (.iload_n 1, 1) := by decide +kernel
theorem dX4_limbOf_6 : decode cX4_limbOf 6 = .ok (.iadd, 1) := by decide +kernel
theorem dX4_limbOf_7 : decode cX4_limbOf 7 = .ok (.iaload, 1) := by decide +kernel
theorem dX4_limbOf_8 : decode cX4_limbOf 8 = .ok (.ireturn, 1) := by decide +kernel
theorem dX4_holeOf_0 : decode cX4_holeOf 0 = .ok (.aload_n 0, 1) := by decide +kernel
theorem dX4_holeOf_1 : decode cX4_holeOf 1 = .ok (.getfield 11, 3) := by decide +kernel
theorem dX4_holeOf_4 : decode cX4_holeOf 4 = .ok (.bipush 9, 2) := by decide +kernel
theorem dX4_holeOf_6 : decode cX4_holeOf 6 = .ok (.iload_n 1, 1) := by decide +kernel
theorem dX4_holeOf_7 : decode cX4_holeOf 7 = .ok (.iadd, 1) := by decide +kernel
theorem dX4_holeOf_8 : decode cX4_holeOf 8 = .ok (.iaload, 1) := by decide +kernel
theorem dX4_holeOf_9 : decode cX4_holeOf 9 = .ok (.ireturn, 1) := by decide +kernel
theorem dX4_lengthOf_0 : decode cX4_lengthOf 0 = .ok (.aload_n 0, 1) := by decide +kernel
theorem dX4_lengthOf_1 : decode cX4_lengthOf 1 = .ok (.getfield 11, 3) := by decide +kernel
theorem dX4_lengthOf_4 : decode cX4_lengthOf 4 = .ok (.bipush 15, 2) := by decide +kernel
theorem dX4_lengthOf_6 : decode cX4_lengthOf 6 = .ok (.iload_n 1, 1) := by decide +kernel
theorem dX4_lengthOf_7 : decode cX4_lengthOf 7 = .ok (.iadd, 1) := by decide +kernel
theorem dX4_lengthOf_8 : decode cX4_lengthOf 8 = .ok (.iaload, 1) := by decide +kernel
theorem dX4_lengthOf_9 : decode cX4_lengthOf 9 = .ok (.ireturn, 1) := by decide +kernel
theorem dX4_endOf_0 : decode cX4_endOf 0 = .ok (.aload_n 0, 1) := by decide +kernel
theorem dX4_endOf_1 : decode cX4_endOf 1 = .ok (.getfield 11, 3) := by decide +kernel
theorem dX4_endOf_4 : decode cX4_endOf 4 = .ok (.iconst 0, 1) := by decide +kernel
theorem dX4_endOf_5 : decode cX4_endOf 5 = .ok (.iaload, 1) := by decide +kernel
theorem dX4_endOf_6 : decode cX4_endOf 6 = .ok (.aload_n 0, 1) := by decide +kernel
theorem dX4_endOf_7 : decode cX4_endOf 7 = .ok (.getfield 11, 3) := by decide +kernel
theorem dX4_endOf_10 : decode cX4_endOf 10 = .ok (.iconst 1, 1) := by decide +kernel
theorem dX4_endOf_11 : decode cX4_endOf 11 = .ok (.iaload, 1) := by decide +kernel
theorem dX4_endOf_12 : decode cX4_endOf 12 = .ok (.aload_n 0, 1) := by decide +kernel
theorem dX4_endOf_13 : decode cX4_endOf 13 = .ok (.getfield 11, 3) := by decide +kernel
theorem dX4_endOf_16 : decode cX4_endOf 16 = .ok (.bipush 9, 2) := by decide +kernel
theorem dX4_endOf_18 : decode cX4_endOf 18 = .ok (.iload_n 1, 1) := by decide +kernel
theorem dX4_endOf_19 : decode cX4_endOf 19 = .ok (.iadd, 1) := by decide +kernel
theorem dX4_endOf_20 : decode cX4_endOf 20 = .ok (.iaload, 1) := by decide +kernel
theorem dX4_endOf_21 : decode cX4_endOf 21 = .ok (.iconst 3, 1) := by decide +kernel
theorem dX4_endOf_22 : decode cX4_endOf 22 = .ok (.isub, 1) := by decide +kernel
theorem dX4_endOf_23 : decode cX4_endOf 23 = .ok (.imul, 1) := by decide +kernel
theorem dX4_endOf_24 : decode cX4_endOf 24 = .ok (.iadd, 1) := by decide +kernel
theorem dX4_endOf_25 : decode cX4_endOf 25 = .ok (.aload_n 0, 1) := by decide +kernel
theorem dX4_endOf_26 : decode cX4_endOf 26 = .ok (.getfield 11, 3) := by decide +kernel
theorem dX4_endOf_29 : decode cX4_endOf 29 = .ok (.bipush 15, 2) := by decide +kernel
theorem dX4_endOf_31 : decode cX4_endOf 31 = .ok (.iload_n 1, 1) := by decide +kernel
theorem dX4_endOf_32 : decode cX4_endOf 32 = .ok (.iadd, 1) := by decide +kernel
theorem dX4_endOf_33 : decode cX4_endOf 33 = .ok (.iaload, 1) := by decide +kernel
theorem dX4_endOf_34 : decode cX4_endOf 34 = .ok (.isub, 1) := by decide +kernel
theorem dX4_endOf_35 : decode cX4_endOf 35 = .ok (.ireturn, 1) := by decide +kernel
theorem dX4_setLift_0 : decode cX4_setLift 0 = .ok (.aload_n 0, 1) := by decide +kernel
theorem dX4_setLift_1 : decode cX4_setLift 1 = .ok (.getfield 11, 3) := by decide +kernel
theorem dX4_setLift_4 : decode cX4_setLift 4 = .ok (.iconst 0, 1) := by decide +kernel
theorem dX4_setLift_5 : decode cX4_setLift 5 = .ok (.iload_n 1, 1) := by decide +kernel
theorem dX4_setLift_6 : decode cX4_setLift 6 = .ok (.iastore, 1) := by decide +kernel
theorem dX4_setLift_7 : decode cX4_setLift 7 = .ok (.return_, 1) := by decide +kernel
theorem dX4_setTilt_0 : decode cX4_setTilt 0 = .ok (.aload_n 0, 1) := by decide +kernel
theorem dX4_setTilt_1 : decode cX4_setTilt 1 = .ok (.getfield 11, 3) := by decide +kernel
theorem dX4_setTilt_4 : decode cX4_setTilt 4 = .ok (.iconst 1, 1) := by decide +kernel
theorem dX4_setTilt_5 : decode cX4_setTilt 5 = .ok (.iload_n 1, 1) := by decide +kernel
theorem dX4_setTilt_6 : decode cX4_setTilt 6 = .ok (.iastore, 1) := by decide +kernel
theorem dX4_setTilt_7 : decode cX4_setTilt 7 = .ok (.return_, 1) := by decide +kernel
theorem dX4_setCut_0 : decode cX4_setCut 0 = .ok (.aload_n 0, 1) := by decide +kernel
theorem dX4_setCut_1 : decode cX4_setCut 1 = .ok (.getfield 11, 3) := by decide +kernel
theorem dX4_setCut_4 : decode cX4_setCut 4 = .ok (.iconst 2, 1) := by decide +kernel
theorem dX4_setCut_5 : decode cX4_setCut 5 = .ok (.iload_n 1, 1) := by decide +kernel
theorem dX4_setCut_6 : decode cX4_setCut 6 = .ok (.iastore, 1) := by decide +kernel
theorem dX4_setCut_7 : decode cX4_setCut 7 = .ok (.return_, 1) := by decide +kernel
theorem dX4_setLimb_0 : decode cX4_setLimb 0 = .ok (.aload_n 0, 1) := by decide +kernel
theorem dX4_setLimb_1 : decode cX4_setLimb 1 = .ok (.getfield 11, 3) := by decide +kernel
theorem dX4_setLimb_4 : decode cX4_setLimb 4 = .ok (.iconst 3, 1) := by decide +kernel
theorem dX4_setLimb_5 : decode cX4_setLimb 5 = .ok (.iload_n 1, 1) := by decide +kernel
theorem dX4_setLimb_6 : decode cX4_setLimb 6 = .ok (.iadd, 1) := by decide +kernel
theorem dX4_setLimb_7 : decode cX4_setLimb 7 = .ok (.iload_n 2, 1) := by decide +kernel
theorem dX4_setLimb_8 : decode cX4_setLimb 8 = .ok (.iastore, 1) := by decide +kernel
theorem dX4_setLimb_9 : decode cX4_setLimb 9 = .ok (.return_, 1) := by decide +kernel
theorem dX4_setHole_0 : decode cX4_setHole 0 = .ok (.aload_n 0, 1) := by decide +kernel
theorem dX4_setHole_1 : decode cX4_setHole 1 = .ok (.getfield 11, 3) := by decide +kernel
theorem dX4_setHole_4 : decode cX4_setHole 4 = .ok (.bipush 9, 2) := by decide +kernel
theorem dX4_setHole_6 : decode cX4_setHole 6 = .ok (.iload_n 1, 1) := by decide +kernel
theorem dX4_setHole_7 : decode cX4_setHole 7 = .ok (.iadd, 1) := by decide +kernel
theorem dX4_setHole_8 : decode cX4_setHole 8 = .ok (.iload_n 2, 1) := by decide +kernel
theorem dX4_setHole_9 : decode cX4_setHole 9 = .ok (.iastore, 1) := by decide +kernel
theorem dX4_setHole_10 : decode cX4_setHole 10 = .ok (.return_, 1) := by decide +kernel
theorem dX4_setLength_0 : decode cX4_setLength 0 = .ok (.aload_n 0, 1) := by decide +kernel
theorem dX4_setLength_1 : decode cX4_setLength 1 = .ok (.getfield 11, 3) := by decide +kernel
theorem dX4_setLength_4 : decode cX4_setLength 4 = .ok (.bipush 15, 2) := by decide +kernel
theorem dX4_setLength_6 : decode cX4_setLength 6 = .ok (.iload_n 1, 1) := by decide +kernel
theorem dX4_setLength_7 : decode cX4_setLength 7 = .ok (.iadd, 1) := by decide +kernel
theorem dX4_setLength_8 : decode cX4_setLength 8 = .ok (.iload_n 2, 1) := by decide +kernel
theorem dX4_setLength_9 : decode cX4_setLength 9 = .ok (.iastore, 1) := by decide +kernel
theorem dX4_setLength_10 : decode cX4_setLength 10 = .ok (.return_, 1) := by decide +kernel
set_option maxRecDepth 20000 in
theorem ggX4_empty_J7_fill_53178 : GoodIn wsX4_empty wsJ7_fill_53178 := goodIn_r _ [5] (by decide +kernel) (by decide +kernel)
set_option maxRecDepth 20000 in
theorem gX4_empty_J7_fill_53178 : GoodIn wsX4_empty (va_wsS RX4 15 yJ7_fill_53178 wsJ7_fill_53178) := goodIn_app (goodIn_of _ (by decide +kernel)) ggX4_empty_J7_fill_53178
theorem dX4_empty_0 : decode cX4_empty 0 = .ok (.aload_n 0, 1) := by decide +kernel
theorem dX4_empty_1 : decode cX4_empty 1 = .ok (.getfield 11, 3) := by decide +kernel
theorem dX4_empty_4 : decode cX4_empty 4 = .ok (.iconst 0, 1) := by decide +kernel
theorem dX4_empty_5 : decode cX4_empty 5 = .ok (.invokestatic 15, 3) := by decide +kernel
theorem dX4_empty_8 : decode cX4_empty 8 = .ok (.aload_n 0, 1) := by decide +kernel
theorem dX4_empty_9 : decode cX4_empty 9 = .ok (.getfield 11, 3) := by decide +kernel
theorem dX4_empty_12 : decode cX4_empty 12 = .ok (.iconst 0, 1) := by decide +kernel
theorem dX4_empty_13 : decode cX4_empty 13 = .ok (.bipush 20, 2) := by decide +kernel
theorem dX4_empty_15 : decode cX4_empty 15 = .ok (.iastore, 1) := by decide +kernel
theorem dX4_empty_16 : decode cX4_empty 16 = .ok (.return_, 1) := by decide +kernel
theorem dX4_copyFrom_0 : decode cX4_copyFrom 0 = .ok (.aload_n 1, 1) := by decide +kernel
theorem dX4_copyFrom_1 : decode cX4_copyFrom 1 = .ok (.getfield 11, 3) := by decide +kernel
theorem dX4_copyFrom_4 : decode cX4_copyFrom 4 = .ok (.iconst 0, 1) := by decide +kernel
theorem dX4_copyFrom_5 : decode cX4_copyFrom 5 = .ok (.aload_n 0, 1) := by decide +kernel
theorem dX4_copyFrom_6 : decode cX4_copyFrom 6 = .ok (.getfield 11, 3) := by decide +kernel
theorem dX4_copyFrom_9 : decode cX4_copyFrom 9 = .ok (.iconst 0, 1) := by decide +kernel
theorem dX4_copyFrom_10 : decode cX4_copyFrom 10 = .ok (.bipush 21, 2) := by decide +kernel
theorem dX4_copyFrom_12 : decode cX4_copyFrom 12 = .ok (.invokestatic 21, 3) := by decide +kernel
theorem dX4_copyFrom_15 : decode cX4_copyFrom 15 = .ok (.return_, 1) := by decide +kernel
theorem dX4_writeTo_0 : decode cX4_writeTo 0 = .ok (.aload_n 0, 1) := by decide +kernel
theorem dX4_writeTo_1 : decode cX4_writeTo 1 = .ok (.getfield 11, 3) := by decide +kernel
theorem dX4_writeTo_4 : decode cX4_writeTo 4 = .ok (.iconst 0, 1) := by decide +kernel
theorem dX4_writeTo_5 : decode cX4_writeTo 5 = .ok (.aload_n 1, 1) := by decide +kernel
theorem dX4_writeTo_6 : decode cX4_writeTo 6 = .ok (.iload_n 2, 1) := by decide +kernel
theorem dX4_writeTo_7 : decode cX4_writeTo 7 = .ok (.bipush 21, 2) := by decide +kernel
theorem dX4_writeTo_9 : decode cX4_writeTo 9 = .ok (.imul, 1) := by decide +kernel
theorem dX4_writeTo_10 : decode cX4_writeTo 10 = .ok (.bipush 21, 2) := by decide +kernel
theorem dX4_writeTo_12 : decode cX4_writeTo 12 = .ok (.invokestatic 21, 3) := by decide +kernel
theorem dX4_writeTo_15 : decode cX4_writeTo 15 = .ok (.return_, 1) := by decide +kernel
theorem dX4_readFrom_0 : decode cX4_readFrom 0 = .ok (.aload_n 1, 1) := by decide +kernel
theorem dX4_readFrom_1 : decode cX4_readFrom 1 = .ok (.iload_n 2, 1) := by decide +kernel
theorem dX4_readFrom_2 : decode cX4_readFrom 2 = .ok (.bipush 21, 2) := by decide +kernel
theorem dX4_readFrom_4 : decode cX4_readFrom 4 = .ok (.imul, 1) := by decide +kernel
theorem dX4_readFrom_5 : decode cX4_readFrom 5 = .ok (.aload_n 0, 1) := by decide +kernel
theorem dX4_readFrom_6 : decode cX4_readFrom 6 = .ok (.getfield 11, 3) := by decide +kernel
theorem dX4_readFrom_9 : decode cX4_readFrom 9 = .ok (.iconst 0, 1) := by decide +kernel
theorem dX4_readFrom_10 : decode cX4_readFrom 10 = .ok (.bipush 21, 2) := by decide +kernel
theorem dX4_readFrom_12 : decode cX4_readFrom 12 = .ok (.invokestatic 21, 3) := by decide +kernel
theorem dX4_readFrom_15 : decode cX4_readFrom 15 = .ok (.return_, 1) := by decide +kernel
set_option maxRecDepth 20000 in
theorem ggX5_init_X4_init : GoodIn wsX5_init wsX4_init := goodIn_r _ [13, 14, 2, 3, 15, 16, 21] (by decide +kernel) (by decide +kernel)
set_option maxRecDepth 20000 in
theorem gX5_init_X4_init_n9 : GoodIn wsX5_init (wsX4_init) := ggX5_init_X4_init
set_option maxRecDepth 20000 in
theorem ggX5_init_X3_init : GoodIn wsX5_init wsX3_init := goodIn_r _ [18, 19, 2, 3, 15, 20, 25, 26, 27] (by decide +kernel) (by decide +kernel)
set_option maxRecDepth 20000 in
theorem gX5_init_X3_init_n18 : GoodIn wsX5_init (wsX3_init) := ggX5_init_X3_init
theorem dX5_init_0 : decode cX5_init 0 = .ok (.aload_n 0, 1) := by decide +kernel
theorem dX5_init_1 : decode cX5_init 1 = .ok (.invokespecial 1, 3) := by decide +kernel
theorem dX5_init_4 : decode cX5_init 4 = .ok (.aload_n 0, 1) := by decide +kernel
theorem dX5_init_5 : decode cX5_init 5 = .ok (.new 7, 3) := by decide +kernel
theorem dX5_init_8 : decode cX5_init 8 = .ok (.dup, 1) := by decide +kernel
theorem dX5_init_9 : decode cX5_init 9 = .ok (.invokespecial 9, 3) := by decide +kernel
theorem dX5_init_12 : decode cX5_init 12 = .ok (.putfield 10, 3) := by decide +kernel
theorem dX5_init_15 : decode cX5_init 15 = .ok (.aload_n 0, 1) := by decide +kernel
theorem dX5_init_16 : decode cX5_init 16 = .ok (.new 16, 3) := by decide +kernel
theorem dX5_init_19 : decode cX5_init 19 = .ok (.dup, 1) := by decide +kernel
theorem dX5_init_20 : decode cX5_init 20 = .ok (.invokespecial 18, 3) := by decide +kernel
theorem dX5_init_23 : decode cX5_init 23 = .ok (.putfield 19, 3) := by decide +kernel
theorem dX5_init_26 : decode cX5_init 26 = .ok (.return_, 1) := by decide +kernel
set_option maxRecDepth 20000 in
theorem ggX5_begin_X4_copyFrom : GoodIn wsX5_begin wsX4_copyFrom := goodIn_r _ [7, 8, 9, 10, 11, 12, 23] (by decide +kernel) (by decide +kernel)
set_option maxRecDepth 20000 in
theorem gX5_begin_X4_copyFrom : GoodIn wsX5_begin (wsV RX5 23 RX4 yX4_copyFrom wsX4_copyFrom) := goodIn_app (goodIn_of _ (by decide +kernel)) ggX5_begin_X4_copyFrom
set_option maxRecDepth 20000 in
theorem ggX5_begin_X3_empty : GoodIn wsX5_begin wsX3_empty := goodIn_r _ [17, 18, 19, 24, 25, 26] (by decide +kernel) (by decide +kernel)
set_option maxRecDepth 20000 in
theorem gX5_begin_X3_empty : GoodIn wsX5_begin (wsV RX5 27 RX3 yX3_empty wsX3_empty) := goodIn_app (goodIn_of _ (by decide +kernel)) ggX5_begin_X3_empty
theorem dX5_begin_0 : decode cX5_begin 0 = .ok (.aload_n 0, 1) := by decide +kernel
theorem dX5_begin_1 : decode cX5_begin 1 = .ok (.getfield 10, 3) := by decide +kernel
theorem dX5_begin_4 : decode cX5_begin 4 = .ok (.aload_n 1, 1) := by decide +kernel
theorem dX5_begin_5 : decode cX5_begin 5 = .ok (.invokevirtual 23, 3) := by decide +kernel
theorem dX5_begin_8 : decode cX5_begin 8 = .ok (.aload_n 0, 1) := by decide +kernel
theorem dX5_begin_9 : decode cX5_begin 9 = .ok (.getfield 19, 3) := by decide +kernel
theorem dX5_begin_12 : decode cX5_begin 12 = .ok (.invokevirtual 27, 3) := by decide +kernel
theorem dX5_begin_15 : decode cX5_begin 15 = .ok (.return_, 1) := by decide +kernel
set_option maxRecDepth 20000 in
theorem ggX5_remember_X3_add : GoodIn wsX5_remember wsX3_add := goodIn_r _ [7, 8, 9, 10, 11, 12, 13, 14, 15, 16, 17, 18, 19, 20, 21, 22, 23, 24, 28, 29, 30, 31] (by decide +kernel) (by decide +kernel)
set_option maxRecDepth 20000 in
theorem gX5_remember_X3_add : GoodIn wsX5_remember (wsV RX5 30 RX3 yX3_add wsX3_add) := goodIn_app (goodIn_of _ (by decide +kernel)) ggX5_remember_X3_add
theorem dX5_remember_0 : decode cX5_remember 0 = .ok (.aload_n 0, 1) := by decide +kernel
theorem dX5_remember_1 : decode cX5_remember 1 = .ok (.getfield 19, 3) := by decide +kernel
theorem dX5_remember_4 : decode cX5_remember 4 = .ok (.aload_n 0, 1) := by decide +kernel
theorem dX5_remember_5 : decode cX5_remember 5 = .ok (.getfield 10, 3) := by decide +kernel
theorem dX5_remember_8 : decode cX5_remember 8 = .ok (.invokevirtual 30, 3) := by decide +kernel
theorem dX5_remember_11 : decode cX5_remember 11 = .ok (.return_, 1) := by decide +kernel
set_option maxRecDepth 20000 in
theorem ggX5_copyFrom_X4_copyFrom : GoodIn wsX5_copyFrom wsX4_copyFrom := goodIn_r _ [7, 8, 9, 10, 11, 12, 25] (by decide +kernel) (by decide +kernel)
set_option maxRecDepth 20000 in
theorem gX5_copyFrom_X4_copyFrom : GoodIn wsX5_copyFrom (wsV RX5 23 RX4 yX4_copyFrom wsX4_copyFrom) := goodIn_app (goodIn_of _ (by decide +kernel)) ggX5_copyFrom_X4_copyFrom
set_option maxRecDepth 20000 in
theorem ggX5_copyFrom_X3_copyFrom : GoodIn wsX5_copyFrom wsX3_copyFrom := goodIn_r _ [17, 18, 19, 10, 11, 12, 20, 21, 26, 27, 28] (by decide +kernel) (by decide +kernel)
set_option maxRecDepth 20000 in
theorem gX5_copyFrom_X3_copyFrom : GoodIn wsX5_copyFrom (wsV RX5 33 RX3 yX3_copyFrom wsX3_copyFrom) := goodIn_app (goodIn_of _ (by decide +kernel)) ggX5_copyFrom_X3_copyFrom
theorem dX5_copyFrom_0 : decode cX5_copyFrom 0 = .ok (.aload_n 0, 1) := by decide +kernel
theorem dX5_copyFrom_1 : decode cX5_copyFrom 1 = .ok (.getfield 10, 3) := by decide +kernel
theorem dX5_copyFrom_4 : decode cX5_copyFrom 4 = .ok (.aload_n 1, 1) := by decide +kernel
theorem dX5_copyFrom_5 : decode cX5_copyFrom 5 = .ok (.getfield 10, 3) := by decide +kernel
theorem dX5_copyFrom_8 : decode cX5_copyFrom 8 = .ok (.invokevirtual 23, 3) := by decide +kernel
theorem dX5_copyFrom_11 : decode cX5_copyFrom 11 = .ok (.aload_n 0, 1) := by decide +kernel
theorem dX5_copyFrom_12 : decode cX5_copyFrom 12 = .ok (.getfield 19, 3) := by decide +kernel
theorem dX5_copyFrom_15 : decode cX5_copyFrom 15 = .ok (.aload_n 1, 1) := by decide +kernel
theorem dX5_copyFrom_16 : decode cX5_copyFrom 16 = .ok (.getfield 19, 3) := by decide +kernel
theorem dX5_copyFrom_19 : decode cX5_copyFrom 19 = .ok (.invokevirtual 33, 3) := by decide +kernel
theorem dX5_copyFrom_22 : decode cX5_copyFrom 22 = .ok (.return_, 1) := by decide +kernel
theorem dX6_init_0 : decode cX6_init 0 = .ok (.aload_n 0, 1) := by decide +kernel
theorem dX6_init_1 : decode cX6_init 1 = .ok (.invokespecial 3, 3) := by decide +kernel
theorem dX6_init_4 : decode cX6_init 4 = .ok (.aload_n 0, 1) := by decide +kernel
theorem dX6_init_5 : decode cX6_init 5 = .ok (.sipush 170, 3) := by decide +kernel
theorem dX6_init_8 : decode cX6_init 8 = .ok (.newarray .char, 2) := by decide +kernel
theorem dX6_init_10 : decode cX6_init 10 = .ok (.putfield 11, 3) := by decide +kernel
theorem dX6_init_13 : decode cX6_init 13 = .ok (.aload_n 0, 1) := by decide +kernel
theorem dX6_init_14 : decode cX6_init 14 = .ok (.iconst 4, 1) := by decide +kernel
theorem dX6_init_15 : decode cX6_init 15 = .ok (.newarray .int, 2) := by decide +kernel
theorem dX6_init_17 : decode cX6_init 17 = .ok (.putfield 15, 3) := by decide +kernel
theorem dX6_init_20 : decode cX6_init 20 = .ok (.return_, 1) := by decide +kernel
theorem dX6_size_0 : decode cX6_size 0 = .ok (.aload_n 0, 1) := by decide +kernel
theorem dX6_size_1 : decode cX6_size 1 = .ok (.getfield 19, 3) := by decide +kernel
theorem dX6_size_4 : decode cX6_size 4 = .ok (.ireturn, 1) := by decide +kernel
theorem dX6_add_0 : decode cX6_add 0 = .ok (.aload_n 0, 1) := by decide +kernel
theorem dX6_add_1 : decode cX6_add 1 = .ok (.getfield 19, 3) := by decide +kernel
theorem dX6_add_4 : decode cX6_add 4 = .ok (.sipush 170, 3) := by decide +kernel
theorem dX6_add_7 : decode cX6_add 7 = .ok (.if_icmp .lt 5, 3) := by decide +kernel
theorem dX6_add_10 : decode cX6_add 10 = .ok (.iconst 0, 1) := by decide +kernel
theorem dX6_add_11 : decode cX6_add 11 = .ok (.ireturn, 1) := by decide +kernel
theorem dX6_add_12 : decode cX6_add 12 = .ok (.aload_n 0, 1) := by decide +kernel
theorem dX6_add_13 : decode cX6_add 13 = .ok (.getfield 11, 3) := by decide +kernel
theorem dX6_add_16 : decode cX6_add 16 = .ok (.aload_n 0, 1) := by decide +kernel
theorem dX6_add_17 : decode cX6_add 17 = .ok (.getfield 19, 3) := by decide +kernel
theorem dX6_add_20 : decode cX6_add 20 = .ok (.iload_n 1, 1) := by decide +kernel
theorem dX6_add_21 : decode cX6_add 21 = .ok (.i2c, 1) := by decide +kernel
theorem dX6_add_22 : decode cX6_add 22 = .ok (.castore, 1) := by decide +kernel
theorem dX6_add_23 : decode cX6_add 23 = .ok (.aload_n 0, 1) := by decide +kernel
theorem dX6_add_24 : decode cX6_add 24 = .ok (.dup, 1) := by decide +kernel
theorem dX6_add_25 : decode cX6_add 25 = .ok (.getfield 19, 3) := by decide +kernel
theorem dX6_add_28 : decode cX6_add 28 = .ok (.iconst 1, 1) := by decide +kernel
theorem dX6_add_29 : decode cX6_add 29 = .ok (.iadd, 1) := by decide +kernel
theorem dX6_add_30 : decode cX6_add 30 = .ok (.putfield 19, 3) := by decide +kernel
theorem dX6_add_33 : decode cX6_add 33 = .ok (.iconst 1, 1) := by decide +kernel
theorem dX6_add_34 : decode cX6_add 34 = .ok (.ireturn, 1) := by decide +kernel
theorem dX6_empty_0 : decode cX6_empty 0 = .ok (.aload_n 0, 1) := by decide +kernel
theorem dX6_empty_1 : decode cX6_empty 1 = .ok (.getfield 19, 3) := by decide +kernel
theorem dX6_empty_4 : decode cX6_empty 4 = .ok (.istore_n 1, 1) := by decide +kernel
theorem dX6_empty_5 : decode cX6_empty 5 = .ok (.aload_n 0, 1) := by decide +kernel
theorem dX6_empty_6 : decode cX6_empty 6 = .ok (.iconst 0, 1) := by decide +kernel
theorem dX6_empty_7 : decode cX6_empty 7 = .ok (.putfield 19, 3) := by decide +kernel
theorem dX6_empty_10 : decode cX6_empty 10 = .ok (.iload_n 1, 1) := by decide +kernel
theorem dX6_empty_11 : decode cX6_empty 11 = .ok (.ireturn, 1) := by decide +kernel
set_option maxRecDepth 20000 in
theorem ggX6_readInto_X0_empty : GoodIn wsX6_readInto wsX0_empty := goodIn_r _ [10, 11, 12, 13, 14, 15, 16, 17, 18, 19, 20, 21, 22, 23, 24, 137, 138, 139, 140, 141, 142, 143, 144, 145, 146, 147, 148] (by decide +kernel) (by decide +kernel)
set_option maxRecDepth 20000 in
theorem gX6_readInto_X0_empty : GoodIn wsX6_readInto (wsV RX6 23 RX0 yX0_empty wsX0_empty) := goodIn_app (goodIn_of _ (by decide +kernel)) ggX6_readInto_X0_empty
set_option maxRecDepth 20000 in
theorem ggX6_readInto_X6_nextToken : GoodIn wsX6_readInto wsX6_nextToken := goodIn_r _ [29, 3, 5, 30, 31, 4, 32, 33, 34, 28, 35, 36, 37, 38, 39, 40, 41, 42, 43, 44, 45, 46, 47, 48, 49, 50, 51, 52, 128, 129, 130, 131, 132, 133, 134, 135, 136] (by decide +kernel) (by decide +kernel)
set_option maxRecDepth 20000 in
theorem gX6_readInto_X6_nextToken : GoodIn wsX6_readInto (wsV RX6 38 RX6 yX6_nextToken wsX6_nextToken) := goodIn_app (goodIn_of _ (by decide +kernel)) ggX6_readInto_X6_nextToken
set_option maxRecDepth 20000 in
theorem ggX6_readInto_X6_readItem : GoodIn wsX6_readInto wsX6_readItem := goodIn_r _ [56, 4, 3, 5, 31, 48, 57, 58, 59, 60, 28, 61, 62, 63, 64, 1, 2, 25, 26, 27, 29, 30, 32, 33, 34, 35, 36, 37, 38, 39, 40, 41, 42, 43, 44, 45, 46, 47, 49, 50, 51, 52, 65, 66, 67, 68, 69, 70, 71, 72, 73, 74, 75, 76, 77, 78, 79, 80, 81, 82, 83, 84, 85, 86, 87, 9, 88, 11, 89, 90, 91, 92, 93, 94, 95, 96, 97, 98, 99, 100, 14, 12, 101, 102, 103, 104, 18, 105, 20, 106, 107, 108, 109, 110, 111, 112, 113, 114, 115, 116, 117, 118, 13, 119, 120, 121, 122, 123, 124, 125, 126, 127, 128, 129, 130, 131, 132, 133, 134, 135, 136, 137, 138, 139, 140, 141, 142, 143, 144, 145, 146, 147, 148] (by decide +kernel) (by decide +kernel)
set_option maxRecDepth 20000 in
theorem gX6_readInto_X6_readItem : GoodIn wsX6_readInto (wsV RX6 44 RX6 yX6_readItem wsX6_readItem) := goodIn_app (goodIn_of _ (by decide +kernel)) ggX6_readInto_X6_readItem
theorem dX6_readInto_0 : decode cX6_readInto 0 = .ok (.aload_n 1, 1) := by decide +kernel
theorem dX6_readInto_1 : decode cX6_readInto 1 = .ok (.invokevirtual 23, 3) := by decide +kernel
theorem dX6_readInto_4 : decode cX6_readInto 4 = .ok (.aload_n 0, 1) := by decide +kernel
theorem dX6_readInto_5 : decode cX6_readInto 5 = .ok (.iconst 0, 1) := by decide +kernel
theorem dX6_readInto_6 : decode cX6_readInto 6 = .ok (.putfield 28, 3) := by decide +kernel
theorem dX6_readInto_9 : decode cX6_readInto 9 = .ok (.aload_n 0, 1) := by decide +kernel
theorem dX6_readInto_10 : decode cX6_readInto 10 = .ok (.iconst 0, 1) := by decide +kernel
theorem dX6_readInto_11 : decode cX6_readInto 11 = .ok (.putfield 32, 3) := by decide +kernel
theorem dX6_readInto_14 : decode cX6_readInto 14 = .ok (.aload_n 0, 1) := by decide +kernel
theorem dX6_readInto_15 : decode cX6_readInto 15 = .ok (.iconst 0, 1) := by decide +kernel
theorem dX6_readInto_16 : decode cX6_readInto 16 = .ok (.putfield 35, 3) := by decide +kernel
theorem dX6_readInto_19 : decode cX6_readInto 19 = .ok (.aload_n 0, 1) := by decide +kernel
theorem dX6_readInto_20 : decode cX6_readInto 20 = .ok (.invokevirtual 38, 3) := by decide +kernel
theorem dX6_readInto_23 : decode cX6_readInto 23 = .ok (.iconst 0, 1) := by decide +kernel
theorem dX6_readInto_24 : decode cX6_readInto 24 = .ok (.istore_n 2, 1) := by decide +kernel
theorem dX6_readInto_25 : decode cX6_readInto 25 = .ok (.aload_n 0, 1) := by decide +kernel
theorem dX6_readInto_26 : decode cX6_readInto 26 = .ok (.getfield 41, 3) := by decide +kernel
theorem dX6_readInto_29 : decode cX6_readInto 29 = .ok (.ifCond .eq 32, 3) := by decide +kernel
theorem dX6_readInto_32 : decode cX6_readInto 32 = .ok (.iload_n 2, 1) := by decide +kernel
theorem dX6_readInto_33 : decode cX6_readInto 33 = .ok (.sipush 170, 3) := by decide +kernel
theorem dX6_readInto_36 : decode cX6_readInto 36 = .ok (.if_icmp .ge 25, 3) := by decide +kernel
theorem dX6_readInto_39 : decode cX6_readInto 39 = .ok (.aload_n 0, 1) := by decide +kernel
theorem dX6_readInto_40 : decode cX6_readInto 40 = .ok (.aload_n 1, 1) := by decide +kernel
theorem dX6_readInto_41 : decode cX6_readInto 41 = .ok (.invokevirtual 44, 3) := by decide +kernel
theorem dX6_readInto_44 : decode cX6_readInto 44 = .ok (.ifCond .ne 11, 3) := by decide +kernel
theorem dX6_readInto_47 : decode cX6_readInto 47 = .ok (.bipush (-10), 2) := by decide +kernel
theorem dX6_readInto_49 : decode cX6_readInto 49 = .ok (.aload_n 0, 1) := by decide +kernel
theorem dX6_readInto_50 : decode cX6_readInto 50 = .ok (.getfield 48, 3) := by decide +kernel
theorem dX6_readInto_53 : decode cX6_readInto 53 = .ok (.isub, 1) := by decide +kernel
theorem dX6_readInto_54 : decode cX6_readInto 54 = .ok (.ireturn, 1) := by decide +kernel
theorem dX6_readInto_55 : decode cX6_readInto 55 = .ok (.iinc 2 1, 3) := by decide +kernel
theorem dX6_readInto_58 : decode cX6_readInto 58 = .ok (.goto (-33), 3) := by decide +kernel
theorem dX6_readInto_61 : decode cX6_readInto 61 = .ok (.iload_n 2, 1) := by decide +kernel
theorem dX6_readInto_62 : decode cX6_readInto 62 = .ok (.ireturn, 1) := by decide +kernel
set_option maxRecDepth 20000 in
theorem ggX6_readItem_X6_mayBegin : GoodIn wsX6_readItem wsX6_mayBegin := goodIn_r _ [11, 12, 13, 14, 15, 16, 121, 122, 123, 124, 125, 126, 127, 128, 129, 130, 131, 112, 113, 114, 115, 116, 117, 118, 119, 120] (by decide +kernel) (by decide +kernel)
set_option maxRecDepth 20000 in
theorem gX6_readItem_X6_mayBegin : GoodIn wsX6_readItem (wsV RX6 51 RX6 yX6_mayBegin wsX6_mayBegin) := goodIn_app (goodIn_of _ (by decide +kernel)) ggX6_readItem_X6_mayBegin
set_option maxRecDepth 20000 in
theorem ggX6_readItem_X6_nextToken : GoodIn wsX6_readItem wsX6_nextToken := goodIn_r _ [20, 2, 3, 21, 4, 1, 22, 23, 24, 10, 25, 26, 27, 28, 29, 30, 31, 32, 33, 34, 35, 36, 37, 5, 38, 39, 40, 41, 112, 113, 114, 115, 116, 117, 118, 119, 120] (by decide +kernel) (by decide +kernel)
set_option maxRecDepth 20000 in
theorem gX6_readItem_X6_nextToken : GoodIn wsX6_readItem (wsV RX6 38 RX6 yX6_nextToken wsX6_nextToken) := goodIn_app (goodIn_of _ (by decide +kernel)) ggX6_readItem_X6_nextToken
set_option maxRecDepth 20000 in
theorem ggX6_readItem_X6_howManyNumbers : GoodIn wsX6_readItem wsX6_howManyNumbers := goodIn_r _ [44] (by decide +kernel) (by decide +kernel)
set_option maxRecDepth 20000 in
theorem gX6_readItem_X6_howManyNumbers : GoodIn wsX6_readItem (va_wsS RX6 55 yX6_howManyNumbers wsX6_howManyNumbers) := goodIn_app (goodIn_of _ (by decide +kernel)) ggX6_readItem_X6_howManyNumbers
set_option maxRecDepth 20000 in
theorem ggX6_readItem_X6_least : GoodIn wsX6_readItem wsX6_least := goodIn_r _ [47, 12, 121, 122, 123, 124, 125, 126, 127, 128, 129, 130, 131] (by decide +kernel) (by decide +kernel)
set_option maxRecDepth 20000 in
theorem gX6_readItem_X6_least : GoodIn wsX6_readItem (va_wsS RX6 62 yX6_least wsX6_least) := goodIn_app (goodIn_of _ (by decide +kernel)) ggX6_readItem_X6_least
set_option maxRecDepth 20000 in
theorem ggX6_readItem_X6_most : GoodIn wsX6_readItem wsX6_most := goodIn_r _ [50, 51, 52, 10, 53, 12, 54, 55, 56, 121, 122, 123, 124, 125, 126, 127, 128, 129, 130, 131] (by decide +kernel) (by decide +kernel)
set_option maxRecDepth 20000 in
theorem gX6_readItem_X6_most : GoodIn wsX6_readItem (va_wsS RX6 66 yX6_most wsX6_most) := goodIn_app (goodIn_of _ (by decide +kernel)) ggX6_readItem_X6_most
set_option maxRecDepth 20000 in
theorem ggX6_readItem_X6_tell : GoodIn wsX6_readItem wsX6_tell := goodIn_r _ [60, 6, 61, 15, 16, 62, 63, 64, 65, 66, 67, 68, 69, 70, 71, 72, 73, 74, 75, 76, 77, 78, 79, 80, 81, 82, 83, 84, 85, 86, 87, 88, 89, 90, 91, 92, 93, 94, 95, 96, 97, 98, 99, 100, 101, 102, 103, 104, 105, 106, 107, 108, 109, 110, 111, 112, 113, 114, 115, 116, 117, 118, 119, 120, 121, 122, 123, 124, 125, 126, 127, 128, 129, 130, 131, 132] (by decide +kernel) (by decide +kernel)
set_option maxRecDepth 20000 in
theorem gX6_readItem_X6_tell : GoodIn wsX6_readItem (wsV RX6 69 RX6 yX6_tell wsX6_tell) := goodIn_app (goodIn_of _ (by decide +kernel)) ggX6_readItem_X6_tell
theorem dX6_readItem_0 : decode cX6_readItem 0 = .ok (.aload_n 0, 1) := by decide +kernel
theorem dX6_readItem_1 : decode cX6_readItem 1 = .ok (.getfield 41, 3) := by decide +kernel
theorem dX6_readItem_4 : decode cX6_readItem 4 = .ok (.iconst 1, 1) := by decide +kernel
theorem dX6_readItem_5 : decode cX6_readItem 5 = .ok (.if_icmp .ne 16, 3) := by decide +kernel
theorem dX6_readItem_8 : decode cX6_readItem 8 = .ok (.aload_n 0, 1) := by decide +kernel
theorem dX6_readItem_9 : decode cX6_readItem 9 = .ok (.getfield 35, 3) := by decide +kernel
theorem dX6_readItem_12 : decode cX6_readItem 12 = .ok (.aload_n 0, 1) := by decide +kernel
theorem dX6_readItem_13 : decode cX6_readItem 13 = .ok (.getfield 48, 3) := by decide +kernel
theorem dX6_readItem_16 : decode cX6_readItem 16 = .ok (.isub, 1) := by decide +kernel
theorem dX6_readItem_17 : decode cX6_readItem 17 = .ok (.iconst 1, 1) := by decide +kernel
theorem dX6_readItem_18 : decode cX6_readItem 18 = .ok (.if_icmp .eq 5, 3) := by decide +kernel
theorem dX6_readItem_21 : decode cX6_readItem 21 = .ok (.iconst 0, 1) := by decide +kernel
theorem dX6_readItem_22 : decode cX6_readItem 22 = .ok (.ireturn, 1) := by decide +kernel
theorem dX6_readItem_23 : decode cX6_readItem 23 = .ok (.aload_n 0, 1) := by decide +kernel
theorem dX6_readItem_24 : decode cX6_readItem 24 = .ok (.getfield 11, 3) := by decide +kernel
theorem dX6_readItem_27 : decode cX6_readItem 27 = .ok (.aload_n 0, 1) := by decide +kernel
theorem dX6_readItem_28 : decode cX6_readItem 28 = .ok (.getfield 48, 3) := by decide +kernel
theorem dX6_readItem_31 : decode cX6_readItem 31 = .ok (.caload, 1) := by decide +kernel
theorem dX6_readItem_32 : decode cX6_readItem 32 = .ok (.istore_n 2, 1) := by decide +kernel
theorem dX6_readItem_33 : decode cX6_readItem 33 = .ok (.aload_n 0, 1) := by decide +kernel
theorem dX6_readItem_34 : decode cX6_readItem 34 = .ok (.iload_n 2, 1) := by decide +kernel
theorem dX6_readItem_35 : decode cX6_readItem 35 = .ok (.aload_n 1, 1) := by decide +kernel
theorem dX6_readItem_36 : decode cX6_readItem 36 = .ok (.invokevirtual 51, 3) := by decide +kernel
theorem dX6_readItem_39 : decode cX6_readItem 39 = .ok (.ifCond .ne 5, 3) := by decide +kernel
theorem dX6_readItem_42 : decode cX6_readItem 42 = .ok (.iconst 0, 1) := by decide +kernel
theorem dX6_readItem_43 : decode cX6_readItem 43 = .ok (.ireturn, 1) := by decide +kernel
theorem dX6_readItem_44 : decode cX6_readItem 44 = .ok (.aload_n 0, 1) := by decide +kernel
theorem dX6_readItem_45 : decode cX6_readItem 45 = .ok (.invokevirtual 38, 3) := by decide +kernel
theorem dX6_readItem_48 : decode cX6_readItem 48 = .ok (.iload_n 2, 1) := by decide +kernel
theorem dX6_readItem_49 : decode cX6_readItem 49 = .ok (.invokestatic 55, 3) := by decide +kernel
theorem dX6_readItem_52 : decode cX6_readItem 52 = .ok (.istore_n 3, 1) := by decide +kernel
theorem dX6_readItem_53 : decode cX6_readItem 53 = .ok (.iconst 0, 1) := by decide +kernel
theorem dX6_readItem_54 : decode cX6_readItem 54 = .ok (.istore 4, 2) := by decide +kernel
theorem dX6_readItem_56 : decode cX6_readItem 56 = .ok (.iload 4, 2) := by decide +kernel
theorem dX6_readItem_58 : decode cX6_readItem 58 = .ok (.iload_n 3, 1) := by decide +kernel
theorem dX6_readItem_59 : decode cX6_readItem 59 = .ok (.if_icmp .ge 62, 3) := by decide +kernel
theorem dX6_readItem_62 : decode cX6_readItem 62 = .ok (.aload_n 0, 1) := by decide +kernel
theorem dX6_readItem_63 : decode cX6_readItem 63 = .ok (.getfield 41, 3) := by decide +kernel
theorem dX6_readItem_66 : decode cX6_readItem 66 = .ok (.iconst 2, 1) := by decide +kernel
theorem dX6_readItem_67 : decode cX6_readItem 67 = .ok (.if_icmp .ne 31, 3) := by decide +kernel
theorem dX6_readItem_70 : decode cX6_readItem 70 = .ok (.aload_n 0, 1) := by decide +kernel
theorem dX6_readItem_71 : decode cX6_readItem 71 = .ok (.getfield 59, 3) := by decide +kernel
theorem dX6_readItem_74 : decode cX6_readItem 74 = .ok (.iload_n 2, 1) := by decide +kernel
theorem dX6_readItem_75 : decode cX6_readItem 75 = .ok (.iload 4, 2) := by decide +kernel
theorem dX6_readItem_77 : decode cX6_readItem 77 = .ok (.aload_n 1, 1) := by decide +kernel
theorem dX6_readItem_78 : decode cX6_readItem 78 = .ok (.invokestatic 62, 3) := by decide +kernel
theorem dX6_readItem_81 : decode cX6_readItem 81 = .ok (.if_icmp .lt 17, 3) := by decide +kernel
theorem dX6_readItem_84 : decode cX6_readItem 84 = .ok (.aload_n 0, 1) := by decide +kernel
theorem dX6_readItem_85 : decode cX6_readItem 85 = .ok (.getfield 59, 3) := by decide +kernel
theorem dX6_readItem_88 : decode cX6_readItem 88 = .ok (.iload_n 2, 1) := by decide +kernel
theorem dX6_readItem_89 : decode cX6_readItem 89 = .ok (.iload 4, 2) := by decide +kernel
theorem dX6_readItem_91 : decode cX6_readItem 91 = .ok (.aload_n 1, 1) := by decide +kernel
theorem dX6_readItem_92 : decode cX6_readItem 92 = .ok (.invokestatic 66, 3) := by decide +kernel
theorem dX6_readItem_95 : decode cX6_readItem 95 = .ok (.if_icmp .le 5, 3) := by decide +kernel
theorem dX6_readItem_98 : decode cX6_readItem 98 = .ok (.iconst 0, 1) := by decide +kernel
theorem dX6_readItem_99 : decode cX6_readItem 99 = .ok (.ireturn, 1) := by decide +kernel
theorem dX6_readItem_100 : decode cX6_readItem 100 = .ok (.aload_n 0, 1) := by decide +kernel
theorem dX6_readItem_101 : decode cX6_readItem 101 = .ok (.getfield 15, 3) := by decide +kernel
theorem dX6_readItem_104 : decode cX6_readItem 104 = .ok (.iload 4, 2) := by decide +kernel
theorem dX6_readItem_106 : decode cX6_readItem 106 = .ok (.aload_n 0, 1) := by decide +kernel
theorem dX6_readItem_107 : decode cX6_readItem 107 = .ok (.getfield 59, 3) := by decide +kernel
theorem dX6_readItem_110 : decode cX6_readItem 110 = .ok (.iastore, 1) := by decide +kernel
theorem dX6_readItem_111 : decode cX6_readItem 111 = .ok (.aload_n 0, 1) := by decide +kernel
theorem dX6_readItem_112 : decode cX6_readItem 112 = .ok (.invokevirtual 38, 3) := by decide +kernel
theorem dX6_readItem_115 : decode cX6_readItem 115 = .ok (.iinc 4 1, 3) := by decide +kernel
theorem dX6_readItem_118 : decode cX6_readItem 118 = .ok (.goto (-62), 3) := by decide +kernel
theorem dX6_readItem_121 : decode cX6_readItem 121 = .ok (.aload_n 0, 1) := by decide +kernel
theorem dX6_readItem_122 : decode cX6_readItem 122 = .ok (.getfield 41, 3) := by decide +kernel
theorem dX6_readItem_125 : decode cX6_readItem 125 = .ok (.iconst 3, 1) := by decide +kernel
theorem dX6_readItem_126 : decode cX6_readItem 126 = .ok (.if_icmp .eq 5, 3) := by decide +kernel
theorem dX6_readItem_129 : decode cX6_readItem 129 = .ok (.iconst 0, 1) := by decide +kernel
theorem dX6_readItem_130 : decode cX6_readItem 130 = .ok (.ireturn, 1) := by decide +kernel
theorem dX6_readItem_131 : decode cX6_readItem 131 = .ok (.aload_n 0, 1) := by decide +kernel
theorem dX6_readItem_132 : decode cX6_readItem 132 = .ok (.invokevirtual 38, 3) := by decide +kernel
theorem dX6_readItem_135 : decode cX6_readItem 135 = .ok (.aload_n 0, 1) := by decide +kernel
theorem dX6_readItem_136 : decode cX6_readItem 136 = .ok (.iload_n 2, 1) := by decide +kernel
theorem dX6_readItem_137 : decode cX6_readItem 137 = .ok (.aload_n 1, 1) := by decide +kernel
theorem dX6_readItem_138 : decode cX6_readItem 138 = .ok (.invokevirtual 69, 3) := by decide +kernel
theorem dX6_readItem_141 : decode cX6_readItem 141 = .ok (.iconst 1, 1) := by decide +kernel
theorem dX6_readItem_142 : decode cX6_readItem 142 = .ok (.ireturn, 1) := by decide +kernel
theorem dX6_mayBegin_0 : decode cX6_mayBegin 0 = .ok (.iload_n 1, 1) := by decide +kernel
theorem dX6_mayBegin_1 : decode cX6_mayBegin 1 = .ok (.lookupswitch 122 #[(98, 81), (108, 51), (115, 66), (116, 109), (117, 96)], 51) := by decide +kernel
theorem dX6_mayBegin_52 : decode cX6_mayBegin 52 = .ok (.aload_n 2, 1) := by decide +kernel
theorem dX6_mayBegin_53 : decode cX6_mayBegin 53 = .ok (.getfield 73, 3) := by decide +kernel
theorem dX6_mayBegin_56 : decode cX6_mayBegin 56 = .ok (.bipush 8, 2) := by decide +kernel
theorem dX6_mayBegin_58 : decode cX6_mayBegin 58 = .ok (.if_icmp .ge 7, 3) := by decide +kernel
theorem dX6_mayBegin_61 : decode cX6_mayBegin 61 = .ok (.iconst 1, 1) := by decide +kernel
theorem dX6_mayBegin_62 : decode cX6_mayBegin 62 = .ok (.goto 4, 3) := by decide +kernel
theorem dX6_mayBegin_65 : decode cX6_mayBegin 65 = .ok (.iconst 0, 1) := by decide +kernel
theorem dX6_mayBegin_66 : decode cX6_mayBegin 66 = .ok (.ireturn, 1) := by decide +kernel
theorem dX6_mayBegin_67 : decode cX6_mayBegin 67 = .ok (.aload_n 2, 1) := by decide +kernel
theorem dX6_mayBegin_68 : decode cX6_mayBegin 68 = .ok (.getfield 76, 3) := by decide +kernel
theorem dX6_mayBegin_71 : decode cX6_mayBegin 71 = .ok (.bipush 6, 2) := by decide +kernel
theorem dX6_mayBegin_73 : decode cX6_mayBegin 73 = .ok (.if_icmp .ge 7, 3) := by decide +kernel
theorem dX6_mayBegin_76 : decode cX6_mayBegin 76 = .ok (.iconst 1, 1) := by decide +kernel
theorem dX6_mayBegin_77 : decode cX6_mayBegin 77 = .ok (.goto 4, 3) := by decide +kernel
theorem dX6_mayBegin_80 : decode cX6_mayBegin 80 = .ok (.iconst 0, 1) := by decide +kernel
theorem dX6_mayBegin_81 : decode cX6_mayBegin 81 = .ok (.ireturn, 1) := by decide +kernel
theorem dX6_mayBegin_82 : decode cX6_mayBegin 82 = .ok (.aload_n 2, 1) := by decide +kernel
theorem dX6_mayBegin_83 : decode cX6_mayBegin 83 = .ok (.getfield 79, 3) := by decide +kernel
theorem dX6_mayBegin_86 : decode cX6_mayBegin 86 = .ok (.bipush 7, 2) := by decide +kernel
theorem dX6_mayBegin_88 : decode cX6_mayBegin 88 = .ok (.if_icmp .ge 7, 3) := by decide +kernel
theorem dX6_mayBegin_91 : decode cX6_mayBegin 91 = .ok (.iconst 1, 1) := by decide +kernel
theorem dX6_mayBegin_92 : decode cX6_mayBegin 92 = .ok (.goto 4, 3) := by decide +kernel
theorem dX6_mayBegin_95 : decode cX6_mayBegin 95 = .ok (.iconst 0, 1) := by decide +kernel
theorem dX6_mayBegin_96 : decode cX6_mayBegin 96 = .ok (.ireturn, 1) := by decide +kernel
theorem dX6_mayBegin_97 : decode cX6_mayBegin 97 = .ok (.aload_n 0, 1) := by decide +kernel
theorem dX6_mayBegin_98 : decode cX6_mayBegin 98 = .ok (.getfield 28, 3) := by decide +kernel
theorem dX6_mayBegin_101 : decode cX6_mayBegin 101 = .ok (.ifCond .ne 7, 3) := by decide +kernel
theorem dX6_mayBegin_104 : decode cX6_mayBegin 104 = .ok (.iconst 1, 1) := by decide +kernel
theorem dX6_mayBegin_105 : decode cX6_mayBegin 105 = .ok (.goto 4, 3) := by decide +kernel
theorem dX6_mayBegin_108 : decode cX6_mayBegin 108 = .ok (.iconst 0, 1) := by decide +kernel
theorem dX6_mayBegin_109 : decode cX6_mayBegin 109 = .ok (.ireturn, 1) := by decide +kernel
theorem dX6_mayBegin_110 : decode cX6_mayBegin 110 = .ok (.aload_n 0, 1) := by decide +kernel
theorem dX6_mayBegin_111 : decode cX6_mayBegin 111 = .ok (.getfield 32, 3) := by decide +kernel
theorem dX6_mayBegin_114 : decode cX6_mayBegin 114 = .ok (.ifCond .ne 7, 3) := by decide +kernel
theorem dX6_mayBegin_117 : decode cX6_mayBegin 117 = .ok (.iconst 1, 1) := by decide +kernel
theorem dX6_mayBegin_118 : decode cX6_mayBegin 118 = .ok (.goto 4, 3) := by decide +kernel
theorem dX6_mayBegin_121 : decode cX6_mayBegin 121 = .ok (.iconst 0, 1) := by decide +kernel
theorem dX6_mayBegin_122 : decode cX6_mayBegin 122 = .ok (.ireturn, 1) := by decide +kernel
theorem dX6_mayBegin_123 : decode cX6_mayBegin 123 = .ok (.iconst 0, 1) := by decide +kernel
theorem dX6_mayBegin_124 : decode cX6_mayBegin 124 = .ok (.ireturn, 1) := by decide +kernel
theorem dX6_howManyNumbers_0 : decode cX6_howManyNumbers 0 = .ok (.iload_n 0, 1) := by decide +kernel
theorem dX6_howManyNumbers_1 : decode cX6_howManyNumbers 1 = .ok (.lookupswitch 41 #[(98, 39), (108, 35), (115, 37)], 35) := by decide +kernel
theorem dX6_howManyNumbers_36 : decode cX6_howManyNumbers 36 = .ok (.iconst 3, 1) := by decide +kernel
theorem dX6_howManyNumbers_37 : decode cX6_howManyNumbers 37 = .ok (.ireturn, 1) := by decide +kernel
theorem dX6_howManyNumbers_38 : decode cX6_howManyNumbers 38 = .ok (.iconst 4, 1) := by decide +kernel
theorem dX6_howManyNumbers_39 : decode cX6_howManyNumbers 39 = .ok (.ireturn, 1) := by decide +kernel
theorem dX6_howManyNumbers_40 : decode cX6_howManyNumbers 40 = .ok (.iconst 2, 1) := by decide +kernel
theorem dX6_howManyNumbers_41 : decode cX6_howManyNumbers 41 = .ok (.ireturn, 1) := by decide +kernel
theorem dX6_howManyNumbers_42 : decode cX6_howManyNumbers 42 = .ok (.iconst 1, 1) := by decide +kernel
theorem dX6_howManyNumbers_43 : decode cX6_howManyNumbers 43 = .ok (.ireturn, 1) := by decide +kernel
theorem dX6_least_0 : decode cX6_least 0 = .ok (.iload_n 0, 1) := by decide +kernel
theorem dX6_least_1 : decode cX6_least 1 = .ok (.bipush 108, 2) := by decide +kernel
theorem dX6_least_3 : decode cX6_least 3 = .ok (.if_icmp .ne 35, 3) := by decide +kernel
theorem dX6_least_6 : decode cX6_least 6 = .ok (.iload_n 1, 1) := by decide +kernel
theorem dX6_least_7 : decode cX6_least 7 = .ok (.iconst 1, 1) := by decide +kernel
theorem dX6_least_8 : decode cX6_least 8 = .ok (.if_icmp .ne 14, 3) := by decide +kernel
theorem dX6_least_11 : decode cX6_least 11 = .ok (.aload_n 2, 1) := by decide +kernel
theorem dX6_least_12 : decode cX6_least 12 = .ok (.getfield 73, 3) := by decide +kernel
theorem dX6_least_15 : decode cX6_least 15 = .ok (.ifCond .ne 7, 3) := by decide +kernel
theorem dX6_least_18 : decode cX6_least 18 = .ok (.iconst 1, 1) := by decide +kernel
theorem dX6_least_19 : decode cX6_least 19 = .ok (.goto 4, 3) := by decide +kernel
theorem dX6_least_22 : decode cX6_least 22 = .ok (.iconst 0, 1) := by decide +kernel
theorem dX6_least_23 : decode cX6_least 23 = .ok (.istore_n 3, 1) := by decide +kernel
theorem dX6_least_24 : decode cX6_least 24 = .ok (.iload_n 1, 1) := by decide +kernel
theorem dX6_least_25 : decode cX6_least 25 = .ok (.ifCond .eq 7, 3) := by decide +kernel
theorem dX6_least_28 : decode cX6_least 28 = .ok (.iload_n 3, 1) := by decide +kernel
theorem dX6_least_29 : decode cX6_least 29 = .ok (.ifCond .eq 7, 3) := by decide +kernel
theorem dX6_least_32 : decode cX6_least 32 = .ok (.iconst 0, 1) := by decide +kernel
theorem dX6_least_33 : decode cX6_least 33 = .ok (.goto 4, 3) := by decide +kernel
theorem dX6_least_36 : decode cX6_least 36 = .ok (.iconst 1, 1) := by decide +kernel
theorem dX6_least_37 : decode cX6_least 37 = .ok (.ireturn, 1) := by decide +kernel
theorem dX6_least_38 : decode cX6_least 38 = .ok (.iload_n 0, 1) := by decide +kernel
theorem dX6_least_39 : decode cX6_least 39 = .ok (.bipush 115, 2) := by decide +kernel
theorem dX6_least_41 : decode cX6_least 41 = .ok (.if_icmp .ne 12, 3) := by decide +kernel
theorem dX6_least_44 : decode cX6_least 44 = .ok (.iload_n 1, 1) := by decide +kernel
theorem dX6_least_45 : decode cX6_least 45 = .ok (.iconst 3, 1) := by decide +kernel
theorem dX6_least_46 : decode cX6_least 46 = .ok (.if_icmp .ne 7, 3) := by decide +kernel
theorem dX6_least_49 : decode cX6_least 49 = .ok (.iconst 1, 1) := by decide +kernel
theorem dX6_least_50 : decode cX6_least 50 = .ok (.goto 4, 3) := by decide +kernel
theorem dX6_least_53 : decode cX6_least 53 = .ok (.iconst 0, 1) := by decide +kernel
theorem dX6_least_54 : decode cX6_least 54 = .ok (.ireturn, 1) := by decide +kernel
set_option maxRecDepth 20000 in
theorem ggX6_most_X6_mostOfLimb : GoodIn wsX6_most wsX6_mostOfLimb := goodIn_r _ [4, 5, 9, 10, 11, 12, 13, 14, 15, 16, 17, 18, 19] (by decide +kernel) (by decide +kernel)
set_option maxRecDepth 20000 in
theorem gX6_most_X6_mostOfLimb : GoodIn wsX6_most (va_wsS RX6 82 yX6_mostOfLimb wsX6_mostOfLimb) := goodIn_app (goodIn_of _ (by decide +kernel)) ggX6_most_X6_mostOfLimb
set_option maxRecDepth 20000 in
theorem ggX6_most_X6_mostOfString : GoodIn wsX6_most wsX6_mostOfString := goodIn_r _ [8, 5, 9, 10, 11, 12, 13, 14, 15, 16, 17, 18, 19] (by decide +kernel) (by decide +kernel)
set_option maxRecDepth 20000 in
theorem gX6_most_X6_mostOfString : GoodIn wsX6_most (va_wsS RX6 86 yX6_mostOfString wsX6_mostOfString) := goodIn_app (goodIn_of _ (by decide +kernel)) ggX6_most_X6_mostOfString
theorem dX6_most_0 : decode cX6_most 0 = .ok (.iload_n 0, 1) := by decide +kernel
theorem dX6_most_1 : decode cX6_most 1 = .ok (.lookupswitch 70 #[(98, 55), (108, 43), (115, 49), (117, 67)], 43) := by decide +kernel
theorem dX6_most_44 : decode cX6_most 44 = .ok (.iload_n 1, 1) := by decide +kernel
theorem dX6_most_45 : decode cX6_most 45 = .ok (.aload_n 2, 1) := by decide +kernel
theorem dX6_most_46 : decode cX6_most 46 = .ok (.invokestatic 82, 3) := by decide +kernel
theorem dX6_most_49 : decode cX6_most 49 = .ok (.ireturn, 1) := by decide +kernel
theorem dX6_most_50 : decode cX6_most 50 = .ok (.iload_n 1, 1) := by decide +kernel
theorem dX6_most_51 : decode cX6_most 51 = .ok (.aload_n 2, 1) := by decide +kernel
theorem dX6_most_52 : decode cX6_most 52 = .ok (.invokestatic 86, 3) := by decide +kernel
theorem dX6_most_55 : decode cX6_most 55 = .ok (.ireturn, 1) := by decide +kernel
theorem dX6_most_56 : decode cX6_most 56 = .ok (.iload_n 1, 1) := by decide +kernel
theorem dX6_most_57 : decode cX6_most 57 = .ok (.ifCond .ne 8, 3) := by decide +kernel
theorem dX6_most_60 : decode cX6_most 60 = .ok (.bipush 40, 2) := by decide +kernel
theorem dX6_most_62 : decode cX6_most 62 = .ok (.goto 5, 3) := by decide +kernel
theorem dX6_most_65 : decode cX6_most 65 = .ok (.bipush 6, 2) := by decide +kernel
theorem dX6_most_67 : decode cX6_most 67 = .ok (.ireturn, 1) := by decide +kernel
theorem dX6_most_68 : decode cX6_most 68 = .ok (.bipush 40, 2) := by decide +kernel
theorem dX6_most_70 : decode cX6_most 70 = .ok (.ireturn, 1) := by decide +kernel
theorem dX6_most_71 : decode cX6_most 71 = .ok (.bipush 6, 2) := by decide +kernel
theorem dX6_most_73 : decode cX6_most 73 = .ok (.ireturn, 1) := by decide +kernel
theorem dX6_mostOfLimb_0 : decode cX6_mostOfLimb 0 = .ok (.iload_n 0, 1) := by decide +kernel
theorem dX6_mostOfLimb_1 : decode cX6_mostOfLimb 1 = .ok (.iconst 2, 1) := by decide +kernel
theorem dX6_mostOfLimb_2 : decode cX6_mostOfLimb 2 = .ok (.if_icmp .ne 6, 3) := by decide +kernel
theorem dX6_mostOfLimb_5 : decode cX6_mostOfLimb 5 = .ok (.bipush 9, 2) := by decide +kernel
theorem dX6_mostOfLimb_7 : decode cX6_mostOfLimb 7 = .ok (.ireturn, 1) := by decide +kernel
theorem dX6_mostOfLimb_8 : decode cX6_mostOfLimb 8 = .ok (.aload_n 1, 1) := by decide +kernel
theorem dX6_mostOfLimb_9 : decode cX6_mostOfLimb 9 = .ok (.getfield 73, 3) := by decide +kernel
theorem dX6_mostOfLimb_12 : decode cX6_mostOfLimb 12 = .ok (.ifCond .ne 5, 3) := by decide +kernel
theorem dX6_mostOfLimb_15 : decode cX6_mostOfLimb 15 = .ok (.iconst 0, 1) := by decide +kernel
theorem dX6_mostOfLimb_16 : decode cX6_mostOfLimb 16 = .ok (.ireturn, 1) := by decide +kernel
theorem dX6_mostOfLimb_17 : decode cX6_mostOfLimb 17 = .ok (.iload_n 0, 1) := by decide +kernel
theorem dX6_mostOfLimb_18 : decode cX6_mostOfLimb 18 = .ok (.ifCond .ne 12, 3) := by decide +kernel
theorem dX6_mostOfLimb_21 : decode cX6_mostOfLimb 21 = .ok (.aload_n 1, 1) := by decide +kernel
theorem dX6_mostOfLimb_22 : decode cX6_mostOfLimb 22 = .ok (.getfield 73, 3) := by decide +kernel
theorem dX6_mostOfLimb_25 : decode cX6_mostOfLimb 25 = .ok (.iconst 1, 1) := by decide +kernel
theorem dX6_mostOfLimb_26 : decode cX6_mostOfLimb 26 = .ok (.isub, 1) := by decide +kernel
theorem dX6_mostOfLimb_27 : decode cX6_mostOfLimb 27 = .ok (.goto 5, 3) := by decide +kernel
theorem dX6_mostOfLimb_30 : decode cX6_mostOfLimb 30 = .ok (.bipush 9, 2) := by decide +kernel
theorem dX6_mostOfLimb_32 : decode cX6_mostOfLimb 32 = .ok (.ireturn, 1) := by decide +kernel
theorem dX6_mostOfString_0 : decode cX6_mostOfString 0 = .ok (.iload_n 0, 1) := by decide +kernel
theorem dX6_mostOfString_1 : decode cX6_mostOfString 1 = .ok (.tableswitch 40 0 2 #[27, 34, 37], 27) := by decide +kernel
theorem dX6_mostOfString_28 : decode cX6_mostOfString 28 = .ok (.aload_n 1, 1) := by decide +kernel
theorem dX6_mostOfString_29 : decode cX6_mostOfString 29 = .ok (.getfield 73, 3) := by decide +kernel
theorem dX6_mostOfString_32 : decode cX6_mostOfString 32 = .ok (.iconst 1, 1) := by decide +kernel
theorem dX6_mostOfString_33 : decode cX6_mostOfString 33 = .ok (.isub, 1) := by decide +kernel
theorem dX6_mostOfString_34 : decode cX6_mostOfString 34 = .ok (.ireturn, 1) := by decide +kernel
theorem dX6_mostOfString_35 : decode cX6_mostOfString 35 = .ok (.bipush 6, 2) := by decide +kernel
theorem dX6_mostOfString_37 : decode cX6_mostOfString 37 = .ok (.ireturn, 1) := by decide +kernel
theorem dX6_mostOfString_38 : decode cX6_mostOfString 38 = .ok (.bipush 40, 2) := by decide +kernel
theorem dX6_mostOfString_40 : decode cX6_mostOfString 40 = .ok (.ireturn, 1) := by decide +kernel
theorem dX6_mostOfString_41 : decode cX6_mostOfString 41 = .ok (.bipush 40, 2) := by decide +kernel
theorem dX6_mostOfString_43 : decode cX6_mostOfString 43 = .ok (.ireturn, 1) := by decide +kernel
set_option maxRecDepth 20000 in
theorem ggX6_tell_X0_addLimb : GoodIn wsX6_tell wsX0_addLimb := goodIn_r _ [9, 10, 11, 12, 13, 14, 15, 16, 17, 8, 18, 64, 65, 66, 67, 68, 69, 70, 71, 72, 73, 74] (by decide +kernel) (by decide +kernel)
set_option maxRecDepth 20000 in
theorem gX6_tell_X0_addLimb : GoodIn wsX6_tell (wsV RX6 89 RX0 yX0_addLimb wsX0_addLimb) := goodIn_app (goodIn_of _ (by decide +kernel)) ggX6_tell_X0_addLimb
set_option maxRecDepth 20000 in
theorem ggX6_tell_X0_addString : GoodIn wsX6_tell wsX0_addString := goodIn_r _ [22, 23, 24, 25, 26, 27, 28, 29, 30, 31, 32, 33, 34, 35, 36, 37, 38, 39, 64, 65, 66, 67, 68, 69, 70, 71, 72, 73, 74, 75] (by decide +kernel) (by decide +kernel)
set_option maxRecDepth 20000 in
theorem gX6_tell_X0_addString : GoodIn wsX6_tell (wsV RX6 93 RX0 yX0_addString wsX0_addString) := goodIn_app (goodIn_of _ (by decide +kernel)) ggX6_tell_X0_addString
set_option maxRecDepth 20000 in
theorem ggX6_tell_X0_addBeat : GoodIn wsX6_tell wsX0_addBeat := goodIn_r _ [43, 44, 45, 46, 64, 65, 66, 67, 68, 69, 70, 71, 72, 73, 74] (by decide +kernel) (by decide +kernel)
set_option maxRecDepth 20000 in
theorem gX6_tell_X0_addBeat : GoodIn wsX6_tell (wsV RX6 97 RX0 yX0_addBeat wsX0_addBeat) := goodIn_app (goodIn_of _ (by decide +kernel)) ggX6_tell_X0_addBeat
set_option maxRecDepth 20000 in
theorem ggX6_tell_X4_setLift : GoodIn wsX6_tell wsX4_setLift := goodIn_r _ [50, 31, 75] (by decide +kernel) (by decide +kernel)
set_option maxRecDepth 20000 in
theorem gX6_tell_X4_setLift : GoodIn wsX6_tell (wsV RX6 105 RX4 yX4_setLift wsX4_setLift) := goodIn_app (goodIn_of _ (by decide +kernel)) ggX6_tell_X4_setLift
set_option maxRecDepth 20000 in
theorem ggX6_tell_X4_setTilt : GoodIn wsX6_tell wsX4_setTilt := goodIn_r _ [54, 31, 75] (by decide +kernel) (by decide +kernel)
set_option maxRecDepth 20000 in
theorem gX6_tell_X4_setTilt : GoodIn wsX6_tell (wsV RX6 111 RX4 yX4_setTilt wsX4_setTilt) := goodIn_app (goodIn_of _ (by decide +kernel)) ggX6_tell_X4_setTilt
theorem dX6_tell_0 : decode cX6_tell 0 = .ok (.iload_n 1, 1) := by decide +kernel
theorem dX6_tell_1 : decode cX6_tell 1 = .ok (.lookupswitch 141 #[(98, 99), (108, 43), (115, 68), (117, 120)], 43) := by decide +kernel
theorem dX6_tell_44 : decode cX6_tell 44 = .ok (.aload_n 2, 1) := by decide +kernel
theorem dX6_tell_45 : decode cX6_tell 45 = .ok (.aload_n 0, 1) := by decide +kernel
theorem dX6_tell_46 : decode cX6_tell 46 = .ok (.getfield 15, 3) := by decide +kernel
theorem dX6_tell_49 : decode cX6_tell 49 = .ok (.iconst 0, 1) := by decide +kernel
theorem dX6_tell_50 : decode cX6_tell 50 = .ok (.iaload, 1) := by decide +kernel
theorem dX6_tell_51 : decode cX6_tell 51 = .ok (.aload_n 0, 1) := by decide +kernel
theorem dX6_tell_52 : decode cX6_tell 52 = .ok (.getfield 15, 3) := by decide +kernel
theorem dX6_tell_55 : decode cX6_tell 55 = .ok (.iconst 1, 1) := by decide +kernel
theorem dX6_tell_56 : decode cX6_tell 56 = .ok (.iaload, 1) := by decide +kernel
theorem dX6_tell_57 : decode cX6_tell 57 = .ok (.aload_n 0, 1) := by decide +kernel
theorem dX6_tell_58 : decode cX6_tell 58 = .ok (.getfield 15, 3) := by decide +kernel
theorem dX6_tell_61 : decode cX6_tell 61 = .ok (.iconst 2, 1) := by decide +kernel
theorem dX6_tell_62 : decode cX6_tell 62 = .ok (.iaload, 1) := by decide +kernel
theorem dX6_tell_63 : decode cX6_tell 63 = .ok (.invokevirtual 89, 3) := by decide +kernel
theorem dX6_tell_66 : decode cX6_tell 66 = .ok (.goto 96, 3) := by decide +kernel
theorem dX6_tell_69 : decode cX6_tell 69 = .ok (.aload_n 2, 1) := by decide +kernel
theorem dX6_tell_70 : decode cX6_tell 70 = .ok (.aload_n 0, 1) := by decide +kernel
theorem dX6_tell_71 : decode cX6_tell 71 = .ok (.getfield 15, 3) := by decide +kernel
theorem dX6_tell_74 : decode cX6_tell 74 = .ok (.iconst 0, 1) := by decide +kernel
theorem dX6_tell_75 : decode cX6_tell 75 = .ok (.iaload, 1) := by decide +kernel
theorem dX6_tell_76 : decode cX6_tell 76 = .ok (.aload_n 0, 1) := by decide +kernel
theorem dX6_tell_77 : decode cX6_tell 77 = .ok (.getfield 15, 3) := by decide +kernel
theorem dX6_tell_80 : decode cX6_tell 80 = .ok (.iconst 1, 1) := by decide +kernel
theorem dX6_tell_81 : decode cX6_tell 81 = .ok (.iaload, 1) := by decide +kernel
theorem dX6_tell_82 : decode cX6_tell 82 = .ok (.aload_n 0, 1) := by decide +kernel
theorem dX6_tell_83 : decode cX6_tell 83 = .ok (.getfield 15, 3) := by decide +kernel
theorem dX6_tell_86 : decode cX6_tell 86 = .ok (.iconst 2, 1) := by decide +kernel
theorem dX6_tell_87 : decode cX6_tell 87 = .ok (.iaload, 1) := by decide +kernel
theorem dX6_tell_88 : decode cX6_tell 88 = .ok (.aload_n 0, 1) := by decide +kernel
theorem dX6_tell_89 : decode cX6_tell 89 = .ok (.getfield 15, 3) := by decide +kernel
theorem dX6_tell_92 : decode cX6_tell 92 = .ok (.iconst 3, 1) := by decide +kernel
theorem dX6_tell_93 : decode cX6_tell 93 = .ok (.iaload, 1) := by decide +kernel
theorem dX6_tell_94 : decode cX6_tell 94 = .ok (.invokevirtual 93, 3) := by decide +kernel
theorem dX6_tell_97 : decode cX6_tell 97 = .ok (.goto 65, 3) := by decide +kernel
theorem dX6_tell_100 : decode cX6_tell 100 = .ok (.aload_n 2, 1) := by decide +kernel
theorem dX6_tell_101 : decode cX6_tell 101 = .ok (.aload_n 0, 1) := by decide +kernel
theorem dX6_tell_102 : decode cX6_tell 102 = .ok (.getfield 15, 3) := by decide +kernel
theorem dX6_tell_105 : decode cX6_tell 105 = .ok (.iconst 0, 1) := by decide +kernel
theorem dX6_tell_106 : decode cX6_tell 106 = .ok (.iaload, 1) := by decide +kernel
theorem dX6_tell_107 : decode cX6_tell 107 = .ok (.aload_n 0, 1) := by decide +kernel
theorem dX6_tell_108 : decode cX6_tell 108 = .ok (.getfield 15, 3) := by decide +kernel
theorem dX6_tell_111 : decode cX6_tell 111 = .ok (.iconst 1, 1) := by decide +kernel
theorem dX6_tell_112 : decode cX6_tell 112 = .ok (.iaload, 1) := by decide +kernel
theorem dX6_tell_113 : decode cX6_tell 113 = .ok (.iconst 3, 1) := by decide +kernel
theorem dX6_tell_114 : decode cX6_tell 114 = .ok (.isub, 1) := by decide +kernel
theorem dX6_tell_115 : decode cX6_tell 115 = .ok (.invokevirtual 97, 3) := by decide +kernel
theorem dX6_tell_118 : decode cX6_tell 118 = .ok (.goto 44, 3) := by decide +kernel
theorem dX6_tell_121 : decode cX6_tell 121 = .ok (.aload_n 2, 1) := by decide +kernel
theorem dX6_tell_122 : decode cX6_tell 122 = .ok (.getfield 101, 3) := by decide +kernel
theorem dX6_tell_125 : decode cX6_tell 125 = .ok (.aload_n 0, 1) := by decide +kernel
theorem dX6_tell_126 : decode cX6_tell 126 = .ok (.getfield 15, 3) := by decide +kernel
theorem dX6_tell_129 : decode cX6_tell 129 = .ok (.iconst 0, 1) := by decide +kernel
theorem dX6_tell_130 : decode cX6_tell 130 = .ok (.iaload, 1) := by decide +kernel
theorem dX6_tell_131 : decode cX6_tell 131 = .ok (.invokevirtual 105, 3) := by decide +kernel
theorem dX6_tell_134 : decode cX6_tell 134 = .ok (.aload_n 0, 1) := by decide +kernel
theorem dX6_tell_135 : decode cX6_tell 135 = .ok (.iconst 1, 1) := by decide +kernel
theorem dX6_tell_136 : decode cX6_tell 136 = .ok (.putfield 28, 3) := by decide +kernel
theorem dX6_tell_139 : decode cX6_tell 139 = .ok (.goto 23, 3) := by decide +kernel
theorem dX6_tell_142 : decode cX6_tell 142 = .ok (.aload_n 2, 1) := by decide +kernel
theorem dX6_tell_143 : decode cX6_tell 143 = .ok (.getfield 101, 3) := by decide +kernel
theorem dX6_tell_146 : decode cX6_tell 146 = .ok (.aload_n 0, 1) := by decide +kernel
theorem dX6_tell_147 : decode cX6_tell 147 = .ok (.getfield 15, 3) := by decide +kernel
theorem dX6_tell_150 : decode cX6_tell 150 = .ok (.iconst 0, 1) := by decide +kernel
theorem dX6_tell_151 : decode cX6_tell 151 = .ok (.iaload, 1) := by decide +kernel
theorem dX6_tell_152 : decode cX6_tell 152 = .ok (.iconst 3, 1) := by decide +kernel
theorem dX6_tell_153 : decode cX6_tell 153 = .ok (.isub, 1) := by decide +kernel
theorem dX6_tell_154 : decode cX6_tell 154 = .ok (.invokevirtual 111, 3) := by decide +kernel
theorem dX6_tell_157 : decode cX6_tell 157 = .ok (.aload_n 0, 1) := by decide +kernel
theorem dX6_tell_158 : decode cX6_tell 158 = .ok (.iconst 1, 1) := by decide +kernel
theorem dX6_tell_159 : decode cX6_tell 159 = .ok (.putfield 32, 3) := by decide +kernel
theorem dX6_tell_162 : decode cX6_tell 162 = .ok (.return_, 1) := by decide +kernel
set_option maxRecDepth 20000 in
theorem ggX6_nextToken_X6_isLetter : GoodIn wsX6_nextToken wsX6_isLetter := goodIn_r _ [10, 4, 28, 29, 30, 31, 32, 33, 34, 35, 36] (by decide +kernel) (by decide +kernel)
set_option maxRecDepth 20000 in
theorem gX6_nextToken_X6_isLetter : GoodIn wsX6_nextToken (wsV RX6 114 RX6 yX6_isLetter wsX6_isLetter) := goodIn_app (goodIn_of _ (by decide +kernel)) ggX6_nextToken_X6_isLetter
set_option maxRecDepth 20000 in
theorem ggX6_nextToken_X6_takeLetters : GoodIn wsX6_nextToken wsX6_takeLetters := goodIn_r _ [14, 5, 1, 3, 6, 7, 8, 9, 10, 4, 28, 29, 30, 31, 32, 33, 34, 35, 36] (by decide +kernel) (by decide +kernel)
set_option maxRecDepth 20000 in
theorem gX6_nextToken_X6_takeLetters : GoodIn wsX6_nextToken (wsV RX6 118 RX6 yX6_takeLetters wsX6_takeLetters) := goodIn_app (goodIn_of _ (by decide +kernel)) ggX6_nextToken_X6_takeLetters
set_option maxRecDepth 20000 in
theorem ggX6_nextToken_X6_isDigit : GoodIn wsX6_nextToken wsX6_isDigit := goodIn_r _ [18, 4, 28, 29, 30, 31, 32, 33, 34, 35, 36] (by decide +kernel) (by decide +kernel)
set_option maxRecDepth 20000 in
theorem gX6_nextToken_X6_isDigit : GoodIn wsX6_nextToken (wsV RX6 121 RX6 yX6_isDigit wsX6_isDigit) := goodIn_app (goodIn_of _ (by decide +kernel)) ggX6_nextToken_X6_isDigit
set_option maxRecDepth 20000 in
theorem ggX6_nextToken_X6_takeNumber : GoodIn wsX6_nextToken wsX6_takeNumber := goodIn_r _ [22, 23, 1, 3, 4, 24, 25, 26, 27, 2, 5, 15, 16, 17, 9, 18, 28, 29, 30, 31, 32, 33, 34, 35, 36] (by decide +kernel) (by decide +kernel)
set_option maxRecDepth 20000 in
theorem gX6_nextToken_X6_takeNumber : GoodIn wsX6_nextToken (wsV RX6 124 RX6 yX6_takeNumber wsX6_takeNumber) := goodIn_app (goodIn_of _ (by decide +kernel)) ggX6_nextToken_X6_takeNumber
theorem dX6_nextToken_0 : decode cX6_nextToken 0 = .ok (.aload_n 0, 1) := by decide +kernel
theorem dX6_nextToken_1 : decode cX6_nextToken 1 = .ok (.aload_n 0, 1) := by decide +kernel
theorem dX6_nextToken_2 : decode cX6_nextToken 2 = .ok (.getfield 35, 3) := by decide +kernel
theorem dX6_nextToken_5 : decode cX6_nextToken 5 = .ok (.putfield 48, 3) := by decide +kernel
theorem dX6_nextToken_8 : decode cX6_nextToken 8 = .ok (.aload_n 0, 1) := by decide +kernel
theorem dX6_nextToken_9 : decode cX6_nextToken 9 = .ok (.getfield 48, 3) := by decide +kernel
theorem dX6_nextToken_12 : decode cX6_nextToken 12 = .ok (.aload_n 0, 1) := by decide +kernel
theorem dX6_nextToken_13 : decode cX6_nextToken 13 = .ok (.getfield 19, 3) := by decide +kernel
theorem dX6_nextToken_16 : decode cX6_nextToken 16 = .ok (.if_icmp .ge 30, 3) := by decide +kernel
theorem dX6_nextToken_19 : decode cX6_nextToken 19 = .ok (.aload_n 0, 1) := by decide +kernel
theorem dX6_nextToken_20 : decode cX6_nextToken 20 = .ok (.getfield 11, 3) := by decide +kernel
theorem dX6_nextToken_23 : decode cX6_nextToken 23 = .ok (.aload_n 0, 1) := by decide +kernel
theorem dX6_nextToken_24 : decode cX6_nextToken 24 = .ok (.getfield 48, 3) := by decide +kernel
theorem dX6_nextToken_27 : decode cX6_nextToken 27 = .ok (.caload, 1) := by decide +kernel
theorem dX6_nextToken_28 : decode cX6_nextToken 28 = .ok (.bipush 32, 2) := by decide +kernel
theorem dX6_nextToken_30 : decode cX6_nextToken 30 = .ok (.if_icmp .ne 16, 3) := by decide +kernel
theorem dX6_nextToken_33 : decode cX6_nextToken 33 = .ok (.aload_n 0, 1) := by decide +kernel
theorem dX6_nextToken_34 : decode cX6_nextToken 34 = .ok (.dup, 1) := by decide +kernel
theorem dX6_nextToken_35 : decode cX6_nextToken 35 = .ok (.getfield 48, 3) := by decide +kernel
theorem dX6_nextToken_38 : decode cX6_nextToken 38 = .ok (.iconst 1, 1) := by decide +kernel
theorem dX6_nextToken_39 : decode cX6_nextToken 39 = .ok (.iadd, 1) := by decide +kernel
theorem dX6_nextToken_40 : decode cX6_nextToken 40 = .ok (.putfield 48, 3) := by decide +kernel
theorem dX6_nextToken_43 : decode cX6_nextToken 43 = .ok (.goto (-35), 3) := by decide +kernel
theorem dX6_nextToken_46 : decode cX6_nextToken 46 = .ok (.aload_n 0, 1) := by decide +kernel
theorem dX6_nextToken_47 : decode cX6_nextToken 47 = .ok (.aload_n 0, 1) := by decide +kernel
theorem dX6_nextToken_48 : decode cX6_nextToken 48 = .ok (.getfield 48, 3) := by decide +kernel
theorem dX6_nextToken_51 : decode cX6_nextToken 51 = .ok (.putfield 35, 3) := by decide +kernel
theorem dX6_nextToken_54 : decode cX6_nextToken 54 = .ok (.aload_n 0, 1) := by decide +kernel
theorem dX6_nextToken_55 : decode cX6_nextToken 55 = .ok (.getfield 48, 3) := by decide +kernel
theorem dX6_nextToken_58 : decode cX6_nextToken 58 = .ok (.aload_n 0, 1) := by decide +kernel
theorem dX6_nextToken_59 : decode cX6_nextToken 59 = .ok (.getfield 19, 3) := by decide +kernel
theorem dX6_nextToken_62 : decode cX6_nextToken 62 = .ok (.if_icmp .lt 11, 3) := by decide +kernel
theorem dX6_nextToken_65 : decode cX6_nextToken 65 = .ok (.aload_n 0, 1) := by decide +kernel
theorem dX6_nextToken_66 : decode cX6_nextToken 66 = .ok (.iconst 0, 1) := by decide +kernel
theorem dX6_nextToken_67 : decode cX6_nextToken 67 = .ok (.putfield 41, 3) := by decide +kernel
theorem dX6_nextToken_70 : decode cX6_nextToken 70 = .ok (.goto 72, 3) := by decide +kernel
theorem dX6_nextToken_73 : decode cX6_nextToken 73 = .ok (.aload_n 0, 1) := by decide +kernel
theorem dX6_nextToken_74 : decode cX6_nextToken 74 = .ok (.aload_n 0, 1) := by decide +kernel
theorem dX6_nextToken_75 : decode cX6_nextToken 75 = .ok (.getfield 48, 3) := by decide +kernel
theorem dX6_nextToken_78 : decode cX6_nextToken 78 = .ok (.invokevirtual 114, 3) := by decide +kernel
theorem dX6_nextToken_81 : decode cX6_nextToken 81 = .ok (.ifCond .eq 10, 3) := by decide +kernel
theorem dX6_nextToken_84 : decode cX6_nextToken 84 = .ok (.aload_n 0, 1) := by decide +kernel
theorem dX6_nextToken_85 : decode cX6_nextToken 85 = .ok (.invokevirtual 118, 3) := by decide +kernel
theorem dX6_nextToken_88 : decode cX6_nextToken 88 = .ok (.goto 54, 3) := by decide +kernel
theorem dX6_nextToken_91 : decode cX6_nextToken 91 = .ok (.aload_n 0, 1) := by decide +kernel
theorem dX6_nextToken_92 : decode cX6_nextToken 92 = .ok (.aload_n 0, 1) := by decide +kernel
theorem dX6_nextToken_93 : decode cX6_nextToken 93 = .ok (.getfield 48, 3) := by decide +kernel
theorem dX6_nextToken_96 : decode cX6_nextToken 96 = .ok (.invokevirtual 121, 3) := by decide +kernel
theorem dX6_nextToken_99 : decode cX6_nextToken 99 = .ok (.ifCond .eq 10, 3) := by decide +kernel
theorem dX6_nextToken_102 : decode cX6_nextToken 102 = .ok (.aload_n 0, 1) := by decide +kernel
theorem dX6_nextToken_103 : decode cX6_nextToken 103 = .ok (.invokevirtual 124, 3) := by decide +kernel
theorem dX6_nextToken_106 : decode cX6_nextToken 106 = .ok (.goto 36, 3) := by decide +kernel
theorem dX6_nextToken_109 : decode cX6_nextToken 109 = .ok (.aload_n 0, 1) := by decide +kernel
theorem dX6_nextToken_110 : decode cX6_nextToken 110 = .ok (.aload_n 0, 1) := by decide +kernel
theorem dX6_nextToken_111 : decode cX6_nextToken 111 = .ok (.getfield 11, 3) := by decide +kernel
theorem dX6_nextToken_114 : decode cX6_nextToken 114 = .ok (.aload_n 0, 1) := by decide +kernel
theorem dX6_nextToken_115 : decode cX6_nextToken 115 = .ok (.getfield 48, 3) := by decide +kernel
theorem dX6_nextToken_118 : decode cX6_nextToken 118 = .ok (.caload, 1) := by decide +kernel
theorem dX6_nextToken_119 : decode cX6_nextToken 119 = .ok (.bipush 59, 2) := by decide +kernel
theorem dX6_nextToken_121 : decode cX6_nextToken 121 = .ok (.if_icmp .ne 7, 3) := by decide +kernel
theorem dX6_nextToken_124 : decode cX6_nextToken 124 = .ok (.iconst 3, 1) := by decide +kernel
theorem dX6_nextToken_125 : decode cX6_nextToken 125 = .ok (.goto 4, 3) := by decide +kernel
theorem dX6_nextToken_128 : decode cX6_nextToken 128 = .ok (.iconst 4, 1) := by decide +kernel
theorem dX6_nextToken_129 : decode cX6_nextToken 129 = .ok (.putfield 41, 3) := by decide +kernel
theorem dX6_nextToken_132 : decode cX6_nextToken 132 = .ok (.aload_n 0, 1) := by decide +kernel
theorem dX6_nextToken_133 : decode cX6_nextToken 133 = .ok (.dup, 1) := by decide +kernel
theorem dX6_nextToken_134 : decode cX6_nextToken 134 = .ok (.getfield 35, 3) := by decide +kernel
theorem dX6_nextToken_137 : decode cX6_nextToken 137 = .ok (.iconst 1, 1) := by decide +kernel
theorem dX6_nextToken_138 : decode cX6_nextToken 138 = .ok (.iadd, 1) := by decide +kernel
theorem dX6_nextToken_139 : decode cX6_nextToken 139 = .ok (.putfield 35, 3) := by decide +kernel
theorem dX6_nextToken_142 : decode cX6_nextToken 142 = .ok (.return_, 1) := by decide +kernel
set_option maxRecDepth 20000 in
theorem ggX6_takeLetters_X6_isLetter : GoodIn wsX6_takeLetters wsX6_isLetter := goodIn_r _ [8, 9, 10, 11, 12, 13, 14, 15, 16, 17, 18] (by decide +kernel) (by decide +kernel)
set_option maxRecDepth 20000 in
theorem gX6_takeLetters_X6_isLetter : GoodIn wsX6_takeLetters (wsV RX6 114 RX6 yX6_isLetter wsX6_isLetter) := goodIn_app (goodIn_of _ (by decide +kernel)) ggX6_takeLetters_X6_isLetter
theorem dX6_takeLetters_0 : decode cX6_takeLetters 0 = .ok (.aload_n 0, 1) := by decide +kernel
theorem dX6_takeLetters_1 : decode cX6_takeLetters 1 = .ok (.iconst 1, 1) := by decide +kernel
theorem dX6_takeLetters_2 : decode cX6_takeLetters 2 = .ok (.putfield 41, 3) := by decide +kernel
theorem dX6_takeLetters_5 : decode cX6_takeLetters 5 = .ok (.aload_n 0, 1) := by decide +kernel
theorem dX6_takeLetters_6 : decode cX6_takeLetters 6 = .ok (.getfield 35, 3) := by decide +kernel
theorem dX6_takeLetters_9 : decode cX6_takeLetters 9 = .ok (.aload_n 0, 1) := by decide +kernel
theorem dX6_takeLetters_10 : decode cX6_takeLetters 10 = .ok (.getfield 19, 3) := by decide +kernel
theorem dX6_takeLetters_13 : decode cX6_takeLetters 13 = .ok (.if_icmp .ge 27, 3) := by decide +kernel
theorem dX6_takeLetters_16 : decode cX6_takeLetters 16 = .ok (.aload_n 0, 1) := by decide +kernel
theorem dX6_takeLetters_17 : decode cX6_takeLetters 17 = .ok (.aload_n 0, 1) := by decide +kernel
theorem dX6_takeLetters_18 : decode cX6_takeLetters 18 = .ok (.getfield 35, 3) := by decide +kernel
theorem dX6_takeLetters_21 : decode cX6_takeLetters 21 = .ok (.invokevirtual 114, 3) := by decide +kernel
theorem dX6_takeLetters_24 : decode cX6_takeLetters 24 = .ok (.ifCond .eq 16, 3) := by decide +kernel
theorem dX6_takeLetters_27 : decode cX6_takeLetters 27 = .ok (.aload_n 0, 1) := by decide +kernel
theorem dX6_takeLetters_28 : decode cX6_takeLetters 28 = .ok (.dup, 1) := by decide +kernel
theorem dX6_takeLetters_29 : decode cX6_takeLetters 29 = .ok (.getfield 35, 3) := by decide +kernel
theorem dX6_takeLetters_32 : decode cX6_takeLetters 32 = .ok (.iconst 1, 1) := by decide +kernel
theorem dX6_takeLetters_33 : decode cX6_takeLetters 33 = .ok (.iadd, 1) := by decide +kernel
theorem dX6_takeLetters_34 : decode cX6_takeLetters 34 = .ok (.putfield 35, 3) := by decide +kernel
theorem dX6_takeLetters_37 : decode cX6_takeLetters 37 = .ok (.goto (-32), 3) := by decide +kernel
theorem dX6_takeLetters_40 : decode cX6_takeLetters 40 = .ok (.return_, 1) := by decide +kernel
set_option maxRecDepth 20000 in
theorem ggX6_takeNumber_X6_isDigit : GoodIn wsX6_takeNumber wsX6_isDigit := goodIn_r _ [15, 4, 16, 17, 18, 19, 20, 21, 22, 23, 24] (by decide +kernel) (by decide +kernel)
set_option maxRecDepth 20000 in
theorem gX6_takeNumber_X6_isDigit : GoodIn wsX6_takeNumber (wsV RX6 121 RX6 yX6_isDigit wsX6_isDigit) := goodIn_app (goodIn_of _ (by decide +kernel)) ggX6_takeNumber_X6_isDigit
theorem dX6_takeNumber_0 : decode cX6_takeNumber 0 = .ok (.aload_n 0, 1) := by decide +kernel
theorem dX6_takeNumber_1 : decode cX6_takeNumber 1 = .ok (.iconst 0, 1) := by decide +kernel
theorem dX6_takeNumber_2 : decode cX6_takeNumber 2 = .ok (.putfield 59, 3) := by decide +kernel
theorem dX6_takeNumber_5 : decode cX6_takeNumber 5 = .ok (.aload_n 0, 1) := by decide +kernel
theorem dX6_takeNumber_6 : decode cX6_takeNumber 6 = .ok (.getfield 35, 3) := by decide +kernel
theorem dX6_takeNumber_9 : decode cX6_takeNumber 9 = .ok (.aload_n 0, 1) := by decide +kernel
theorem dX6_takeNumber_10 : decode cX6_takeNumber 10 = .ok (.getfield 19, 3) := by decide +kernel
theorem dX6_takeNumber_13 : decode cX6_takeNumber 13 = .ok (.if_icmp .ge 56, 3) := by decide +kernel
theorem dX6_takeNumber_16 : decode cX6_takeNumber 16 = .ok (.aload_n 0, 1) := by decide +kernel
theorem dX6_takeNumber_17 : decode cX6_takeNumber 17 = .ok (.aload_n 0, 1) := by decide +kernel
theorem dX6_takeNumber_18 : decode cX6_takeNumber 18 = .ok (.getfield 35, 3) := by decide +kernel
theorem dX6_takeNumber_21 : decode cX6_takeNumber 21 = .ok (.invokevirtual 121, 3) := by decide +kernel
theorem dX6_takeNumber_24 : decode cX6_takeNumber 24 = .ok (.ifCond .eq 45, 3) := by decide +kernel
theorem dX6_takeNumber_27 : decode cX6_takeNumber 27 = .ok (.aload_n 0, 1) := by decide +kernel
theorem dX6_takeNumber_28 : decode cX6_takeNumber 28 = .ok (.aload_n 0, 1) := by decide +kernel
theorem dX6_takeNumber_29 : decode cX6_takeNumber 29 = .ok (.getfield 59, 3) := by decide +kernel
theorem dX6_takeNumber_32 : decode cX6_takeNumber 32 = .ok (.bipush 10, 2) := by decide +kernel
theorem dX6_takeNumber_34 : decode cX6_takeNumber 34 = .ok (.imul, 1) := by decide +kernel
theorem dX6_takeNumber_35 : decode cX6_takeNumber 35 = .ok (.aload_n 0, 1) := by decide +kernel
theorem dX6_takeNumber_36 : decode cX6_takeNumber 36 = .ok (.getfield 11, 3) := by decide +kernel
theorem dX6_takeNumber_39 : decode cX6_takeNumber 39 = .ok (.aload_n 0, 1) := by decide +kernel
theorem dX6_takeNumber_40 : decode cX6_takeNumber 40 = .ok (.getfield 35, 3) := by decide +kernel
theorem dX6_takeNumber_43 : decode cX6_takeNumber 43 = .ok (.caload, 1) := by decide +kernel
theorem dX6_takeNumber_44 : decode cX6_takeNumber 44 = .ok (.iadd, 1) := by decide +kernel
theorem dX6_takeNumber_45 : decode cX6_takeNumber 45 = .ok (.bipush 48, 2) := by decide +kernel
theorem dX6_takeNumber_47 : decode cX6_takeNumber 47 = .ok (.isub, 1) := by decide +kernel
theorem dX6_takeNumber_48 : decode cX6_takeNumber 48 = .ok (.bipush 100, 2) := by decide +kernel
theorem dX6_takeNumber_50 : decode cX6_takeNumber 50 = .ok (.invokestatic 127, 3) := by decide +kernel
theorem dX6_takeNumber_53 : decode cX6_takeNumber 53 = .ok (.putfield 59, 3) := by decide +kernel
theorem dX6_takeNumber_56 : decode cX6_takeNumber 56 = .ok (.aload_n 0, 1) := by decide +kernel
theorem dX6_takeNumber_57 : decode cX6_takeNumber 57 = .ok (.dup, 1) := by decide +kernel
theorem dX6_takeNumber_58 : decode cX6_takeNumber 58 = .ok (.getfield 35, 3) := by decide +kernel
theorem dX6_takeNumber_61 : decode cX6_takeNumber 61 = .ok (.iconst 1, 1) := by decide +kernel
theorem dX6_takeNumber_62 : decode cX6_takeNumber 62 = .ok (.iadd, 1) := by decide +kernel
theorem dX6_takeNumber_63 : decode cX6_takeNumber 63 = .ok (.putfield 35, 3) := by decide +kernel
theorem dX6_takeNumber_66 : decode cX6_takeNumber 66 = .ok (.goto (-61), 3) := by decide +kernel
theorem dX6_takeNumber_69 : decode cX6_takeNumber 69 = .ok (.aload_n 0, 1) := by decide +kernel
theorem dX6_takeNumber_70 : decode cX6_takeNumber 70 = .ok (.getfield 11, 3) := by decide +kernel
theorem dX6_takeNumber_73 : decode cX6_takeNumber 73 = .ok (.aload_n 0, 1) := by decide +kernel
theorem dX6_takeNumber_74 : decode cX6_takeNumber 74 = .ok (.getfield 48, 3) := by decide +kernel
theorem dX6_takeNumber_77 : decode cX6_takeNumber 77 = .ok (.caload, 1) := by decide +kernel
theorem dX6_takeNumber_78 : decode cX6_takeNumber 78 = .ok (.bipush 48, 2) := by decide +kernel
theorem dX6_takeNumber_80 : decode cX6_takeNumber 80 = .ok (.if_icmp .ne 20, 3) := by decide +kernel
theorem dX6_takeNumber_83 : decode cX6_takeNumber 83 = .ok (.aload_n 0, 1) := by decide +kernel
theorem dX6_takeNumber_84 : decode cX6_takeNumber 84 = .ok (.getfield 35, 3) := by decide +kernel
theorem dX6_takeNumber_87 : decode cX6_takeNumber 87 = .ok (.aload_n 0, 1) := by decide +kernel
theorem dX6_takeNumber_88 : decode cX6_takeNumber 88 = .ok (.getfield 48, 3) := by decide +kernel
theorem dX6_takeNumber_91 : decode cX6_takeNumber 91 = .ok (.isub, 1) := by decide +kernel
theorem dX6_takeNumber_92 : decode cX6_takeNumber 92 = .ok (.iconst 1, 1) := by decide +kernel
theorem dX6_takeNumber_93 : decode cX6_takeNumber 93 = .ok (.if_icmp .le 7, 3) := by decide +kernel
theorem dX6_takeNumber_96 : decode cX6_takeNumber 96 = .ok (.iconst 1, 1) := by decide +kernel
theorem dX6_takeNumber_97 : decode cX6_takeNumber 97 = .ok (.goto 4, 3) := by decide +kernel
theorem dX6_takeNumber_100 : decode cX6_takeNumber 100 = .ok (.iconst 0, 1) := by decide +kernel
theorem dX6_takeNumber_101 : decode cX6_takeNumber 101 = .ok (.istore_n 1, 1) := by decide +kernel
theorem dX6_takeNumber_102 : decode cX6_takeNumber 102 = .ok (.aload_n 0, 1) := by decide +kernel
theorem dX6_takeNumber_103 : decode cX6_takeNumber 103 = .ok (.iload_n 1, 1) := by decide +kernel
theorem dX6_takeNumber_104 : decode cX6_takeNumber 104 = .ok (.ifCond .ne 12, 3) := by decide +kernel
theorem dX6_takeNumber_107 : decode cX6_takeNumber 107 = .ok (.aload_n 0, 1) := by decide +kernel
theorem dX6_takeNumber_108 : decode cX6_takeNumber 108 = .ok (.getfield 59, 3) := by decide +kernel
theorem dX6_takeNumber_111 : decode cX6_takeNumber 111 = .ok (.bipush 99, 2) := by decide +kernel
theorem dX6_takeNumber_113 : decode cX6_takeNumber 113 = .ok (.if_icmp .le 7, 3) := by decide +kernel
theorem dX6_takeNumber_116 : decode cX6_takeNumber 116 = .ok (.iconst 4, 1) := by decide +kernel
theorem dX6_takeNumber_117 : decode cX6_takeNumber 117 = .ok (.goto 4, 3) := by decide +kernel
theorem dX6_takeNumber_120 : decode cX6_takeNumber 120 = .ok (.iconst 2, 1) := by decide +kernel
theorem dX6_takeNumber_121 : decode cX6_takeNumber 121 = .ok (.putfield 41, 3) := by decide +kernel
theorem dX6_takeNumber_124 : decode cX6_takeNumber 124 = .ok (.return_, 1) := by decide +kernel
theorem dX6_isLetter_0 : decode cX6_isLetter 0 = .ok (.aload_n 0, 1) := by decide +kernel
theorem dX6_isLetter_1 : decode cX6_isLetter 1 = .ok (.getfield 11, 3) := by decide +kernel
theorem dX6_isLetter_4 : decode cX6_isLetter 4 = .ok (.iload_n 1, 1) := by decide +kernel
theorem dX6_isLetter_5 : decode cX6_isLetter 5 = .ok (.caload, 1) := by decide +kernel
theorem dX6_isLetter_6 : decode cX6_isLetter 6 = .ok (.bipush 97, 2) := by decide +kernel
theorem dX6_isLetter_8 : decode cX6_isLetter 8 = .ok (.if_icmp .lt 18, 3) := by decide +kernel
theorem dX6_isLetter_11 : decode cX6_isLetter 11 = .ok (.aload_n 0, 1) := by decide +kernel
theorem dX6_isLetter_12 : decode cX6_isLetter 12 = .ok (.getfield 11, 3) := by decide +kernel
theorem dX6_isLetter_15 : decode cX6_isLetter 15 = .ok (.iload_n 1, 1) := by decide +kernel
theorem dX6_isLetter_16 : decode cX6_isLetter 16 = .ok (.caload, 1) := by decide +kernel
theorem dX6_isLetter_17 : decode cX6_isLetter 17 = .ok (.bipush 122, 2) := by decide +kernel
theorem dX6_isLetter_19 : decode cX6_isLetter 19 = .ok (.if_icmp .gt 7, 3) := by decide +kernel
theorem dX6_isLetter_22 : decode cX6_isLetter 22 = .ok (.iconst 1, 1) := by decide +kernel
theorem dX6_isLetter_23 : decode cX6_isLetter 23 = .ok (.goto 4, 3) := by decide +kernel
theorem dX6_isLetter_26 : decode cX6_isLetter 26 = .ok (.iconst 0, 1) := by decide +kernel
theorem dX6_isLetter_27 : decode cX6_isLetter 27 = .ok (.ireturn, 1) := by decide +kernel
theorem dX6_isDigit_0 : decode cX6_isDigit 0 = .ok (.aload_n 0, 1) := by decide +kernel
theorem dX6_isDigit_1 : decode cX6_isDigit 1 = .ok (.getfield 11, 3) := by decide +kernel
theorem dX6_isDigit_4 : decode cX6_isDigit 4 = .ok (.iload_n 1, 1) := by decide +kernel
theorem dX6_isDigit_5 : decode cX6_isDigit 5 = .ok (.caload, 1) := by decide +kernel
theorem dX6_isDigit_6 : decode cX6_isDigit 6 = .ok (.bipush 48, 2) := by decide +kernel
theorem dX6_isDigit_8 : decode cX6_isDigit 8 = .ok (.if_icmp .lt 18, 3) := by decide +kernel
theorem dX6_isDigit_11 : decode cX6_isDigit 11 = .ok (.aload_n 0, 1) := by decide +kernel
theorem dX6_isDigit_12 : decode cX6_isDigit 12 = .ok (.getfield 11, 3) := by decide +kernel
theorem dX6_isDigit_15 : decode cX6_isDigit 15 = .ok (.iload_n 1, 1) := by decide +kernel
theorem dX6_isDigit_16 : decode cX6_isDigit 16 = .ok (.caload, 1) := by decide +kernel
theorem dX6_isDigit_17 : decode cX6_isDigit 17 = .ok (.bipush 57, 2) := by decide +kernel
theorem dX6_isDigit_19 : decode cX6_isDigit 19 = .ok (.if_icmp .gt 7, 3) := by decide +kernel
theorem dX6_isDigit_22 : decode cX6_isDigit 22 = .ok (.iconst 1, 1) := by decide +kernel
theorem dX6_isDigit_23 : decode cX6_isDigit 23 = .ok (.goto 4, 3) := by decide +kernel
theorem dX6_isDigit_26 : decode cX6_isDigit 26 = .ok (.iconst 0, 1) := by decide +kernel
theorem dX6_isDigit_27 : decode cX6_isDigit 27 = .ok (.ireturn, 1) := by decide +kernel
set_option maxRecDepth 20000 in
theorem ggX7_init_X4_init : GoodIn wsX7_init wsX4_init := goodIn_r _ [13, 14, 2, 3, 4, 15, 21] (by decide +kernel) (by decide +kernel)
set_option maxRecDepth 20000 in
theorem gX7_init_X4_init_n23 : GoodIn wsX7_init (wsX4_init) := ggX7_init_X4_init
theorem dX7_init_0 : decode cX7_init 0 = .ok (.aload_n 0, 1) := by decide +kernel
theorem dX7_init_1 : decode cX7_init 1 = .ok (.invokespecial 3, 3) := by decide +kernel
theorem dX7_init_4 : decode cX7_init 4 = .ok (.aload_n 0, 1) := by decide +kernel
theorem dX7_init_5 : decode cX7_init 5 = .ok (.bipush 6, 2) := by decide +kernel
theorem dX7_init_7 : decode cX7_init 7 = .ok (.newarray .int, 2) := by decide +kernel
theorem dX7_init_9 : decode cX7_init 9 = .ok (.putfield 11, 3) := by decide +kernel
theorem dX7_init_12 : decode cX7_init 12 = .ok (.aload_n 0, 1) := by decide +kernel
theorem dX7_init_13 : decode cX7_init 13 = .ok (.bipush 6, 2) := by decide +kernel
theorem dX7_init_15 : decode cX7_init 15 = .ok (.newarray .int, 2) := by decide +kernel
theorem dX7_init_17 : decode cX7_init 17 = .ok (.putfield 15, 3) := by decide +kernel
theorem dX7_init_20 : decode cX7_init 20 = .ok (.aload_n 0, 1) := by decide +kernel
theorem dX7_init_21 : decode cX7_init 21 = .ok (.bipush 7, 2) := by decide +kernel
theorem dX7_init_23 : decode cX7_init 23 = .ok (.newarray .int, 2) := by decide +kernel
theorem dX7_init_25 : decode cX7_init 25 = .ok (.putfield 18, 3) := by decide +kernel
theorem dX7_init_28 : decode cX7_init 28 = .ok (.aload_n 0, 1) := by decide +kernel
theorem dX7_init_29 : decode cX7_init 29 = .ok (.new 21, 3) := by decide +kernel
theorem dX7_init_32 : decode cX7_init 32 = .ok (.dup, 1) := by decide +kernel
theorem dX7_init_33 : decode cX7_init 33 = .ok (.invokespecial 23, 3) := by decide +kernel
theorem dX7_init_36 : decode cX7_init 36 = .ok (.putfield 24, 3) := by decide +kernel
theorem dX7_init_39 : decode cX7_init 39 = .ok (.return_, 1) := by decide +kernel
theorem dX7_size_0 : decode cX7_size 0 = .ok (.aload_n 0, 1) := by decide +kernel
theorem dX7_size_1 : decode cX7_size 1 = .ok (.getfield 28, 3) := by decide +kernel
theorem dX7_size_4 : decode cX7_size 4 = .ok (.ireturn, 1) := by decide +kernel
theorem dX7_add_0 : decode cX7_add 0 = .ok (.aload_n 0, 1) := by decide +kernel
theorem dX7_add_1 : decode cX7_add 1 = .ok (.getfield 28, 3) := by decide +kernel
theorem dX7_add_4 : decode cX7_add 4 = .ok (.bipush 6, 2) := by decide +kernel
theorem dX7_add_6 : decode cX7_add 6 = .ok (.if_icmp .lt 5, 3) := by decide +kernel
theorem dX7_add_9 : decode cX7_add 9 = .ok (.iconst 0, 1) := by decide +kernel
theorem dX7_add_10 : decode cX7_add 10 = .ok (.ireturn, 1) := by decide +kernel
theorem dX7_add_11 : decode cX7_add 11 = .ok (.aload_n 0, 1) := by decide +kernel
theorem dX7_add_12 : decode cX7_add 12 = .ok (.getfield 11, 3) := by decide +kernel
theorem dX7_add_15 : decode cX7_add 15 = .ok (.aload_n 0, 1) := by decide +kernel
theorem dX7_add_16 : decode cX7_add 16 = .ok (.getfield 28, 3) := by decide +kernel
theorem dX7_add_19 : decode cX7_add 19 = .ok (.iload_n 1, 1) := by decide +kernel
theorem dX7_add_20 : decode cX7_add 20 = .ok (.iastore, 1) := by decide +kernel
theorem dX7_add_21 : decode cX7_add 21 = .ok (.aload_n 0, 1) := by decide +kernel
theorem dX7_add_22 : decode cX7_add 22 = .ok (.getfield 15, 3) := by decide +kernel
theorem dX7_add_25 : decode cX7_add 25 = .ok (.aload_n 0, 1) := by decide +kernel
theorem dX7_add_26 : decode cX7_add 26 = .ok (.getfield 28, 3) := by decide +kernel
theorem dX7_add_29 : decode cX7_add 29 = .ok (.iload_n 2, 1) := by decide +kernel
theorem dX7_add_30 : decode cX7_add 30 = .ok (.iastore, 1) := by decide +kernel
theorem dX7_add_31 : decode cX7_add 31 = .ok (.aload_n 0, 1) := by decide +kernel
theorem dX7_add_32 : decode cX7_add 32 = .ok (.dup, 1) := by decide +kernel
theorem dX7_add_33 : decode cX7_add 33 = .ok (.getfield 28, 3) := by decide +kernel
theorem dX7_add_36 : decode cX7_add 36 = .ok (.iconst 1, 1) := by decide +kernel
theorem dX7_add_37 : decode cX7_add 37 = .ok (.iadd, 1) := by decide +kernel
theorem dX7_add_38 : decode cX7_add 38 = .ok (.putfield 28, 3) := by decide +kernel
theorem dX7_add_41 : decode cX7_add 41 = .ok (.iconst 1, 1) := by decide +kernel
theorem dX7_add_42 : decode cX7_add 42 = .ok (.ireturn, 1) := by decide +kernel
theorem dX7_empty_0 : decode cX7_empty 0 = .ok (.aload_n 0, 1) := by decide +kernel
theorem dX7_empty_1 : decode cX7_empty 1 = .ok (.getfield 28, 3) := by decide +kernel
theorem dX7_empty_4 : decode cX7_empty 4 = .ok (.istore_n 1, 1) := by decide +kernel
theorem dX7_empty_5 : decode cX7_empty 5 = .ok (.aload_n 0, 1) := by decide +kernel
theorem dX7_empty_6 : decode cX7_empty 6 = .ok (.iconst 0, 1) := by decide +kernel
theorem dX7_empty_7 : decode cX7_empty 7 = .ok (.putfield 28, 3) := by decide +kernel
theorem dX7_empty_10 : decode cX7_empty 10 = .ok (.iload_n 1, 1) := by decide +kernel
theorem dX7_empty_11 : decode cX7_empty 11 = .ok (.ireturn, 1) := by decide +kernel
set_option maxRecDepth 20000 in
theorem ggX7_allIsSo_X0_height : GoodIn wsX7_allIsSo wsX0_height := goodIn_r _ [8, 9, 10, 11, 12, 13, 14, 15, 16, 7, 17, 18, 19, 20, 21, 22, 23, 24, 25, 26, 27, 28, 29, 30, 31, 32, 33, 34, 35, 36, 42, 43, 44, 45, 46, 47, 48, 49, 50, 51, 52, 53] (by decide +kernel) (by decide +kernel)
set_option maxRecDepth 20000 in
theorem gX7_allIsSo_X0_height : GoodIn wsX7_allIsSo (wsV RX7 32 RX0 yX0_height wsX0_height) := goodIn_app (goodIn_of _ (by decide +kernel)) ggX7_allIsSo_X0_height
theorem dX7_allIsSo_0 : decode cX7_allIsSo 0 = .ok (.iconst 0, 1) := by decide +kernel
theorem dX7_allIsSo_1 : decode cX7_allIsSo 1 = .ok (.istore_n 3, 1) := by decide +kernel
theorem dX7_allIsSo_2 : decode cX7_allIsSo 2 = .ok (.iload_n 3, 1) := by decide +kernel
theorem dX7_allIsSo_3 : decode cX7_allIsSo 3 = .ok (.aload_n 0, 1) := by decide +kernel
theorem dX7_allIsSo_4 : decode cX7_allIsSo 4 = .ok (.getfield 28, 3) := by decide +kernel
theorem dX7_allIsSo_7 : decode cX7_allIsSo 7 = .ok (.if_icmp .ge 31, 3) := by decide +kernel
theorem dX7_allIsSo_10 : decode cX7_allIsSo 10 = .ok (.aload_n 1, 1) := by decide +kernel
theorem dX7_allIsSo_11 : decode cX7_allIsSo 11 = .ok (.aload_n 2, 1) := by decide +kernel
theorem dX7_allIsSo_12 : decode cX7_allIsSo 12 = .ok (.aload_n 0, 1) := by decide +kernel
theorem dX7_allIsSo_13 : decode cX7_allIsSo 13 = .ok (.getfield 11, 3) := by decide +kernel
theorem dX7_allIsSo_16 : decode cX7_allIsSo 16 = .ok (.iload_n 3, 1) := by decide +kernel
theorem dX7_allIsSo_17 : decode cX7_allIsSo 17 = .ok (.iaload, 1) := by decide +kernel
theorem dX7_allIsSo_18 : decode cX7_allIsSo 18 = .ok (.invokevirtual 32, 3) := by decide +kernel
theorem dX7_allIsSo_21 : decode cX7_allIsSo 21 = .ok (.aload_n 0, 1) := by decide +kernel
theorem dX7_allIsSo_22 : decode cX7_allIsSo 22 = .ok (.getfield 15, 3) := by decide +kernel
theorem dX7_allIsSo_25 : decode cX7_allIsSo 25 = .ok (.iload_n 3, 1) := by decide +kernel
theorem dX7_allIsSo_26 : decode cX7_allIsSo 26 = .ok (.iaload, 1) := by decide +kernel
theorem dX7_allIsSo_27 : decode cX7_allIsSo 27 = .ok (.if_icmp .eq 5, 3) := by decide +kernel
theorem dX7_allIsSo_30 : decode cX7_allIsSo 30 = .ok (.iconst 0, 1) := by decide +kernel
theorem dX7_allIsSo_31 : decode cX7_allIsSo 31 = .ok (.ireturn, 1) := by decide +kernel
theorem dX7_allIsSo_32 : decode cX7_allIsSo 32 = .ok (.iinc 3 1, 3) := by decide +kernel
theorem dX7_allIsSo_35 : decode cX7_allIsSo 35 = .ok (.goto (-33), 3) := by decide +kernel
theorem dX7_allIsSo_38 : decode cX7_allIsSo 38 = .ok (.iconst 1, 1) := by decide +kernel
theorem dX7_allIsSo_39 : decode cX7_allIsSo 39 = .ok (.ireturn, 1) := by decide +kernel
set_option maxRecDepth 20000 in
theorem ggX7_tryGuess_X4_copyFrom : GoodIn wsX7_tryGuess wsX4_copyFrom := goodIn_r _ [6, 7, 8, 9, 10, 11, 25] (by decide +kernel) (by decide +kernel)
set_option maxRecDepth 20000 in
theorem gX7_tryGuess_X4_copyFrom : GoodIn wsX7_tryGuess (wsV RX7 38 RX4 yX4_copyFrom wsX4_copyFrom) := goodIn_app (goodIn_of _ (by decide +kernel)) ggX7_tryGuess_X4_copyFrom
set_option maxRecDepth 20000 in
theorem ggX7_tryGuess_X4_cut : GoodIn wsX7_tryGuess wsX4_cut := goodIn_r _ [15, 7, 25] (by decide +kernel) (by decide +kernel)
set_option maxRecDepth 20000 in
theorem gX7_tryGuess_X4_cut : GoodIn wsX7_tryGuess (wsV RX7 42 RX4 yX4_cut wsX4_cut) := goodIn_app (goodIn_of _ (by decide +kernel)) ggX7_tryGuess_X4_cut
set_option maxRecDepth 20000 in
theorem ggX7_tryGuess_X4_setCut : GoodIn wsX7_tryGuess wsX4_setCut := goodIn_r _ [19, 7, 25] (by decide +kernel) (by decide +kernel)
set_option maxRecDepth 20000 in
theorem gX7_tryGuess_X4_setCut : GoodIn wsX7_tryGuess (wsV RX7 46 RX4 yX4_setCut wsX4_setCut) := goodIn_app (goodIn_of _ (by decide +kernel)) ggX7_tryGuess_X4_setCut
theorem dX7_tryGuess_0 : decode cX7_tryGuess 0 = .ok (.aload_n 0, 1) := by decide +kernel
theorem dX7_tryGuess_1 : decode cX7_tryGuess 1 = .ok (.getfield 24, 3) := by decide +kernel
theorem dX7_tryGuess_4 : decode cX7_tryGuess 4 = .ok (.aload_n 1, 1) := by decide +kernel
theorem dX7_tryGuess_5 : decode cX7_tryGuess 5 = .ok (.invokevirtual 38, 3) := by decide +kernel
theorem dX7_tryGuess_8 : decode cX7_tryGuess 8 = .ok (.iload_n 2, 1) := by decide +kernel
theorem dX7_tryGuess_9 : decode cX7_tryGuess 9 = .ok (.bipush 6, 2) := by decide +kernel
theorem dX7_tryGuess_11 : decode cX7_tryGuess 11 = .ok (.if_icmp .eq 18, 3) := by decide +kernel
theorem dX7_tryGuess_14 : decode cX7_tryGuess 14 = .ok (.aload_n 0, 1) := by decide +kernel
theorem dX7_tryGuess_15 : decode cX7_tryGuess 15 = .ok (.getfield 24, 3) := by decide +kernel
theorem dX7_tryGuess_18 : decode cX7_tryGuess 18 = .ok (.aload_n 1, 1) := by decide +kernel
theorem dX7_tryGuess_19 : decode cX7_tryGuess 19 = .ok (.invokevirtual 42, 3) := by decide +kernel
theorem dX7_tryGuess_22 : decode cX7_tryGuess 22 = .ok (.iconst 1, 1) := by decide +kernel
theorem dX7_tryGuess_23 : decode cX7_tryGuess 23 = .ok (.iload_n 2, 1) := by decide +kernel
theorem dX7_tryGuess_24 : decode cX7_tryGuess 24 = .ok (.ishl, 1) := by decide +kernel
theorem dX7_tryGuess_25 : decode cX7_tryGuess 25 = .ok (.ior, 1) := by decide +kernel
theorem dX7_tryGuess_26 : decode cX7_tryGuess 26 = .ok (.invokevirtual 46, 3) := by decide +kernel
theorem dX7_tryGuess_29 : decode cX7_tryGuess 29 = .ok (.return_, 1) := by decide +kernel
set_option maxRecDepth 20000 in
theorem ggX7_suspected_X4_isCut : GoodIn wsX7_suspected wsX4_isCut := goodIn_r _ [7, 8, 81] (by decide +kernel) (by decide +kernel)
set_option maxRecDepth 20000 in
theorem gX7_suspected_X4_isCut : GoodIn wsX7_suspected (wsV RX7 53 RX4 yX4_isCut wsX4_isCut) := goodIn_app (goodIn_of _ (by decide +kernel)) ggX7_suspected_X4_isCut
set_option maxRecDepth 20000 in
theorem ggX7_suspected_X7_tryGuess : GoodIn wsX7_suspected wsX7_tryGuess := goodIn_r _ [13, 2, 14, 15, 16, 6, 17, 8, 18, 19, 20, 21, 22, 23, 24, 25, 26, 27, 28, 29, 76, 77, 78, 79, 80, 81] (by decide +kernel) (by decide +kernel)
set_option maxRecDepth 20000 in
theorem gX7_suspected_X7_tryGuess : GoodIn wsX7_suspected (wsV RX7 57 RX7 yX7_tryGuess wsX7_tryGuess) := goodIn_app (goodIn_of _ (by decide +kernel)) ggX7_suspected_X7_tryGuess
set_option maxRecDepth 20000 in
theorem ggX7_suspected_X7_allIsSo : GoodIn wsX7_suspected wsX7_allIsSo := goodIn_r _ [33, 34, 35, 36, 37, 38, 39, 40, 41, 42, 43, 44, 45, 46, 47, 48, 49, 50, 51, 4, 5, 6, 7, 8, 52, 53, 54, 55, 56, 57, 58, 59, 60, 61, 62, 63, 64, 76, 77, 78, 79, 80, 65, 66, 67, 68, 69, 70, 71, 72, 73, 74, 75, 81] (by decide +kernel) (by decide +kernel)
set_option maxRecDepth 20000 in
theorem gX7_suspected_X7_allIsSo : GoodIn wsX7_suspected (wsV RX7 61 RX7 yX7_allIsSo wsX7_allIsSo) := goodIn_app (goodIn_of _ (by decide +kernel)) ggX7_suspected_X7_allIsSo
theorem dX7_suspected_0 : decode cX7_suspected 0 = .ok (.iconst 0, 1) := by decide +kernel
theorem dX7_suspected_1 : decode cX7_suspected 1 = .ok (.istore_n 3, 1) := by decide +kernel
theorem dX7_suspected_2 : decode cX7_suspected 2 = .ok (.iconst 0, 1) := by decide +kernel
theorem dX7_suspected_3 : decode cX7_suspected 3 = .ok (.istore 4, 2) := by decide +kernel
theorem dX7_suspected_5 : decode cX7_suspected 5 = .ok (.iload 4, 2) := by decide +kernel
theorem dX7_suspected_7 : decode cX7_suspected 7 = .ok (.bipush 7, 2) := by decide +kernel
theorem dX7_suspected_9 : decode cX7_suspected 9 = .ok (.if_icmp .ge 72, 3) := by decide +kernel
theorem dX7_suspected_12 : decode cX7_suspected 12 = .ok (.iload 4, 2) := by decide +kernel
theorem dX7_suspected_14 : decode cX7_suspected 14 = .ok (.bipush 6, 2) := by decide +kernel
theorem dX7_suspected_16 : decode cX7_suspected 16 = .ok (.if_icmp .eq 21, 3) := by decide +kernel
theorem dX7_suspected_19 : decode cX7_suspected 19 = .ok (.iload 4, 2) := by decide +kernel
theorem dX7_suspected_21 : decode cX7_suspected 21 = .ok (.aload_n 1, 1) := by decide +kernel
theorem dX7_suspected_22 : decode cX7_suspected 22 = .ok (.getfield 50, 3) := by decide +kernel
theorem dX7_suspected_25 : decode cX7_suspected 25 = .ok (.if_icmp .ge 16, 3) := by decide +kernel
theorem dX7_suspected_28 : decode cX7_suspected 28 = .ok (.aload_n 2, 1) := by decide +kernel
theorem dX7_suspected_29 : decode cX7_suspected 29 = .ok (.iload 4, 2) := by decide +kernel
theorem dX7_suspected_31 : decode cX7_suspected 31 = .ok (.invokevirtual 53, 3) := by decide +kernel
theorem dX7_suspected_34 : decode cX7_suspected 34 = .ok (.ifCond .ne 7, 3) := by decide +kernel
theorem dX7_suspected_37 : decode cX7_suspected 37 = .ok (.iconst 1, 1) := by decide +kernel
theorem dX7_suspected_38 : decode cX7_suspected 38 = .ok (.goto 4, 3) := by decide +kernel
theorem dX7_suspected_41 : decode cX7_suspected 41 = .ok (.iconst 0, 1) := by decide +kernel
theorem dX7_suspected_42 : decode cX7_suspected 42 = .ok (.istore 5, 2) := by decide +kernel
theorem dX7_suspected_44 : decode cX7_suspected 44 = .ok (.aload_n 0, 1) := by decide +kernel
theorem dX7_suspected_45 : decode cX7_suspected 45 = .ok (.aload_n 2, 1) := by decide +kernel
theorem dX7_suspected_46 : decode cX7_suspected 46 = .ok (.iload 4, 2) := by decide +kernel
theorem dX7_suspected_48 : decode cX7_suspected 48 = .ok (.invokevirtual 57, 3) := by decide +kernel
theorem dX7_suspected_51 : decode cX7_suspected 51 = .ok (.iload 5, 2) := by decide +kernel
theorem dX7_suspected_53 : decode cX7_suspected 53 = .ok (.ifCond .eq 22, 3) := by decide +kernel
theorem dX7_suspected_56 : decode cX7_suspected 56 = .ok (.aload_n 0, 1) := by decide +kernel
theorem dX7_suspected_57 : decode cX7_suspected 57 = .ok (.aload_n 1, 1) := by decide +kernel
theorem dX7_suspected_58 : decode cX7_suspected 58 = .ok (.aload_n 0, 1) := by decide +kernel
theorem dX7_suspected_59 : decode cX7_suspected 59 = .ok (.getfield 24, 3) := by decide +kernel
theorem dX7_suspected_62 : decode cX7_suspected 62 = .ok (.invokevirtual 61, 3) := by decide +kernel
theorem dX7_suspected_65 : decode cX7_suspected 65 = .ok (.ifCond .eq 10, 3) := by decide +kernel
theorem dX7_suspected_68 : decode cX7_suspected 68 = .ok (.iload_n 3, 1) := by decide +kernel
theorem dX7_suspected_69 : decode cX7_suspected 69 = .ok (.iconst 1, 1) := by decide +kernel
theorem dX7_suspected_70 : decode cX7_suspected 70 = .ok (.iload 4, 2) := by decide +kernel
theorem dX7_suspected_72 : decode cX7_suspected 72 = .ok (.ishl, 1) := by decide +kernel
theorem dX7_suspected_73 : decode cX7_suspected 73 = .ok (.ior, 1) := by decide +kernel
theorem dX7_suspected_74 : decode cX7_suspected 74 = .ok (.istore_n 3, 1) := by decide +kernel
theorem dX7_suspected_75 : decode cX7_suspected 75 = .ok (.iinc 4 1, 3) := by decide +kernel
theorem dX7_suspected_78 : decode cX7_suspected 78 = .ok (.goto (-73), 3) := by decide +kernel
theorem dX7_suspected_81 : decode cX7_suspected 81 = .ok (.iload_n 3, 1) := by decide +kernel
theorem dX7_suspected_82 : decode cX7_suspected 82 = .ok (.ireturn, 1) := by decide +kernel
set_option maxRecDepth 20000 in
theorem ggX7_fittingHoles_X4_copyFrom : GoodIn wsX7_fittingHoles wsX4_copyFrom := goodIn_r _ [6, 7, 8, 9, 10, 11, 60] (by decide +kernel) (by decide +kernel)
set_option maxRecDepth 20000 in
theorem gX7_fittingHoles_X4_copyFrom : GoodIn wsX7_fittingHoles (wsV RX7 38 RX4 yX4_copyFrom wsX4_copyFrom) := goodIn_app (goodIn_of _ (by decide +kernel)) ggX7_fittingHoles_X4_copyFrom
set_option maxRecDepth 20000 in
theorem ggX7_fittingHoles_X4_setHole : GoodIn wsX7_fittingHoles wsX4_setHole := goodIn_r _ [15, 7, 60] (by decide +kernel) (by decide +kernel)
set_option maxRecDepth 20000 in
theorem gX7_fittingHoles_X4_setHole : GoodIn wsX7_fittingHoles (wsV RX7 65 RX4 yX4_setHole wsX4_setHole) := goodIn_app (goodIn_of _ (by decide +kernel)) ggX7_fittingHoles_X4_setHole
set_option maxRecDepth 20000 in
theorem ggX7_fittingHoles_X7_allIsSo : GoodIn wsX7_fittingHoles wsX7_allIsSo := goodIn_r _ [20, 21, 22, 23, 24, 25, 26, 27, 28, 29, 30, 31, 32, 33, 34, 35, 36, 37, 38, 39, 40, 5, 41, 7, 42, 43, 44, 45, 46, 47, 48, 49, 50, 51, 52, 53, 54, 55, 56, 57, 58, 59, 61, 62, 63, 64, 65, 66, 67, 68, 69, 70, 71, 60] (by decide +kernel) (by decide +kernel)
set_option maxRecDepth 20000 in
theorem gX7_fittingHoles_X7_allIsSo : GoodIn wsX7_fittingHoles (wsV RX7 61 RX7 yX7_allIsSo wsX7_allIsSo) := goodIn_app (goodIn_of _ (by decide +kernel)) ggX7_fittingHoles_X7_allIsSo
theorem dX7_fittingHoles_0 : decode cX7_fittingHoles 0 = .ok (.iconst 0, 1) := by decide +kernel
theorem dX7_fittingHoles_1 : decode cX7_fittingHoles 1 = .ok (.istore 4, 2) := by decide +kernel
theorem dX7_fittingHoles_3 : decode cX7_fittingHoles 3 = .ok (.aload_n 0, 1) := by decide +kernel
theorem dX7_fittingHoles_4 : decode cX7_fittingHoles 4 = .ok (.getfield 24, 3) := by decide +kernel
theorem dX7_fittingHoles_7 : decode cX7_fittingHoles 7 = .ok (.aload_n 2, 1) := by decide +kernel
theorem dX7_fittingHoles_8 : decode cX7_fittingHoles 8 = .ok (.invokevirtual 38, 3) := by decide +kernel
theorem dX7_fittingHoles_11 : decode cX7_fittingHoles 11 = .ok (.iconst 0, 1) := by decide +kernel
theorem dX7_fittingHoles_12 : decode cX7_fittingHoles 12 = .ok (.istore 5, 2) := by decide +kernel
theorem dX7_fittingHoles_14 : decode cX7_fittingHoles 14 = .ok (.iload 5, 2) := by decide +kernel
theorem dX7_fittingHoles_16 : decode cX7_fittingHoles 16 = .ok (.bipush 7, 2) := by decide +kernel
theorem dX7_fittingHoles_18 : decode cX7_fittingHoles 18 = .ok (.if_icmp .ge 40, 3) := by decide +kernel
theorem dX7_fittingHoles_21 : decode cX7_fittingHoles 21 = .ok (.aload_n 0, 1) := by decide +kernel
theorem dX7_fittingHoles_22 : decode cX7_fittingHoles 22 = .ok (.getfield 24, 3) := by decide +kernel
theorem dX7_fittingHoles_25 : decode cX7_fittingHoles 25 = .ok (.iload_n 3, 1) := by decide +kernel
theorem dX7_fittingHoles_26 : decode cX7_fittingHoles 26 = .ok (.iload 5, 2) := by decide +kernel
theorem dX7_fittingHoles_28 : decode cX7_fittingHoles 28 = .ok (.invokevirtual 65, 3) := by decide +kernel
theorem dX7_fittingHoles_31 : decode cX7_fittingHoles 31 = .ok (.aload_n 0, 1) := by decide +kernel
theorem dX7_fittingHoles_32 : decode cX7_fittingHoles 32 = .ok (.aload_n 1, 1) := by decide +kernel
theorem dX7_fittingHoles_33 : decode cX7_fittingHoles 33 = .ok (.aload_n 0, 1) := by decide +kernel
theorem dX7_fittingHoles_34 : decode cX7_fittingHoles 34 = .ok (.getfield 24, 3) := by decide +kernel
theorem dX7_fittingHoles_37 : decode cX7_fittingHoles 37 = .ok (.invokevirtual 61, 3) := by decide +kernel
theorem dX7_fittingHoles_40 : decode cX7_fittingHoles 40 = .ok (.ifCond .eq 12, 3) := by decide +kernel
theorem dX7_fittingHoles_43 : decode cX7_fittingHoles 43 = .ok (.iload 4, 2) := by decide +kernel
theorem dX7_fittingHoles_45 : decode cX7_fittingHoles 45 = .ok (.iconst 1, 1) := by decide +kernel
theorem dX7_fittingHoles_46 : decode cX7_fittingHoles 46 = .ok (.iload 5, 2) := by decide +kernel
theorem dX7_fittingHoles_48 : decode cX7_fittingHoles 48 = .ok (.ishl, 1) := by decide +kernel
theorem dX7_fittingHoles_49 : decode cX7_fittingHoles 49 = .ok (.ior, 1) := by decide +kernel
theorem dX7_fittingHoles_50 : decode cX7_fittingHoles 50 = .ok (.istore 4, 2) := by decide +kernel
theorem dX7_fittingHoles_52 : decode cX7_fittingHoles 52 = .ok (.iinc 5 1, 3) := by decide +kernel
theorem dX7_fittingHoles_55 : decode cX7_fittingHoles 55 = .ok (.goto (-41), 3) := by decide +kernel
theorem dX7_fittingHoles_58 : decode cX7_fittingHoles 58 = .ok (.iload 4, 2) := by decide +kernel
theorem dX7_fittingHoles_60 : decode cX7_fittingHoles 60 = .ok (.ireturn, 1) := by decide +kernel
set_option maxRecDepth 20000 in
theorem ggX7_limbToLookAt_X7_suspected : GoodIn wsX7_limbToLookAt wsX7_suspected := goodIn_r _ [6, 7, 8, 9, 10, 11, 12, 13, 14, 15, 16, 17, 5, 18, 19, 20, 21, 22, 23, 24, 25, 26, 27, 28, 29, 30, 31, 32, 33, 34, 35, 36, 37, 38, 39, 40, 41, 42, 43, 44, 45, 46, 47, 48, 49, 50, 51, 52, 53, 54, 55, 56, 57, 58, 59, 60, 61, 62, 63, 64, 65, 66, 67, 68, 69, 80, 81, 82, 83, 84, 85, 86, 87, 88, 89, 90, 91, 92, 93, 94, 95, 96] (by decide +kernel) (by decide +kernel)
set_option maxRecDepth 20000 in
theorem gX7_limbToLookAt_X7_suspected : GoodIn wsX7_limbToLookAt (wsV RX7 69 RX7 yX7_suspected wsX7_suspected) := goodIn_app (goodIn_of _ (by decide +kernel)) ggX7_limbToLookAt_X7_suspected
set_option maxRecDepth 20000 in
theorem ggX7_limbToLookAt_X7_mostLeft : GoodIn wsX7_limbToLookAt wsX7_mostLeft := goodIn_r _ [73, 74, 8, 75, 49, 50, 51, 15, 16, 17, 5, 18, 19, 20, 21, 12, 22, 14, 23, 24, 25, 26, 27, 28, 29, 30, 31, 32, 33, 34, 42, 43, 44, 45, 46, 47, 48, 52, 53, 54, 55, 56, 10, 11, 13, 57, 58, 59, 60, 61, 62, 63, 64, 65, 66, 67, 68, 69, 76, 77, 78, 79, 91, 92, 93, 94, 95, 96, 80, 81, 82, 83, 84, 85, 86, 87, 88, 89, 90] (by decide +kernel) (by decide +kernel)
set_option maxRecDepth 20000 in
theorem gX7_limbToLookAt_X7_mostLeft : GoodIn wsX7_limbToLookAt (wsV RX7 75 RX7 yX7_mostLeft wsX7_mostLeft) := goodIn_app (goodIn_of _ (by decide +kernel)) ggX7_limbToLookAt_X7_mostLeft
theorem dX7_limbToLookAt_0 : decode cX7_limbToLookAt 0 = .ok (.aload_n 0, 1) := by decide +kernel
theorem dX7_limbToLookAt_1 : decode cX7_limbToLookAt 1 = .ok (.aload_n 1, 1) := by decide +kernel
theorem dX7_limbToLookAt_2 : decode cX7_limbToLookAt 2 = .ok (.aload_n 2, 1) := by decide +kernel
theorem dX7_limbToLookAt_3 : decode cX7_limbToLookAt 3 = .ok (.invokevirtual 69, 3) := by decide +kernel
theorem dX7_limbToLookAt_6 : decode cX7_limbToLookAt 6 = .ok (.istore_n 3, 1) := by decide +kernel
theorem dX7_limbToLookAt_7 : decode cX7_limbToLookAt 7 = .ok (.iload_n 3, 1) := by decide +kernel
