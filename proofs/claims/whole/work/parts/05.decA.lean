/-! each instruction, decoded -/
theorem dX0_init_0 : decode cX0_init 0 = .ok (.aload_n 0, 1) := by decide +kernel
theorem dX0_init_1 : decode cX0_init 1 = .ok (.invokespecial 3, 3) := by decide +kernel
theorem dX0_init_4 : decode cX0_init 4 = .ok (.aload_n 0, 1) := by decide +kernel
theorem dX0_init_5 : decode cX0_init 5 = .ok (.bipush 7, 2) := by decide +kernel
theorem dX0_init_7 : decode cX0_init 7 = .ok (.newarray .int, 2) := by decide +kernel
theorem dX0_init_9 : decode cX0_init 9 = .ok (.putfield 9, 3) := by decide +kernel
theorem dX0_init_12 : decode cX0_init 12 = .ok (.aload_n 0, 1) := by decide +kernel
theorem dX0_init_13 : decode cX0_init 13 = .ok (.bipush 7, 2) := by decide +kernel
theorem dX0_init_15 : decode cX0_init 15 = .ok (.newarray .int, 2) := by decide +kernel
theorem dX0_init_17 : decode cX0_init 17 = .ok (.putfield 15, 3) := by decide +kernel
theorem dX0_init_20 : decode cX0_init 20 = .ok (.aload_n 0, 1) := by decide +kernel
theorem dX0_init_21 : decode cX0_init 21 = .ok (.iconst 0, 1) := by decide +kernel
theorem dX0_init_22 : decode cX0_init 22 = .ok (.putfield 18, 3) := by decide +kernel
theorem dX0_init_25 : decode cX0_init 25 = .ok (.return_, 1) := by decide +kernel
theorem dX0_search_0 : decode cX0_search 0 = .ok (.iconst 1, 1) := by decide +kernel
theorem dX0_search_1 : decode cX0_search 1 = .ok (.istore_n 3, 1) := by decide +kernel
theorem dX0_search_2 : decode cX0_search 2 = .ok (.iload_n 3, 1) := by decide +kernel
theorem dX0_search_3 : decode cX0_search 3 = .ok (.aload_n 1, 1) := by decide +kernel
theorem dX0_search_4 : decode cX0_search 4 = .ok (.getfield 22, 3) := by decide +kernel
theorem dX0_search_7 : decode cX0_search 7 = .ok (.if_icmp .gt 27, 3) := by decide +kernel
theorem dX0_search_10 : decode cX0_search 10 = .ok (.aload_n 0, 1) := by decide +kernel
theorem dX0_search_11 : decode cX0_search 11 = .ok (.iload_n 3, 1) := by decide +kernel
theorem dX0_search_12 : decode cX0_search 12 = .ok (.putfield 18, 3) := by decide +kernel
theorem dX0_search_15 : decode cX0_search 15 = .ok (.aload_n 0, 1) := by decide +kernel
theorem dX0_search_16 : decode cX0_search 16 = .ok (.aload_n 1, 1) := by decide +kernel
theorem dX0_search_17 : decode cX0_search 17 = .ok (.aload_n 2, 1) := by decide +kernel
theorem dX0_search_18 : decode cX0_search 18 = .ok (.iconst 0, 1) := by decide +kernel
theorem dX0_search_19 : decode cX0_search 19 = .ok (.iconst 0, 1) := by decide +kernel
theorem dX0_search_20 : decode cX0_search 20 = .ok (.invokevirtual 27, 3) := by decide +kernel
theorem dX0_search_23 : decode cX0_search 23 = .ok (.ifCond .eq 5, 3) := by decide +kernel
theorem dX0_search_26 : decode cX0_search 26 = .ok (.iload_n 3, 1) := by decide +kernel
theorem dX0_search_27 : decode cX0_search 27 = .ok (.ireturn, 1) := by decide +kernel
theorem dX0_search_28 : decode cX0_search 28 = .ok (.iinc 3 1, 3) := by decide +kernel
theorem dX0_search_31 : decode cX0_search 31 = .ok (.goto (-29), 3) := by decide +kernel
theorem dX0_search_34 : decode cX0_search 34 = .ok (.bipush (-4), 2) := by decide +kernel
theorem dX0_search_36 : decode cX0_search 36 = .ok (.ireturn, 1) := by decide +kernel
theorem dX0_findsBolts_0 : decode cX0_findsBolts 0 = .ok (.iload_n 3, 1) := by decide +kernel
theorem dX0_findsBolts_1 : decode cX0_findsBolts 1 = .ok (.aload_n 1, 1) := by decide +kernel
theorem dX0_findsBolts_2 : decode cX0_findsBolts 2 = .ok (.getfield 22, 3) := by decide +kernel
theorem dX0_findsBolts_5 : decode cX0_findsBolts 5 = .ok (.if_icmp .lt 5, 3) := by decide +kernel
theorem dX0_findsBolts_8 : decode cX0_findsBolts 8 = .ok (.iconst 1, 1) := by decide +kernel
theorem dX0_findsBolts_9 : decode cX0_findsBolts 9 = .ok (.ireturn, 1) := by decide +kernel
theorem dX0_findsBolts_10 : decode cX0_findsBolts 10 = .ok (.iconst 0, 1) := by decide +kernel
theorem dX0_findsBolts_11 : decode cX0_findsBolts 11 = .ok (.istore 5, 2) := by decide +kernel
theorem dX0_findsBolts_13 : decode cX0_findsBolts 13 = .ok (.iload 5, 2) := by decide +kernel
theorem dX0_findsBolts_15 : decode cX0_findsBolts 15 = .ok (.iload 4, 2) := by decide +kernel
theorem dX0_findsBolts_17 : decode cX0_findsBolts 17 = .ok (.if_icmp .gt 40, 3) := by decide +kernel
theorem dX0_findsBolts_20 : decode cX0_findsBolts 20 = .ok (.iload 5, 2) := by decide +kernel
theorem dX0_findsBolts_22 : decode cX0_findsBolts 22 = .ok (.aload_n 0, 1) := by decide +kernel
theorem dX0_findsBolts_23 : decode cX0_findsBolts 23 = .ok (.getfield 18, 3) := by decide +kernel
theorem dX0_findsBolts_26 : decode cX0_findsBolts 26 = .ok (.if_icmp .ge 31, 3) := by decide +kernel
theorem dX0_findsBolts_29 : decode cX0_findsBolts 29 = .ok (.aload_n 0, 1) := by decide +kernel
theorem dX0_findsBolts_30 : decode cX0_findsBolts 30 = .ok (.getfield 9, 3) := by decide +kernel
theorem dX0_findsBolts_33 : decode cX0_findsBolts 33 = .ok (.iload_n 3, 1) := by decide +kernel
theorem dX0_findsBolts_34 : decode cX0_findsBolts 34 = .ok (.iload 5, 2) := by decide +kernel
theorem dX0_findsBolts_36 : decode cX0_findsBolts 36 = .ok (.iastore, 1) := by decide +kernel
theorem dX0_findsBolts_37 : decode cX0_findsBolts 37 = .ok (.aload_n 0, 1) := by decide +kernel
theorem dX0_findsBolts_38 : decode cX0_findsBolts 38 = .ok (.aload_n 1, 1) := by decide +kernel
theorem dX0_findsBolts_39 : decode cX0_findsBolts 39 = .ok (.aload_n 2, 1) := by decide +kernel
theorem dX0_findsBolts_40 : decode cX0_findsBolts 40 = .ok (.iload_n 3, 1) := by decide +kernel
theorem dX0_findsBolts_41 : decode cX0_findsBolts 41 = .ok (.iload 4, 2) := by decide +kernel
theorem dX0_findsBolts_43 : decode cX0_findsBolts 43 = .ok (.invokevirtual 31, 3) := by decide +kernel
theorem dX0_findsBolts_46 : decode cX0_findsBolts 46 = .ok (.ifCond .eq 5, 3) := by decide +kernel
theorem dX0_findsBolts_49 : decode cX0_findsBolts 49 = .ok (.iconst 1, 1) := by decide +kernel
theorem dX0_findsBolts_50 : decode cX0_findsBolts 50 = .ok (.ireturn, 1) := by decide +kernel
theorem dX0_findsBolts_51 : decode cX0_findsBolts 51 = .ok (.iinc 5 1, 3) := by decide +kernel
theorem dX0_findsBolts_54 : decode cX0_findsBolts 54 = .ok (.goto (-41), 3) := by decide +kernel
theorem dX0_findsBolts_57 : decode cX0_findsBolts 57 = .ok (.iconst 0, 1) := by decide +kernel
theorem dX0_findsBolts_58 : decode cX0_findsBolts 58 = .ok (.ireturn, 1) := by decide +kernel
theorem dX0_findsRest_0 : decode cX0_findsRest 0 = .ok (.aload_n 0, 1) := by decide +kernel
theorem dX0_findsRest_1 : decode cX0_findsRest 1 = .ok (.getfield 9, 3) := by decide +kernel
theorem dX0_findsRest_4 : decode cX0_findsRest 4 = .ok (.iload_n 3, 1) := by decide +kernel
theorem dX0_findsRest_5 : decode cX0_findsRest 5 = .ok (.iaload, 1) := by decide +kernel
theorem dX0_findsRest_6 : decode cX0_findsRest 6 = .ok (.istore 5, 2) := by decide +kernel
theorem dX0_findsRest_8 : decode cX0_findsRest 8 = .ok (.aload_n 0, 1) := by decide +kernel
theorem dX0_findsRest_9 : decode cX0_findsRest 9 = .ok (.getfield 15, 3) := by decide +kernel
theorem dX0_findsRest_12 : decode cX0_findsRest 12 = .ok (.iload 5, 2) := by decide +kernel
theorem dX0_findsRest_14 : decode cX0_findsRest 14 = .ok (.iaload, 1) := by decide +kernel
theorem dX0_findsRest_15 : decode cX0_findsRest 15 = .ok (.aload_n 2, 1) := by decide +kernel
theorem dX0_findsRest_16 : decode cX0_findsRest 16 = .ok (.iload_n 3, 1) := by decide +kernel
theorem dX0_findsRest_17 : decode cX0_findsRest 17 = .ok (.iaload, 1) := by decide +kernel
theorem dX0_findsRest_18 : decode cX0_findsRest 18 = .ok (.iadd, 1) := by decide +kernel
theorem dX0_findsRest_19 : decode cX0_findsRest 19 = .ok (.aload_n 1, 1) := by decide +kernel
theorem dX0_findsRest_20 : decode cX0_findsRest 20 = .ok (.getfield 34, 3) := by decide +kernel
theorem dX0_findsRest_23 : decode cX0_findsRest 23 = .ok (.if_icmp .le 5, 3) := by decide +kernel
theorem dX0_findsRest_26 : decode cX0_findsRest 26 = .ok (.iconst 0, 1) := by decide +kernel
theorem dX0_findsRest_27 : decode cX0_findsRest 27 = .ok (.ireturn, 1) := by decide +kernel
theorem dX0_findsRest_28 : decode cX0_findsRest 28 = .ok (.aload_n 0, 1) := by decide +kernel
theorem dX0_findsRest_29 : decode cX0_findsRest 29 = .ok (.getfield 15, 3) := by decide +kernel
theorem dX0_findsRest_32 : decode cX0_findsRest 32 = .ok (.iload 5, 2) := by decide +kernel
theorem dX0_findsRest_34 : decode cX0_findsRest 34 = .ok (.dup2, 1) := by decide +kernel
theorem dX0_findsRest_35 : decode cX0_findsRest 35 = .ok (.iaload, 1) := by decide +kernel
theorem dX0_findsRest_36 : decode cX0_findsRest 36 = .ok (.aload_n 2, 1) := by decide +kernel
theorem dX0_findsRest_37 : decode cX0_findsRest 37 = .ok (.iload_n 3, 1) := by decide +kernel
theorem dX0_findsRest_38 : decode cX0_findsRest 38 = .ok (.iaload, 1) := by decide +kernel
theorem dX0_findsRest_39 : decode cX0_findsRest 39 = .ok (.iadd, 1) := by decide +kernel
theorem dX0_findsRest_40 : decode cX0_findsRest 40 = .ok (.iastore, 1) := by decide +kernel
theorem dX0_findsRest_41 : decode cX0_findsRest 41 = .ok (.aload_n 0, 1) := by decide +kernel
theorem dX0_findsRest_42 : decode cX0_findsRest 42 = .ok (.aload_n 1, 1) := by decide +kernel
theorem dX0_findsRest_43 : decode cX0_findsRest 43 = .ok (.aload_n 2, 1) := by decide +kernel
theorem dX0_findsRest_44 : decode cX0_findsRest 44 = .ok (.iload_n 3, 1) := by decide +kernel
theorem dX0_findsRest_45 : decode cX0_findsRest 45 = .ok (.iconst 1, 1) := by decide +kernel
theorem dX0_findsRest_46 : decode cX0_findsRest 46 = .ok (.iadd, 1) := by decide +kernel
theorem dX0_findsRest_47 : decode cX0_findsRest 47 = .ok (.iload 4, 2) := by decide +kernel
theorem dX0_findsRest_49 : decode cX0_findsRest 49 = .ok (.iload 5, 2) := by decide +kernel
theorem dX0_findsRest_51 : decode cX0_findsRest 51 = .ok (.iconst 1, 1) := by decide +kernel
theorem dX0_findsRest_52 : decode cX0_findsRest 52 = .ok (.iadd, 1) := by decide +kernel
theorem dX0_findsRest_53 : decode cX0_findsRest 53 = .ok (.invokestatic 37, 3) := by decide +kernel
theorem dX0_findsRest_56 : decode cX0_findsRest 56 = .ok (.invokevirtual 27, 3) := by decide +kernel
theorem dX0_findsRest_59 : decode cX0_findsRest 59 = .ok (.istore 6, 2) := by decide +kernel
theorem dX0_findsRest_61 : decode cX0_findsRest 61 = .ok (.aload_n 0, 1) := by decide +kernel
theorem dX0_findsRest_62 : decode cX0_findsRest 62 = .ok (.getfield 15, 3) := by decide +kernel
theorem dX0_findsRest_65 : decode cX0_findsRest 65 = .ok (.iload 5, 2) := by decide +kernel
theorem dX0_findsRest_67 : decode cX0_findsRest 67 = .ok (.dup2, 1) := by decide +kernel
theorem dX0_findsRest_68 : decode cX0_findsRest 68 = .ok (.iaload, 1) := by decide +kernel
theorem dX0_findsRest_69 : decode cX0_findsRest 69 = .ok (.aload_n 2, 1) := by decide +kernel
theorem dX0_findsRest_70 : decode cX0_findsRest 70 = .ok (.iload_n 3, 1) := by decide +kernel
theorem dX0_findsRest_71 : decode cX0_findsRest 71 = .ok (.iaload, 1) := by decide +kernel
theorem dX0_findsRest_72 : decode cX0_findsRest 72 = .ok (.isub, 1) := by decide +kernel
theorem dX0_findsRest_73 : decode cX0_findsRest 73 = .ok (.iastore, 1) := by decide +kernel
theorem dX0_findsRest_74 : decode cX0_findsRest 74 = .ok (.iload 6, 2) := by decide +kernel
theorem dX0_findsRest_76 : decode cX0_findsRest 76 = .ok (.ireturn, 1) := by decide +kernel
theorem dX1_init_0 : decode cX1_init 0 = .ok (.aload_n 0, 1) := by decide +kernel
theorem dX1_init_1 : decode cX1_init 1 = .ok (.invokespecial 3, 3) := by decide +kernel
theorem dX1_init_4 : decode cX1_init 4 = .ok (.aload_n 0, 1) := by decide +kernel
theorem dX1_init_5 : decode cX1_init 5 = .ok (.bipush 7, 2) := by decide +kernel
theorem dX1_init_7 : decode cX1_init 7 = .ok (.newarray .int, 2) := by decide +kernel
theorem dX1_init_9 : decode cX1_init 9 = .ok (.putfield 9, 3) := by decide +kernel
theorem dX1_init_12 : decode cX1_init 12 = .ok (.aload_n 0, 1) := by decide +kernel
theorem dX1_init_13 : decode cX1_init 13 = .ok (.bipush 7, 2) := by decide +kernel
theorem dX1_init_15 : decode cX1_init 15 = .ok (.newarray .int, 2) := by decide +kernel
theorem dX1_init_17 : decode cX1_init 17 = .ok (.putfield 15, 3) := by decide +kernel
theorem dX1_init_20 : decode cX1_init 20 = .ok (.aload_n 0, 1) := by decide +kernel
theorem dX1_init_21 : decode cX1_init 21 = .ok (.invokevirtual 18, 3) := by decide +kernel
theorem dX1_init_24 : decode cX1_init 24 = .ok (.return_, 1) := by decide +kernel
theorem dX1_startAnew_0 : decode cX1_startAnew 0 = .ok (.iconst 0, 1) := by decide +kernel
theorem dX1_startAnew_1 : decode cX1_startAnew 1 = .ok (.istore_n 1, 1) := by decide +kernel
theorem dX1_startAnew_2 : decode cX1_startAnew 2 = .ok (.iload_n 1, 1) := by decide +kernel
theorem dX1_startAnew_3 : decode cX1_startAnew 3 = .ok (.bipush 7, 2) := by decide +kernel
theorem dX1_startAnew_5 : decode cX1_startAnew 5 = .ok (.if_icmp .ge 23, 3) := by decide +kernel
theorem dX1_startAnew_8 : decode cX1_startAnew 8 = .ok (.aload_n 0, 1) := by decide +kernel
theorem dX1_startAnew_9 : decode cX1_startAnew 9 = .ok (.getfield 9, 3) := by decide +kernel
theorem dX1_startAnew_12 : decode cX1_startAnew 12 = .ok (.iload_n 1, 1) := by decide +kernel
theorem dX1_startAnew_13 : decode cX1_startAnew 13 = .ok (.iload_n 1, 1) := by decide +kernel
theorem dX1_startAnew_14 : decode cX1_startAnew 14 = .ok (.iastore, 1) := by decide +kernel
theorem dX1_startAnew_15 : decode cX1_startAnew 15 = .ok (.aload_n 0, 1) := by decide +kernel
theorem dX1_startAnew_16 : decode cX1_startAnew 16 = .ok (.getfield 15, 3) := by decide +kernel
theorem dX1_startAnew_19 : decode cX1_startAnew 19 = .ok (.iload_n 1, 1) := by decide +kernel
theorem dX1_startAnew_20 : decode cX1_startAnew 20 = .ok (.iconst 0, 1) := by decide +kernel
theorem dX1_startAnew_21 : decode cX1_startAnew 21 = .ok (.iastore, 1) := by decide +kernel
theorem dX1_startAnew_22 : decode cX1_startAnew 22 = .ok (.iinc 1 1, 3) := by decide +kernel
theorem dX1_startAnew_25 : decode cX1_startAnew 25 = .ok (.goto (-23), 3) := by decide +kernel
theorem dX1_startAnew_28 : decode cX1_startAnew 28 = .ok (.return_, 1) := by decide +kernel
theorem dX1_placeOf_0 : decode cX1_placeOf 0 = .ok (.iconst 0, 1) := by decide +kernel
theorem dX1_placeOf_1 : decode cX1_placeOf 1 = .ok (.istore_n 2, 1) := by decide +kernel
theorem dX1_placeOf_2 : decode cX1_placeOf 2 = .ok (.iload_n 2, 1) := by decide +kernel
theorem dX1_placeOf_3 : decode cX1_placeOf 3 = .ok (.bipush 7, 2) := by decide +kernel
theorem dX1_placeOf_5 : decode cX1_placeOf 5 = .ok (.if_icmp .ge 21, 3) := by decide +kernel
theorem dX1_placeOf_8 : decode cX1_placeOf 8 = .ok (.aload_n 0, 1) := by decide +kernel
theorem dX1_placeOf_9 : decode cX1_placeOf 9 = .ok (.getfield 9, 3) := by decide +kernel
theorem dX1_placeOf_12 : decode cX1_placeOf 12 = .ok (.iload_n 2, 1) := by decide +kernel
theorem dX1_placeOf_13 : decode cX1_placeOf 13 = .ok (.iaload, 1) := by decide +kernel
theorem dX1_placeOf_14 : decode cX1_placeOf 14 = .ok (.iload_n 1, 1) := by decide +kernel
theorem dX1_placeOf_15 : decode cX1_placeOf 15 = .ok (.if_icmp .ne 5, 3) := by decide +kernel
theorem dX1_placeOf_18 : decode cX1_placeOf 18 = .ok (.iload_n 2, 1) := by decide +kernel
theorem dX1_placeOf_19 : decode cX1_placeOf 19 = .ok (.ireturn, 1) := by decide +kernel
theorem dX1_placeOf_20 : decode cX1_placeOf 20 = .ok (.iinc 2 1, 3) := by decide +kernel
theorem dX1_placeOf_23 : decode cX1_placeOf 23 = .ok (.goto (-21), 3) := by decide +kernel
theorem dX1_placeOf_26 : decode cX1_placeOf 26 = .ok (.iconst 0, 1) := by decide +kernel
theorem dX1_placeOf_27 : decode cX1_placeOf 27 = .ok (.ireturn, 1) := by decide +kernel
theorem dX1_swapPlaces_0 : decode cX1_swapPlaces 0 = .ok (.aload_n 0, 1) := by decide +kernel
theorem dX1_swapPlaces_1 : decode cX1_swapPlaces 1 = .ok (.getfield 9, 3) := by decide +kernel
theorem dX1_swapPlaces_4 : decode cX1_swapPlaces 4 = .ok (.iload_n 1, 1) := by decide +kernel
theorem dX1_swapPlaces_5 : decode cX1_swapPlaces 5 = .ok (.iaload, 1) := by decide +kernel
theorem dX1_swapPlaces_6 : decode cX1_swapPlaces 6 = .ok (.istore_n 3, 1) := by decide +kernel
theorem dX1_swapPlaces_7 : decode cX1_swapPlaces 7 = .ok (.aload_n 0, 1) := by decide +kernel
theorem dX1_swapPlaces_8 : decode cX1_swapPlaces 8 = .ok (.getfield 9, 3) := by decide +kernel
theorem dX1_swapPlaces_11 : decode cX1_swapPlaces 11 = .ok (.iload_n 1, 1) := by decide +kernel
theorem dX1_swapPlaces_12 : decode cX1_swapPlaces 12 = .ok (.aload_n 0, 1) := by decide +kernel
theorem dX1_swapPlaces_13 : decode cX1_swapPlaces 13 = .ok (.getfield 9, 3) := by decide +kernel
theorem dX1_swapPlaces_16 : decode cX1_swapPlaces 16 = .ok (.iload_n 2, 1) := by decide +kernel
theorem dX1_swapPlaces_17 : decode cX1_swapPlaces 17 = .ok (.iaload, 1) := by decide +kernel
theorem dX1_swapPlaces_18 : decode cX1_swapPlaces 18 = .ok (.iastore, 1) := by decide +kernel
theorem dX1_swapPlaces_19 : decode cX1_swapPlaces 19 = .ok (.aload_n 0, 1) := by decide +kernel
theorem dX1_swapPlaces_20 : decode cX1_swapPlaces 20 = .ok (.getfield 9, 3) := by decide +kernel
theorem dX1_swapPlaces_23 : decode cX1_swapPlaces 23 = .ok (.iload_n 2, 1) := by decide +kernel
theorem dX1_swapPlaces_24 : decode cX1_swapPlaces 24 = .ok (.iload_n 3, 1) := by decide +kernel
theorem dX1_swapPlaces_25 : decode cX1_swapPlaces 25 = .ok (.iastore, 1) := by decide +kernel
theorem dX1_swapPlaces_26 : decode cX1_swapPlaces 26 = .ok (.iconst 0, 1) := by decide +kernel
theorem dX1_swapPlaces_27 : decode cX1_swapPlaces 27 = .ok (.istore 4, 2) := by decide +kernel
theorem dX1_swapPlaces_29 : decode cX1_swapPlaces 29 = .ok (.iload 4, 2) := by decide +kernel
theorem dX1_swapPlaces_31 : decode cX1_swapPlaces 31 = .ok (.bipush 7, 2) := by decide +kernel
theorem dX1_swapPlaces_33 : decode cX1_swapPlaces 33 = .ok (.if_icmp .ge 17, 3) := by decide +kernel
theorem dX1_swapPlaces_36 : decode cX1_swapPlaces 36 = .ok (.aload_n 0, 1) := by decide +kernel
theorem dX1_swapPlaces_37 : decode cX1_swapPlaces 37 = .ok (.getfield 15, 3) := by decide +kernel
theorem dX1_swapPlaces_40 : decode cX1_swapPlaces 40 = .ok (.iload 4, 2) := by decide +kernel
theorem dX1_swapPlaces_42 : decode cX1_swapPlaces 42 = .ok (.iconst 0, 1) := by decide +kernel
theorem dX1_swapPlaces_43 : decode cX1_swapPlaces 43 = .ok (.iastore, 1) := by decide +kernel
theorem dX1_swapPlaces_44 : decode cX1_swapPlaces 44 = .ok (.iinc 4 1, 3) := by decide +kernel
theorem dX1_swapPlaces_47 : decode cX1_swapPlaces 47 = .ok (.goto (-18), 3) := by decide +kernel
theorem dX1_swapPlaces_50 : decode cX1_swapPlaces 50 = .ok (.return_, 1) := by decide +kernel
theorem dX2_init_0 : decode cX2_init 0 = .ok (.aload_n 0, 1) := by decide +kernel
theorem dX2_init_1 : decode cX2_init 1 = .ok (.invokespecial 3, 3) := by decide +kernel
theorem dX2_init_4 : decode cX2_init 4 = .ok (.aload_n 0, 1) := by decide +kernel
theorem dX2_init_5 : decode cX2_init 5 = .ok (.iconst 0, 1) := by decide +kernel
theorem dX2_init_6 : decode cX2_init 6 = .ok (.putfield 9, 3) := by decide +kernel
theorem dX2_init_9 : decode cX2_init 9 = .ok (.aload_n 0, 1) := by decide +kernel
theorem dX2_init_10 : decode cX2_init 10 = .ok (.iconst 0, 1) := by decide +kernel
theorem dX2_init_11 : decode cX2_init 11 = .ok (.putfield 15, 3) := by decide +kernel
theorem dX2_init_14 : decode cX2_init 14 = .ok (.aload_n 0, 1) := by decide +kernel
theorem dX2_init_15 : decode cX2_init 15 = .ok (.iconst 1, 1) := by decide +kernel
theorem dX2_init_16 : decode cX2_init 16 = .ok (.iload_n 1, 1) := by decide +kernel
theorem dX2_init_17 : decode cX2_init 17 = .ok (.invokestatic 18, 3) := by decide +kernel
theorem dX2_init_20 : decode cX2_init 20 = .ok (.putfield 24, 3) := by decide +kernel
theorem dX2_init_23 : decode cX2_init 23 = .ok (.aload_n 0, 1) := by decide +kernel
theorem dX2_init_24 : decode cX2_init 24 = .ok (.aload_n 0, 1) := by decide +kernel
theorem dX2_init_25 : decode cX2_init 25 = .ok (.getfield 24, 3) := by decide +kernel
theorem dX2_init_28 : decode cX2_init 28 = .ok (.bipush 7, 2) := by decide +kernel
theorem dX2_init_30 : decode cX2_init 30 = .ok (.imul, 1) := by decide +kernel
theorem dX2_init_31 : decode cX2_init 31 = .ok (.newarray .int, 2) := by decide +kernel
theorem dX2_init_33 : decode cX2_init 33 = .ok (.putfield 27, 3) := by decide +kernel
theorem dX2_init_36 : decode cX2_init 36 = .ok (.aload_n 0, 1) := by decide +kernel
theorem dX2_init_37 : decode cX2_init 37 = .ok (.aload_n 0, 1) := by decide +kernel
theorem dX2_init_38 : decode cX2_init 38 = .ok (.getfield 24, 3) := by decide +kernel
theorem dX2_init_41 : decode cX2_init 41 = .ok (.bipush 7, 2) := by decide +kernel
theorem dX2_init_43 : decode cX2_init 43 = .ok (.imul, 1) := by decide +kernel
theorem dX2_init_44 : decode cX2_init 44 = .ok (.newarray .int, 2) := by decide +kernel
theorem dX2_init_46 : decode cX2_init 46 = .ok (.putfield 31, 3) := by decide +kernel
theorem dX2_init_49 : decode cX2_init 49 = .ok (.return_, 1) := by decide +kernel
theorem dX2_clear_0 : decode cX2_clear 0 = .ok (.aload_n 0, 1) := by decide +kernel
theorem dX2_clear_1 : decode cX2_clear 1 = .ok (.iconst 0, 1) := by decide +kernel
theorem dX2_clear_2 : decode cX2_clear 2 = .ok (.putfield 9, 3) := by decide +kernel
theorem dX2_clear_5 : decode cX2_clear 5 = .ok (.return_, 1) := by decide +kernel
theorem dX2_push_0 : decode cX2_push 0 = .ok (.iconst 0, 1) := by decide +kernel
theorem dX2_push_1 : decode cX2_push 1 = .ok (.istore_n 2, 1) := by decide +kernel
theorem dX2_push_2 : decode cX2_push 2 = .ok (.iload_n 2, 1) := by decide +kernel
theorem dX2_push_3 : decode cX2_push 3 = .ok (.bipush 7, 2) := by decide +kernel
theorem dX2_push_5 : decode cX2_push 5 = .ok (.if_icmp .ge 49, 3) := by decide +kernel
theorem dX2_push_8 : decode cX2_push 8 = .ok (.aload_n 0, 1) := by decide +kernel
theorem dX2_push_9 : decode cX2_push 9 = .ok (.getfield 27, 3) := by decide +kernel
theorem dX2_push_12 : decode cX2_push 12 = .ok (.aload_n 0, 1) := by decide +kernel
theorem dX2_push_13 : decode cX2_push 13 = .ok (.getfield 15, 3) := by decide +kernel
theorem dX2_push_16 : decode cX2_push 16 = .ok (.bipush 7, 2) := by decide +kernel
theorem dX2_push_18 : decode cX2_push 18 = .ok (.imul, 1) := by decide +kernel
theorem dX2_push_19 : decode cX2_push 19 = .ok (.iload_n 2, 1) := by decide +kernel
theorem dX2_push_20 : decode cX2_push 20 = .ok (.iadd, 1) := by decide +kernel
theorem dX2_push_21 : decode cX2_push 21 = .ok (.aload_n 1, 1) := by decide +kernel
theorem dX2_push_22 : decode cX2_push 22 = .ok (.getfield 34, 3) := by decide +kernel
theorem dX2_push_25 : decode cX2_push 25 = .ok (.iload_n 2, 1) := by decide +kernel
theorem dX2_push_26 : decode cX2_push 26 = .ok (.iaload, 1) := by decide +kernel
theorem dX2_push_27 : decode cX2_push 27 = .ok (.iastore, 1) := by decide +kernel
theorem dX2_push_28 : decode cX2_push 28 = .ok (.aload_n 0, 1) := by decide +kernel
theorem dX2_push_29 : decode cX2_push 29 = .ok (.getfield 31, 3) := by decide +kernel
theorem dX2_push_32 : decode cX2_push 32 = .ok (.aload_n 0, 1) := by decide +kernel
theorem dX2_push_33 : decode cX2_push 33 = .ok (.getfield 15, 3) := by decide +kernel
theorem dX2_push_36 : decode cX2_push 36 = .ok (.bipush 7, 2) := by decide +kernel
theorem dX2_push_38 : decode cX2_push 38 = .ok (.imul, 1) := by decide +kernel
theorem dX2_push_39 : decode cX2_push 39 = .ok (.iload_n 2, 1) := by decide +kernel
theorem dX2_push_40 : decode cX2_push 40 = .ok (.iadd, 1) := by decide +kernel
theorem dX2_push_41 : decode cX2_push 41 = .ok (.aload_n 1, 1) := by decide +kernel
theorem dX2_push_42 : decode cX2_push 42 = .ok (.getfield 37, 3) := by decide +kernel
theorem dX2_push_45 : decode cX2_push 45 = .ok (.iload_n 2, 1) := by decide +kernel
theorem dX2_push_46 : decode cX2_push 46 = .ok (.iaload, 1) := by decide +kernel
theorem dX2_push_47 : decode cX2_push 47 = .ok (.iastore, 1) := by decide +kernel
theorem dX2_push_48 : decode cX2_push 48 = .ok (.iinc 2 1, 3) := by decide +kernel
theorem dX2_push_51 : decode cX2_push 51 = .ok (.goto (-49), 3) := by decide +kernel
theorem dX2_push_54 : decode cX2_push 54 = .ok (.aload_n 0, 1) := by decide +kernel
theorem dX2_push_55 : decode cX2_push 55 = .ok (.aload_n 0, 1) := by decide +kernel
theorem dX2_push_56 : decode cX2_push 56 = .ok (.getfield 15, 3) := by decide +kernel
theorem dX2_push_59 : decode cX2_push 59 = .ok (.iconst 1, 1) := by decide +kernel
theorem dX2_push_60 : decode cX2_push 60 = .ok (.iadd, 1) := by decide +kernel
theorem dX2_push_61 : decode cX2_push 61 = .ok (.aload_n 0, 1) := by decide +kernel
theorem dX2_push_62 : decode cX2_push 62 = .ok (.getfield 24, 3) := by decide +kernel
theorem dX2_push_65 : decode cX2_push 65 = .ok (.if_icmp .ge 12, 3) := by decide +kernel
theorem dX2_push_68 : decode cX2_push 68 = .ok (.aload_n 0, 1) := by decide +kernel
theorem dX2_push_69 : decode cX2_push 69 = .ok (.getfield 15, 3) := by decide +kernel
theorem dX2_push_72 : decode cX2_push 72 = .ok (.iconst 1, 1) := by decide +kernel
theorem dX2_push_73 : decode cX2_push 73 = .ok (.iadd, 1) := by decide +kernel
theorem dX2_push_74 : decode cX2_push 74 = .ok (.goto 4, 3) := by decide +kernel
theorem dX2_push_77 : decode cX2_push 77 = .ok (.iconst 0, 1) := by decide +kernel
theorem dX2_push_78 : decode cX2_push 78 = .ok (.putfield 15, 3) := by decide +kernel
theorem dX2_push_81 : decode cX2_push 81 = .ok (.aload_n 0, 1) := by decide +kernel
theorem dX2_push_82 : decode cX2_push 82 = .ok (.aload_n 0, 1) := by decide +kernel
theorem dX2_push_83 : decode cX2_push 83 = .ok (.getfield 9, 3) := by decide +kernel
theorem dX2_push_86 : decode cX2_push 86 = .ok (.iconst 1, 1) := by decide +kernel
theorem dX2_push_87 : decode cX2_push 87 = .ok (.iadd, 1) := by decide +kernel
theorem dX2_push_88 : decode cX2_push 88 = .ok (.aload_n 0, 1) := by decide +kernel
theorem dX2_push_89 : decode cX2_push 89 = .ok (.getfield 24, 3) := by decide +kernel
theorem dX2_push_92 : decode cX2_push 92 = .ok (.invokestatic 38, 3) := by decide +kernel
theorem dX2_push_95 : decode cX2_push 95 = .ok (.putfield 9, 3) := by decide +kernel
theorem dX2_push_98 : decode cX2_push 98 = .ok (.return_, 1) := by decide +kernel
theorem dX2_popInto_0 : decode cX2_popInto 0 = .ok (.aload_n 0, 1) := by decide +kernel
theorem dX2_popInto_1 : decode cX2_popInto 1 = .ok (.getfield 9, 3) := by decide +kernel
theorem dX2_popInto_4 : decode cX2_popInto 4 = .ok (.ifCond .ne 4, 3) := by decide +kernel
theorem dX2_popInto_7 : decode cX2_popInto 7 = .ok (.return_, 1) := by decide +kernel
theorem dX2_popInto_8 : decode cX2_popInto 8 = .ok (.aload_n 0, 1) := by decide +kernel
theorem dX2_popInto_9 : decode cX2_popInto 9 = .ok (.dup, 1) := by decide +kernel
theorem dX2_popInto_10 : decode cX2_popInto 10 = .ok (.getfield 9, 3) := by decide +kernel
theorem dX2_popInto_13 : decode cX2_popInto 13 = .ok (.iconst 1, 1) := by decide +kernel
theorem dX2_popInto_14 : decode cX2_popInto 14 = .ok (.isub, 1) := by decide +kernel
theorem dX2_popInto_15 : decode cX2_popInto 15 = .ok (.putfield 9, 3) := by decide +kernel
theorem dX2_popInto_18 : decode cX2_popInto 18 = .ok (.aload_n 0, 1) := by decide +kernel
theorem dX2_popInto_19 : decode cX2_popInto 19 = .ok (.aload_n 0, 1) := by decide +kernel
theorem dX2_popInto_20 : decode cX2_popInto 20 = .ok (.getfield 15, 3) := by decide +kernel
theorem dX2_popInto_23 : decode cX2_popInto 23 = .ok (.ifCond .le 12, 3) := by decide +kernel
theorem dX2_popInto_26 : decode cX2_popInto 26 = .ok (.aload_n 0, 1) := by decide +kernel
theorem dX2_popInto_27 : decode cX2_popInto 27 = .ok (.getfield 15, 3) := by decide +kernel
theorem dX2_popInto_30 : decode cX2_popInto 30 = .ok (.iconst 1, 1) := by decide +kernel
theorem dX2_popInto_31 : decode cX2_popInto 31 = .ok (.isub, 1) := by decide +kernel
theorem dX2_popInto_32 : decode cX2_popInto 32 = .ok (.goto 9, 3) := by decide +kernel
theorem dX2_popInto_35 : decode cX2_popInto 35 = .ok (.aload_n 0, 1) := by decide +kernel
theorem dX2_popInto_36 : decode cX2_popInto 36 = .ok (.getfield 24, 3) := by decide +kernel
theorem dX2_popInto_39 : decode cX2_popInto 39 = .ok (.iconst 1, 1) := by decide +kernel
theorem dX2_popInto_40 : decode cX2_popInto 40 = .ok (.isub, 1) := by decide +kernel
theorem dX2_popInto_41 : decode cX2_popInto 41 = .ok (.putfield 15, 3) := by decide +kernel
theorem dX2_popInto_44 : decode cX2_popInto 44 = .ok (.iconst 0, 1) := by decide +kernel
theorem dX2_popInto_45 : decode cX2_popInto 45 = .ok (.istore_n 2, 1) := by decide +kernel
theorem dX2_popInto_46 : decode cX2_popInto 46 = .ok (.iload_n 2, 1) := by decide +kernel
theorem dX2_popInto_47 : decode cX2_popInto 47 = .ok (.bipush 7, 2) := by decide +kernel
theorem dX2_popInto_49 : decode cX2_popInto 49 = .ok (.if_icmp .ge 49, 3) := by decide +kernel
theorem dX2_popInto_52 : decode cX2_popInto 52 = .ok (.aload_n 1, 1) := by decide +kernel
theorem dX2_popInto_53 : decode cX2_popInto 53 = .ok (.getfield 34, 3) := by decide +kernel
theorem dX2_popInto_56 : decode cX2_popInto 56 = .ok (.iload_n 2, 1) := by decide +kernel
theorem dX2_popInto_57 : decode cX2_popInto 57 = .ok (.aload_n 0, 1) := by decide +kernel
theorem dX2_popInto_58 : decode cX2_popInto 58 = .ok (.getfield 27, 3) := by decide +kernel
theorem dX2_popInto_61 : decode cX2_popInto 61 = .ok (.aload_n 0, 1) := by decide +kernel
theorem dX2_popInto_62 : decode cX2_popInto 62 = .ok (.getfield 15, 3) := by decide +kernel
theorem dX2_popInto_65 : decode cX2_popInto 65 = .ok (.bipush 7, 2) := by decide +kernel
theorem dX2_popInto_67 : decode cX2_popInto 67 = .ok (.imul, 1) := by decide +kernel
theorem dX2_popInto_68 : decode cX2_popInto 68 = .ok (.iload_n 2, 1) := by decide +kernel
theorem dX2_popInto_69 : decode cX2_popInto 69 = .ok (.iadd, 1) := by decide +kernel
theorem dX2_popInto_70 : decode cX2_popInto 70 = .ok (.iaload, 1) := by decide +kernel
theorem dX2_popInto_71 : decode cX2_popInto 71 = .ok (.iastore, 1) := by decide +kernel
theorem dX2_popInto_72 : decode cX2_popInto 72 = .ok (.aload_n 1, 1) := by decide +kernel
theorem dX2_popInto_73 : decode cX2_popInto 73 = .ok (.getfield 37, 3) := by decide +kernel
theorem dX2_popInto_76 : decode cX2_popInto 76 = .ok (.iload_n 2, 1) := by decide +kernel
theorem dX2_popInto_77 : decode cX2_popInto 77 = .ok (.aload_n 0, 1) := by decide +kernel
theorem dX2_popInto_78 : decode cX2_popInto 78 = .ok (.getfield 31, 3) := by decide +kernel
theorem dX2_popInto_81 : decode cX2_popInto 81 = .ok (.aload_n 0, 1) := by decide +kernel
theorem dX2_popInto_82 : decode cX2_popInto 82 = .ok (.getfield 15, 3) := by decide +kernel
theorem dX2_popInto_85 : decode cX2_popInto 85 = .ok (.bipush 7, 2) := by decide +kernel
theorem dX2_popInto_87 : decode cX2_popInto 87 = .ok (.imul, 1) := by decide +kernel
theorem dX2_popInto_88 : decode cX2_popInto 88 = .ok (.iload_n 2, 1) := by decide +kernel
theorem dX2_popInto_89 : decode cX2_popInto 89 = .ok (.iadd, 1) := by decide +kernel
theorem dX2_popInto_90 : decode cX2_popInto 90 = .ok (.iaload, 1) := by decide +kernel
theorem dX2_popInto_91 : decode cX2_popInto 91 = .ok (.iastore, 1) := by decide +kernel
theorem dX2_popInto_92 : decode cX2_popInto 92 = .ok (.iinc 2 1, 3) := by decide +kernel
theorem dX2_popInto_95 : decode cX2_popInto 95 = .ok (.goto (-49), 3) := by decide +kernel
theorem dX2_popInto_98 : decode cX2_popInto 98 = .ok (.return_, 1) := by decide +kernel
theorem dX3_init_0 : decode cX3_init 0 = .ok (.aload_n 0, 1) := by decide +kernel
theorem dX3_init_1 : decode cX3_init 1 = .ok (.invokespecial 3, 3) := by decide +kernel
theorem dX3_init_4 : decode cX3_init 4 = .ok (.aload_n 0, 1) := by decide +kernel
theorem dX3_init_5 : decode cX3_init 5 = .ok (.bipush 7, 2) := by decide +kernel
theorem dX3_init_7 : decode cX3_init 7 = .ok (.newarray .int, 2) := by decide +kernel
theorem dX3_init_9 : decode cX3_init 9 = .ok (.putfield 9, 3) := by decide +kernel
theorem dX3_init_12 : decode cX3_init 12 = .ok (.aload_n 0, 1) := by decide +kernel
theorem dX3_init_13 : decode cX3_init 13 = .ok (.iconst 0, 1) := by decide +kernel
theorem dX3_init_14 : decode cX3_init 14 = .ok (.putfield 15, 3) := by decide +kernel
theorem dX3_init_17 : decode cX3_init 17 = .ok (.aload_n 0, 1) := by decide +kernel
theorem dX3_init_18 : decode cX3_init 18 = .ok (.iconst 0, 1) := by decide +kernel
theorem dX3_init_19 : decode cX3_init 19 = .ok (.putfield 19, 3) := by decide +kernel
theorem dX3_init_22 : decode cX3_init 22 = .ok (.aload_n 0, 1) := by decide +kernel
theorem dX3_init_23 : decode cX3_init 23 = .ok (.bipush 7, 2) := by decide +kernel
theorem dX3_init_25 : decode cX3_init 25 = .ok (.newarray .int, 2) := by decide +kernel
theorem dX3_init_27 : decode cX3_init 27 = .ok (.putfield 23, 3) := by decide +kernel
theorem dX3_init_30 : decode cX3_init 30 = .ok (.aload_n 0, 1) := by decide +kernel
theorem dX3_init_31 : decode cX3_init 31 = .ok (.bipush 7, 2) := by decide +kernel
theorem dX3_init_33 : decode cX3_init 33 = .ok (.newarray .int, 2) := by decide +kernel
theorem dX3_init_35 : decode cX3_init 35 = .ok (.putfield 26, 3) := by decide +kernel
theorem dX3_init_38 : decode cX3_init 38 = .ok (.aload_n 0, 1) := by decide +kernel
theorem dX3_init_39 : decode cX3_init 39 = .ok (.iconst 0, 1) := by decide +kernel
theorem dX3_init_40 : decode cX3_init 40 = .ok (.putfield 29, 3) := by decide +kernel
theorem dX3_init_43 : decode cX3_init 43 = .ok (.return_, 1) := by decide +kernel
theorem dX3_search_0 : decode cX3_search 0 = .ok (.aload_n 0, 1) := by decide +kernel
theorem dX3_search_1 : decode cX3_search 1 = .ok (.sipush 2991, 3) := by decide +kernel
theorem dX3_search_4 : decode cX3_search 4 = .ok (.putfield 19, 3) := by decide +kernel
theorem dX3_search_7 : decode cX3_search 7 = .ok (.aload_n 0, 1) := by decide +kernel
theorem dX3_search_8 : decode cX3_search 8 = .ok (.iconst 0, 1) := by decide +kernel
theorem dX3_search_9 : decode cX3_search 9 = .ok (.putfield 29, 3) := by decide +kernel
theorem dX3_search_12 : decode cX3_search 12 = .ok (.aload_n 0, 1) := by decide +kernel
theorem dX3_search_13 : decode cX3_search 13 = .ok (.aload_n 1, 1) := by decide +kernel
theorem dX3_search_14 : decode cX3_search 14 = .ok (.iconst 0, 1) := by decide +kernel
theorem dX3_search_15 : decode cX3_search 15 = .ok (.iconst 0, 1) := by decide +kernel
theorem dX3_search_16 : decode cX3_search 16 = .ok (.invokevirtual 32, 3) := by decide +kernel
theorem dX3_search_19 : decode cX3_search 19 = .ok (.aload_n 0, 1) := by decide +kernel
theorem dX3_search_20 : decode cX3_search 20 = .ok (.iconst 1, 1) := by decide +kernel
theorem dX3_search_21 : decode cX3_search 21 = .ok (.putfield 15, 3) := by decide +kernel
theorem dX3_search_24 : decode cX3_search 24 = .ok (.return_, 1) := by decide +kernel
theorem dX3_tryPlace_0 : decode cX3_tryPlace 0 = .ok (.iload_n 2, 1) := by decide +kernel
theorem dX3_tryPlace_1 : decode cX3_tryPlace 1 = .ok (.aload_n 1, 1) := by decide +kernel
theorem dX3_tryPlace_2 : decode cX3_tryPlace 2 = .ok (.getfield 36, 3) := by decide +kernel
theorem dX3_tryPlace_5 : decode cX3_tryPlace 5 = .ok (.if_icmp .lt 41, 3) := by decide +kernel
theorem dX3_tryPlace_8 : decode cX3_tryPlace 8 = .ok (.aload_n 0, 1) := by decide +kernel
theorem dX3_tryPlace_9 : decode cX3_tryPlace 9 = .ok (.iload_n 3, 1) := by decide +kernel
theorem dX3_tryPlace_10 : decode cX3_tryPlace 10 = .ok (.putfield 19, 3) := by decide +kernel
theorem dX3_tryPlace_13 : decode cX3_tryPlace 13 = .ok (.iconst 0, 1) := by decide +kernel
theorem dX3_tryPlace_14 : decode cX3_tryPlace 14 = .ok (.istore 4, 2) := by decide +kernel
theorem dX3_tryPlace_16 : decode cX3_tryPlace 16 = .ok (.iload 4, 2) := by decide +kernel
theorem dX3_tryPlace_18 : decode cX3_tryPlace 18 = .ok (.aload_n 1, 1) := by decide +kernel
theorem dX3_tryPlace_19 : decode cX3_tryPlace 19 = .ok (.getfield 36, 3) := by decide +kernel
theorem dX3_tryPlace_22 : decode cX3_tryPlace 22 = .ok (.if_icmp .ge 23, 3) := by decide +kernel
theorem dX3_tryPlace_25 : decode cX3_tryPlace 25 = .ok (.aload_n 0, 1) := by decide +kernel
theorem dX3_tryPlace_26 : decode cX3_tryPlace 26 = .ok (.getfield 9, 3) := by decide +kernel
theorem dX3_tryPlace_29 : decode cX3_tryPlace 29 = .ok (.iload 4, 2) := by decide +kernel
theorem dX3_tryPlace_31 : decode cX3_tryPlace 31 = .ok (.aload_n 0, 1) := by decide +kernel
theorem dX3_tryPlace_32 : decode cX3_tryPlace 32 = .ok (.getfield 23, 3) := by decide +kernel
theorem dX3_tryPlace_35 : decode cX3_tryPlace 35 = .ok (.iload 4, 2) := by decide +kernel
theorem dX3_tryPlace_37 : decode cX3_tryPlace 37 = .ok (.iaload, 1) := by decide +kernel
theorem dX3_tryPlace_38 : decode cX3_tryPlace 38 = .ok (.iastore, 1) := by decide +kernel
theorem dX3_tryPlace_39 : decode cX3_tryPlace 39 = .ok (.iinc 4 1, 3) := by decide +kernel
theorem dX3_tryPlace_42 : decode cX3_tryPlace 42 = .ok (.goto (-26), 3) := by decide +kernel
theorem dX3_tryPlace_45 : decode cX3_tryPlace 45 = .ok (.return_, 1) := by decide +kernel
theorem dX3_tryPlace_46 : decode cX3_tryPlace 46 = .ok (.iconst 0, 1) := by decide +kernel
theorem dX3_tryPlace_47 : decode cX3_tryPlace 47 = .ok (.istore 4, 2) := by decide +kernel
theorem dX3_tryPlace_49 : decode cX3_tryPlace 49 = .ok (.iload 4, 2) := by decide +kernel
theorem dX3_tryPlace_51 : decode cX3_tryPlace 51 = .ok (.aload_n 1, 1) := by decide +kernel
theorem dX3_tryPlace_52 : decode cX3_tryPlace 52 = .ok (.getfield 36, 3) := by decide +kernel
theorem dX3_tryPlace_55 : decode cX3_tryPlace 55 = .ok (.if_icmp .ge 27, 3) := by decide +kernel
theorem dX3_tryPlace_58 : decode cX3_tryPlace 58 = .ok (.aload_n 0, 1) := by decide +kernel
theorem dX3_tryPlace_59 : decode cX3_tryPlace 59 = .ok (.iload 4, 2) := by decide +kernel
theorem dX3_tryPlace_61 : decode cX3_tryPlace 61 = .ok (.invokevirtual 41, 3) := by decide +kernel
theorem dX3_tryPlace_64 : decode cX3_tryPlace 64 = .ok (.ifCond .ne 12, 3) := by decide +kernel
theorem dX3_tryPlace_67 : decode cX3_tryPlace 67 = .ok (.aload_n 0, 1) := by decide +kernel
theorem dX3_tryPlace_68 : decode cX3_tryPlace 68 = .ok (.aload_n 1, 1) := by decide +kernel
theorem dX3_tryPlace_69 : decode cX3_tryPlace 69 = .ok (.iload 4, 2) := by decide +kernel
theorem dX3_tryPlace_71 : decode cX3_tryPlace 71 = .ok (.iload_n 2, 1) := by decide +kernel
theorem dX3_tryPlace_72 : decode cX3_tryPlace 72 = .ok (.iload_n 3, 1) := by decide +kernel
theorem dX3_tryPlace_73 : decode cX3_tryPlace 73 = .ok (.invokevirtual 45, 3) := by decide +kernel
theorem dX3_tryPlace_76 : decode cX3_tryPlace 76 = .ok (.iinc 4 1, 3) := by decide +kernel
theorem dX3_tryPlace_79 : decode cX3_tryPlace 79 = .ok (.goto (-30), 3) := by decide +kernel
theorem dX3_tryPlace_82 : decode cX3_tryPlace 82 = .ok (.return_, 1) := by decide +kernel
theorem dX3_tryPart_0 : decode cX3_tryPart 0 = .ok (.aload_n 0, 1) := by decide +kernel
theorem dX3_tryPart_1 : decode cX3_tryPart 1 = .ok (.getfield 23, 3) := by decide +kernel
theorem dX3_tryPart_4 : decode cX3_tryPart 4 = .ok (.iload_n 3, 1) := by decide +kernel
theorem dX3_tryPart_5 : decode cX3_tryPart 5 = .ok (.iload_n 2, 1) := by decide +kernel
theorem dX3_tryPart_6 : decode cX3_tryPart 6 = .ok (.iastore, 1) := by decide +kernel
theorem dX3_tryPart_7 : decode cX3_tryPart 7 = .ok (.aload_n 0, 1) := by decide +kernel
theorem dX3_tryPart_8 : decode cX3_tryPart 8 = .ok (.getfield 26, 3) := by decide +kernel
theorem dX3_tryPart_11 : decode cX3_tryPart 11 = .ok (.iload_n 2, 1) := by decide +kernel
theorem dX3_tryPart_12 : decode cX3_tryPart 12 = .ok (.aload_n 1, 1) := by decide +kernel
theorem dX3_tryPart_13 : decode cX3_tryPart 13 = .ok (.iload_n 2, 1) := by decide +kernel
theorem dX3_tryPart_14 : decode cX3_tryPart 14 = .ok (.iload_n 2, 1) := by decide +kernel
theorem dX3_tryPart_15 : decode cX3_tryPart 15 = .ok (.iload_n 3, 1) := by decide +kernel
theorem dX3_tryPart_16 : decode cX3_tryPart 16 = .ok (.aload_n 1, 1) := by decide +kernel
theorem dX3_tryPart_17 : decode cX3_tryPart 17 = .ok (.getfield 49, 3) := by decide +kernel
theorem dX3_tryPart_20 : decode cX3_tryPart 20 = .ok (.invokestatic 52, 3) := by decide +kernel
theorem dX3_tryPart_23 : decode cX3_tryPart 23 = .ok (.invokevirtual 56, 3) := by decide +kernel
theorem dX3_tryPart_26 : decode cX3_tryPart 26 = .ok (.iastore, 1) := by decide +kernel
theorem dX3_tryPart_27 : decode cX3_tryPart 27 = .ok (.iload 4, 2) := by decide +kernel
theorem dX3_tryPart_29 : decode cX3_tryPart 29 = .ok (.aload_n 0, 1) := by decide +kernel
theorem dX3_tryPart_30 : decode cX3_tryPart 30 = .ok (.aload_n 1, 1) := by decide +kernel
theorem dX3_tryPart_31 : decode cX3_tryPart 31 = .ok (.iload_n 2, 1) := by decide +kernel
theorem dX3_tryPart_32 : decode cX3_tryPart 32 = .ok (.invokevirtual 60, 3) := by decide +kernel
theorem dX3_tryPart_35 : decode cX3_tryPart 35 = .ok (.iadd, 1) := by decide +kernel
theorem dX3_tryPart_36 : decode cX3_tryPart 36 = .ok (.istore 5, 2) := by decide +kernel
theorem dX3_tryPart_38 : decode cX3_tryPart 38 = .ok (.iload 5, 2) := by decide +kernel
theorem dX3_tryPart_40 : decode cX3_tryPart 40 = .ok (.aload_n 0, 1) := by decide +kernel
theorem dX3_tryPart_41 : decode cX3_tryPart 41 = .ok (.getfield 19, 3) := by decide +kernel
theorem dX3_tryPart_44 : decode cX3_tryPart 44 = .ok (.if_icmp .ge 39, 3) := by decide +kernel
theorem dX3_tryPart_47 : decode cX3_tryPart 47 = .ok (.aload_n 0, 1) := by decide +kernel
theorem dX3_tryPart_48 : decode cX3_tryPart 48 = .ok (.dup, 1) := by decide +kernel
theorem dX3_tryPart_49 : decode cX3_tryPart 49 = .ok (.getfield 29, 3) := by decide +kernel
theorem dX3_tryPart_52 : decode cX3_tryPart 52 = .ok (.iconst 1, 1) := by decide +kernel
theorem dX3_tryPart_53 : decode cX3_tryPart 53 = .ok (.iload_n 2, 1) := by decide +kernel
theorem dX3_tryPart_54 : decode cX3_tryPart 54 = .ok (.ishl, 1) := by decide +kernel
theorem dX3_tryPart_55 : decode cX3_tryPart 55 = .ok (.ior, 1) := by decide +kernel
theorem dX3_tryPart_56 : decode cX3_tryPart 56 = .ok (.putfield 29, 3) := by decide +kernel
theorem dX3_tryPart_59 : decode cX3_tryPart 59 = .ok (.aload_n 0, 1) := by decide +kernel
theorem dX3_tryPart_60 : decode cX3_tryPart 60 = .ok (.aload_n 1, 1) := by decide +kernel
theorem dX3_tryPart_61 : decode cX3_tryPart 61 = .ok (.iload_n 3, 1) := by decide +kernel
theorem dX3_tryPart_62 : decode cX3_tryPart 62 = .ok (.iconst 1, 1) := by decide +kernel
theorem dX3_tryPart_63 : decode cX3_tryPart 63 = .ok (.iadd, 1) := by decide +kernel
theorem dX3_tryPart_64 : decode cX3_tryPart 64 = .ok (.iload 5, 2) := by decide +kernel
theorem dX3_tryPart_66 : decode cX3_tryPart 66 = .ok (.invokevirtual 32, 3) := by decide +kernel
theorem dX3_tryPart_69 : decode cX3_tryPart 69 = .ok (.aload_n 0, 1) := by decide +kernel
theorem dX3_tryPart_70 : decode cX3_tryPart 70 = .ok (.dup, 1) := by decide +kernel
theorem dX3_tryPart_71 : decode cX3_tryPart 71 = .ok (.getfield 29, 3) := by decide +kernel
theorem dX3_tryPart_74 : decode cX3_tryPart 74 = .ok (.iconst 1, 1) := by decide +kernel
theorem dX3_tryPart_75 : decode cX3_tryPart 75 = .ok (.iload_n 2, 1) := by decide +kernel
theorem dX3_tryPart_76 : decode cX3_tryPart 76 = .ok (.ishl, 1) := by decide +kernel
theorem dX3_tryPart_77 : decode cX3_tryPart 77 = .ok (.iconst (-1), 1) := by decide +kernel
theorem dX3_tryPart_78 : decode cX3_tryPart 78 = .ok (.ixor, 1) := by decide +kernel
theorem dX3_tryPart_79 : decode cX3_tryPart 79 = .ok (.iand, 1) := by decide +kernel
theorem dX3_tryPart_80 : decode cX3_tryPart 80 = .ok (.putfield 29, 3) := by decide +kernel
theorem dX3_tryPart_83 : decode cX3_tryPart 83 = .ok (.return_, 1) := by decide +kernel
theorem dX3_gapsWithPlaced_0 : decode cX3_gapsWithPlaced 0 = .ok (.iconst 0, 1) := by decide +kernel
theorem dX3_gapsWithPlaced_1 : decode cX3_gapsWithPlaced 1 = .ok (.istore_n 3, 1) := by decide +kernel
theorem dX3_gapsWithPlaced_2 : decode cX3_gapsWithPlaced 2 = .ok (.iconst 0, 1) := by decide +kernel
theorem dX3_gapsWithPlaced_3 : decode cX3_gapsWithPlaced 3 = .ok (.istore 4, 2) := by decide +kernel
theorem dX3_gapsWithPlaced_5 : decode cX3_gapsWithPlaced 5 = .ok (.iload 4, 2) := by decide +kernel
theorem dX3_gapsWithPlaced_7 : decode cX3_gapsWithPlaced 7 = .ok (.aload_n 1, 1) := by decide +kernel
theorem dX3_gapsWithPlaced_8 : decode cX3_gapsWithPlaced 8 = .ok (.getfield 64, 3) := by decide +kernel
theorem dX3_gapsWithPlaced_11 : decode cX3_gapsWithPlaced 11 = .ok (.if_icmp .ge 70, 3) := by decide +kernel
theorem dX3_gapsWithPlaced_14 : decode cX3_gapsWithPlaced 14 = .ok (.aload_n 1, 1) := by decide +kernel
theorem dX3_gapsWithPlaced_15 : decode cX3_gapsWithPlaced 15 = .ok (.getfield 67, 3) := by decide +kernel
theorem dX3_gapsWithPlaced_18 : decode cX3_gapsWithPlaced 18 = .ok (.iload 4, 2) := by decide +kernel
theorem dX3_gapsWithPlaced_20 : decode cX3_gapsWithPlaced 20 = .ok (.iaload, 1) := by decide +kernel
theorem dX3_gapsWithPlaced_21 : decode cX3_gapsWithPlaced 21 = .ok (.istore 5, 2) := by decide +kernel
theorem dX3_gapsWithPlaced_23 : decode cX3_gapsWithPlaced 23 = .ok (.aload_n 1, 1) := by decide +kernel
theorem dX3_gapsWithPlaced_24 : decode cX3_gapsWithPlaced 24 = .ok (.getfield 70, 3) := by decide +kernel
theorem dX3_gapsWithPlaced_27 : decode cX3_gapsWithPlaced 27 = .ok (.iload 4, 2) := by decide +kernel
theorem dX3_gapsWithPlaced_29 : decode cX3_gapsWithPlaced 29 = .ok (.iaload, 1) := by decide +kernel
theorem dX3_gapsWithPlaced_30 : decode cX3_gapsWithPlaced 30 = .ok (.istore 6, 2) := by decide +kernel
theorem dX3_gapsWithPlaced_32 : decode cX3_gapsWithPlaced 32 = .ok (.iload 5, 2) := by decide +kernel
theorem dX3_gapsWithPlaced_34 : decode cX3_gapsWithPlaced 34 = .ok (.iload_n 2, 1) := by decide +kernel
theorem dX3_gapsWithPlaced_35 : decode cX3_gapsWithPlaced 35 = .ok (.if_icmp .ne 12, 3) := by decide +kernel
theorem dX3_gapsWithPlaced_38 : decode cX3_gapsWithPlaced 38 = .ok (.aload_n 0, 1) := by decide +kernel
theorem dX3_gapsWithPlaced_39 : decode cX3_gapsWithPlaced 39 = .ok (.iload 6, 2) := by decide +kernel
theorem dX3_gapsWithPlaced_41 : decode cX3_gapsWithPlaced 41 = .ok (.invokevirtual 41, 3) := by decide +kernel
theorem dX3_gapsWithPlaced_44 : decode cX3_gapsWithPlaced 44 = .ok (.ifCond .ne 18, 3) := by decide +kernel
theorem dX3_gapsWithPlaced_47 : decode cX3_gapsWithPlaced 47 = .ok (.iload 6, 2) := by decide +kernel
theorem dX3_gapsWithPlaced_49 : decode cX3_gapsWithPlaced 49 = .ok (.iload_n 2, 1) := by decide +kernel
theorem dX3_gapsWithPlaced_50 : decode cX3_gapsWithPlaced 50 = .ok (.if_icmp .ne 25, 3) := by decide +kernel
theorem dX3_gapsWithPlaced_53 : decode cX3_gapsWithPlaced 53 = .ok (.aload_n 0, 1) := by decide +kernel
theorem dX3_gapsWithPlaced_54 : decode cX3_gapsWithPlaced 54 = .ok (.iload 5, 2) := by decide +kernel
theorem dX3_gapsWithPlaced_56 : decode cX3_gapsWithPlaced 56 = .ok (.invokevirtual 41, 3) := by decide +kernel
theorem dX3_gapsWithPlaced_59 : decode cX3_gapsWithPlaced 59 = .ok (.ifCond .eq 16, 3) := by decide +kernel
theorem dX3_gapsWithPlaced_62 : decode cX3_gapsWithPlaced 62 = .ok (.iload_n 3, 1) := by decide +kernel
theorem dX3_gapsWithPlaced_63 : decode cX3_gapsWithPlaced 63 = .ok (.aload_n 1, 1) := by decide +kernel
theorem dX3_gapsWithPlaced_64 : decode cX3_gapsWithPlaced 64 = .ok (.iload 4, 2) := by decide +kernel
theorem dX3_gapsWithPlaced_66 : decode cX3_gapsWithPlaced 66 = .ok (.aload_n 0, 1) := by decide +kernel
theorem dX3_gapsWithPlaced_67 : decode cX3_gapsWithPlaced 67 = .ok (.getfield 26, 3) := by decide +kernel
theorem dX3_gapsWithPlaced_70 : decode cX3_gapsWithPlaced 70 = .ok (.invokevirtual 73, 3) := by decide +kernel
theorem dX3_gapsWithPlaced_73 : decode cX3_gapsWithPlaced 73 = .ok (.iadd, 1) := by decide +kernel
theorem dX3_gapsWithPlaced_74 : decode cX3_gapsWithPlaced 74 = .ok (.istore_n 3, 1) := by decide +kernel
theorem dX3_gapsWithPlaced_75 : decode cX3_gapsWithPlaced 75 = .ok (.iinc 4 1, 3) := by decide +kernel
theorem dX3_gapsWithPlaced_78 : decode cX3_gapsWithPlaced 78 = .ok (.goto (-73), 3) := by decide +kernel
theorem dX3_gapsWithPlaced_81 : decode cX3_gapsWithPlaced 81 = .ok (.iload_n 3, 1) := by decide +kernel
theorem dX3_gapsWithPlaced_82 : decode cX3_gapsWithPlaced 82 = .ok (.ireturn, 1) := by decide +kernel
theorem dX3_isPlaced_0 : decode cX3_isPlaced 0 = .ok (.aload_n 0, 1) := by decide +kernel
theorem dX3_isPlaced_1 : decode cX3_isPlaced 1 = .ok (.getfield 29, 3) := by decide +kernel
theorem dX3_isPlaced_4 : decode cX3_isPlaced 4 = .ok (.iload_n 1, 1) := by decide +kernel
theorem dX3_isPlaced_5 : decode cX3_isPlaced 5 = .ok (.ishr, 1) := by decide +kernel
theorem dX3_isPlaced_6 : decode cX3_isPlaced 6 = .ok (.iconst 1, 1) := by decide +kernel
theorem dX3_isPlaced_7 : decode cX3_isPlaced 7 = .ok (.iand, 1) := by decide +kernel
theorem dX3_isPlaced_8 : decode cX3_isPlaced 8 = .ok (.iconst 1, 1) := by decide +kernel
theorem dX3_isPlaced_9 : decode cX3_isPlaced 9 = .ok (.if_icmp .ne 7, 3) := by decide +kernel
theorem dX3_isPlaced_12 : decode cX3_isPlaced 12 = .ok (.iconst 1, 1) := by decide +kernel
theorem dX3_isPlaced_13 : decode cX3_isPlaced 13 = .ok (.goto 4, 3) := by decide +kernel
theorem dX3_isPlaced_16 : decode cX3_isPlaced 16 = .ok (.iconst 0, 1) := by decide +kernel
theorem dX3_isPlaced_17 : decode cX3_isPlaced 17 = .ok (.ireturn, 1) := by decide +kernel
theorem dX4_init_0 : decode cX4_init 0 = .ok (.aload_n 0, 1) := by decide +kernel
theorem dX4_init_1 : decode cX4_init 1 = .ok (.invokespecial 3, 3) := by decide +kernel
theorem dX4_init_4 : decode cX4_init 4 = .ok (.aload_n 0, 1) := by decide +kernel
theorem dX4_init_5 : decode cX4_init 5 = .ok (.bipush 12, 2) := by decide +kernel
theorem dX4_init_7 : decode cX4_init 7 = .ok (.newarray .int, 2) := by decide +kernel
theorem dX4_init_9 : decode cX4_init 9 = .ok (.putfield 9, 3) := by decide +kernel
theorem dX4_init_12 : decode cX4_init 12 = .ok (.aload_n 0, 1) := by decide +kernel
theorem dX4_init_13 : decode cX4_init 13 = .ok (.bipush 12, 2) := by decide +kernel
theorem dX4_init_15 : decode cX4_init 15 = .ok (.newarray .int, 2) := by decide +kernel
theorem dX4_init_17 : decode cX4_init 17 = .ok (.putfield 15, 3) := by decide +kernel
theorem dX4_init_20 : decode cX4_init 20 = .ok (.aload_n 0, 1) := by decide +kernel
theorem dX4_init_21 : decode cX4_init 21 = .ok (.iconst 0, 1) := by decide +kernel
theorem dX4_init_22 : decode cX4_init 22 = .ok (.putfield 18, 3) := by decide +kernel
theorem dX4_init_25 : decode cX4_init 25 = .ok (.return_, 1) := by decide +kernel
theorem dX4_add_0 : decode cX4_add 0 = .ok (.aload_n 0, 1) := by decide +kernel
theorem dX4_add_1 : decode cX4_add 1 = .ok (.getfield 18, 3) := by decide +kernel
theorem dX4_add_4 : decode cX4_add 4 = .ok (.bipush 12, 2) := by decide +kernel
theorem dX4_add_6 : decode cX4_add 6 = .ok (.if_icmp .ge 33, 3) := by decide +kernel
theorem dX4_add_9 : decode cX4_add 9 = .ok (.aload_n 0, 1) := by decide +kernel
theorem dX4_add_10 : decode cX4_add 10 = .ok (.getfield 9, 3) := by decide +kernel
theorem dX4_add_13 : decode cX4_add 13 = .ok (.aload_n 0, 1) := by decide +kernel
theorem dX4_add_14 : decode cX4_add 14 = .ok (.getfield 18, 3) := by decide +kernel
theorem dX4_add_17 : decode cX4_add 17 = .ok (.iload_n 1, 1) := by decide +kernel
theorem dX4_add_18 : decode cX4_add 18 = .ok (.iastore, 1) := by decide +kernel
theorem dX4_add_19 : decode cX4_add 19 = .ok (.aload_n 0, 1) := by decide +kernel
theorem dX4_add_20 : decode cX4_add 20 = .ok (.getfield 15, 3) := by decide +kernel
theorem dX4_add_23 : decode cX4_add 23 = .ok (.aload_n 0, 1) := by decide +kernel
theorem dX4_add_24 : decode cX4_add 24 = .ok (.getfield 18, 3) := by decide +kernel
theorem dX4_add_27 : decode cX4_add 27 = .ok (.iload_n 2, 1) := by decide +kernel
theorem dX4_add_28 : decode cX4_add 28 = .ok (.iastore, 1) := by decide +kernel
theorem dX4_add_29 : decode cX4_add 29 = .ok (.aload_n 0, 1) := by decide +kernel
theorem dX4_add_30 : decode cX4_add 30 = .ok (.dup, 1) := by decide +kernel
theorem dX4_add_31 : decode cX4_add 31 = .ok (.getfield 18, 3) := by decide +kernel
theorem dX4_add_34 : decode cX4_add 34 = .ok (.iconst 1, 1) := by decide +kernel
theorem dX4_add_35 : decode cX4_add 35 = .ok (.iadd, 1) := by decide +kernel
theorem dX4_add_36 : decode cX4_add 36 = .ok (.putfield 18, 3) := by decide +kernel
theorem dX4_add_39 : decode cX4_add 39 = .ok (.return_, 1) := by decide +kernel
theorem dX4_countIn_0 : decode cX4_countIn 0 = .ok (.iconst 0, 1) := by decide +kernel
theorem dX4_countIn_1 : decode cX4_countIn 1 = .ok (.istore_n 2, 1) := by decide +kernel
theorem dX4_countIn_2 : decode cX4_countIn 2 = .ok (.iconst 0, 1) := by decide +kernel
theorem dX4_countIn_3 : decode cX4_countIn 3 = .ok (.istore_n 3, 1) := by decide +kernel
theorem dX4_countIn_4 : decode cX4_countIn 4 = .ok (.iload_n 3, 1) := by decide +kernel
theorem dX4_countIn_5 : decode cX4_countIn 5 = .ok (.aload_n 0, 1) := by decide +kernel
theorem dX4_countIn_6 : decode cX4_countIn 6 = .ok (.getfield 18, 3) := by decide +kernel
theorem dX4_countIn_9 : decode cX4_countIn 9 = .ok (.if_icmp .ge 27, 3) := by decide +kernel
theorem dX4_countIn_12 : decode cX4_countIn 12 = .ok (.iload_n 2, 1) := by decide +kernel
theorem dX4_countIn_13 : decode cX4_countIn 13 = .ok (.aload_n 0, 1) := by decide +kernel
theorem dX4_countIn_14 : decode cX4_countIn 14 = .ok (.getfield 9, 3) := by decide +kernel
theorem dX4_countIn_17 : decode cX4_countIn 17 = .ok (.iload_n 3, 1) := by decide +kernel
theorem dX4_countIn_18 : decode cX4_countIn 18 = .ok (.iaload, 1) := by decide +kernel
theorem dX4_countIn_19 : decode cX4_countIn 19 = .ok (.iload_n 1, 1) := by decide +kernel
theorem dX4_countIn_20 : decode cX4_countIn 20 = .ok (.if_icmp .ne 7, 3) := by decide +kernel
theorem dX4_countIn_23 : decode cX4_countIn 23 = .ok (.iconst 1, 1) := by decide +kernel
theorem dX4_countIn_24 : decode cX4_countIn 24 = .ok (.goto 4, 3) := by decide +kernel
theorem dX4_countIn_27 : decode cX4_countIn 27 = .ok (.iconst 0, 1) := by decide +kernel
theorem dX4_countIn_28 : decode cX4_countIn 28 = .ok (.iadd, 1) := by decide +kernel
theorem dX4_countIn_29 : decode cX4_countIn 29 = .ok (.istore_n 2, 1) := by decide +kernel
theorem dX4_countIn_30 : decode cX4_countIn 30 = .ok (.iinc 3 1, 3) := by decide +kernel
theorem dX4_countIn_33 : decode cX4_countIn 33 = .ok (.goto (-29), 3) := by decide +kernel
theorem dX4_countIn_36 : decode cX4_countIn 36 = .ok (.iload_n 2, 1) := by decide +kernel
theorem dX4_countIn_37 : decode cX4_countIn 37 = .ok (.ireturn, 1) := by decide +kernel
theorem dX5_init_0 : decode cX5_init 0 = .ok (.aload_n 0, 1) := by decide +kernel
theorem dX5_init_1 : decode cX5_init 1 = .ok (.invokespecial 3, 3) := by decide +kernel
theorem dX5_init_4 : decode cX5_init 4 = .ok (.aload_n 0, 1) := by decide +kernel
theorem dX5_init_5 : decode cX5_init 5 = .ok (.bipush 6, 2) := by decide +kernel
theorem dX5_init_7 : decode cX5_init 7 = .ok (.newarray .int, 2) := by decide +kernel
theorem dX5_init_9 : decode cX5_init 9 = .ok (.putfield 9, 3) := by decide +kernel
theorem dX5_init_12 : decode cX5_init 12 = .ok (.aload_n 0, 1) := by decide +kernel
theorem dX5_init_13 : decode cX5_init 13 = .ok (.bipush 7, 2) := by decide +kernel
theorem dX5_init_15 : decode cX5_init 15 = .ok (.newarray .int, 2) := by decide +kernel
theorem dX5_init_17 : decode cX5_init 17 = .ok (.putfield 15, 3) := by decide +kernel
theorem dX5_init_20 : decode cX5_init 20 = .ok (.aload_n 0, 1) := by decide +kernel
theorem dX5_init_21 : decode cX5_init 21 = .ok (.bipush 7, 2) := by decide +kernel
theorem dX5_init_23 : decode cX5_init 23 = .ok (.newarray .int, 2) := by decide +kernel
theorem dX5_init_25 : decode cX5_init 25 = .ok (.putfield 18, 3) := by decide +kernel
theorem dX5_init_28 : decode cX5_init 28 = .ok (.aload_n 0, 1) := by decide +kernel
theorem dX5_init_29 : decode cX5_init 29 = .ok (.bipush 7, 2) := by decide +kernel
theorem dX5_init_31 : decode cX5_init 31 = .ok (.newarray .int, 2) := by decide +kernel
theorem dX5_init_33 : decode cX5_init 33 = .ok (.putfield 21, 3) := by decide +kernel
theorem dX5_init_36 : decode cX5_init 36 = .ok (.aload_n 0, 1) := by decide +kernel
theorem dX5_init_37 : decode cX5_init 37 = .ok (.bipush 10, 2) := by decide +kernel
theorem dX5_init_39 : decode cX5_init 39 = .ok (.newarray .int, 2) := by decide +kernel
theorem dX5_init_41 : decode cX5_init 41 = .ok (.putfield 24, 3) := by decide +kernel
theorem dX5_init_44 : decode cX5_init 44 = .ok (.aload_n 0, 1) := by decide +kernel
theorem dX5_init_45 : decode cX5_init 45 = .ok (.bipush 10, 2) := by decide +kernel
theorem dX5_init_47 : decode cX5_init 47 = .ok (.newarray .int, 2) := by decide +kernel
theorem dX5_init_49 : decode cX5_init 49 = .ok (.putfield 27, 3) := by decide +kernel
theorem dX5_init_52 : decode cX5_init 52 = .ok (.return_, 1) := by decide +kernel
theorem dX5_clear_0 : decode cX5_clear 0 = .ok (.aload_n 0, 1) := by decide +kernel
theorem dX5_clear_1 : decode cX5_clear 1 = .ok (.iconst 0, 1) := by decide +kernel
theorem dX5_clear_2 : decode cX5_clear 2 = .ok (.putfield 30, 3) := by decide +kernel
theorem dX5_clear_5 : decode cX5_clear 5 = .ok (.aload_n 0, 1) := by decide +kernel
theorem dX5_clear_6 : decode cX5_clear 6 = .ok (.iconst 0, 1) := by decide +kernel
theorem dX5_clear_7 : decode cX5_clear 7 = .ok (.putfield 34, 3) := by decide +kernel
theorem dX5_clear_10 : decode cX5_clear 10 = .ok (.aload_n 0, 1) := by decide +kernel
theorem dX5_clear_11 : decode cX5_clear 11 = .ok (.iconst 0, 1) := by decide +kernel
theorem dX5_clear_12 : decode cX5_clear 12 = .ok (.putfield 37, 3) := by decide +kernel
theorem dX5_clear_15 : decode cX5_clear 15 = .ok (.aload_n 0, 1) := by decide +kernel
theorem dX5_clear_16 : decode cX5_clear 16 = .ok (.iconst 1, 1) := by decide +kernel
theorem dX5_clear_17 : decode cX5_clear 17 = .ok (.putfield 40, 3) := by decide +kernel
theorem dX5_clear_20 : decode cX5_clear 20 = .ok (.aload_n 0, 1) := by decide +kernel
theorem dX5_clear_21 : decode cX5_clear 21 = .ok (.iconst 0, 1) := by decide +kernel
theorem dX5_clear_22 : decode cX5_clear 22 = .ok (.putfield 43, 3) := by decide +kernel
theorem dX5_clear_25 : decode cX5_clear 25 = .ok (.aload_n 0, 1) := by decide +kernel
theorem dX5_clear_26 : decode cX5_clear 26 = .ok (.sipush 300, 3) := by decide +kernel
theorem dX5_clear_29 : decode cX5_clear 29 = .ok (.putfield 46, 3) := by decide +kernel
theorem dX5_clear_32 : decode cX5_clear 32 = .ok (.return_, 1) := by decide +kernel
theorem dX5_hasTailor_0 : decode cX5_hasTailor 0 = .ok (.iload_n 1, 1) := by decide +kernel
theorem dX5_hasTailor_1 : decode cX5_hasTailor 1 = .ok (.ifCond .lt 15, 3) := by decide +kernel
theorem dX5_hasTailor_4 : decode cX5_hasTailor 4 = .ok (.iload_n 1, 1) := by decide +kernel
theorem dX5_hasTailor_5 : decode cX5_hasTailor 5 = .ok (.aload_n 0, 1) := by decide +kernel
theorem dX5_hasTailor_6 : decode cX5_hasTailor 6 = .ok (.getfield 30, 3) := by decide +kernel
theorem dX5_hasTailor_9 : decode cX5_hasTailor 9 = .ok (.if_icmp .ge 7, 3) := by decide +kernel
theorem dX5_hasTailor_12 : decode cX5_hasTailor 12 = .ok (.iconst 1, 1) := by decide +kernel
theorem dX5_hasTailor_13 : decode cX5_hasTailor 13 = .ok (.goto 4, 3) := by decide +kernel
theorem dX5_hasTailor_16 : decode cX5_hasTailor 16 = .ok (.iconst 0, 1) := by decide +kernel
theorem dX5_hasTailor_17 : decode cX5_hasTailor 17 = .ok (.ireturn, 1) := by decide +kernel
theorem dX5_hasPart_0 : decode cX5_hasPart 0 = .ok (.iload_n 1, 1) := by decide +kernel
theorem dX5_hasPart_1 : decode cX5_hasPart 1 = .ok (.ifCond .lt 15, 3) := by decide +kernel
theorem dX5_hasPart_4 : decode cX5_hasPart 4 = .ok (.iload_n 1, 1) := by decide +kernel
theorem dX5_hasPart_5 : decode cX5_hasPart 5 = .ok (.aload_n 0, 1) := by decide +kernel
theorem dX5_hasPart_6 : decode cX5_hasPart 6 = .ok (.getfield 34, 3) := by decide +kernel
theorem dX5_hasPart_9 : decode cX5_hasPart 9 = .ok (.if_icmp .ge 7, 3) := by decide +kernel
theorem dX5_hasPart_12 : decode cX5_hasPart 12 = .ok (.iconst 1, 1) := by decide +kernel
theorem dX5_hasPart_13 : decode cX5_hasPart 13 = .ok (.goto 4, 3) := by decide +kernel
theorem dX5_hasPart_16 : decode cX5_hasPart 16 = .ok (.iconst 0, 1) := by decide +kernel
theorem dX5_hasPart_17 : decode cX5_hasPart 17 = .ok (.ireturn, 1) := by decide +kernel
theorem dX5_hasSeam_0 : decode cX5_hasSeam 0 = .ok (.iload_n 1, 1) := by decide +kernel
theorem dX5_hasSeam_1 : decode cX5_hasSeam 1 = .ok (.ifCond .lt 15, 3) := by decide +kernel
theorem dX5_hasSeam_4 : decode cX5_hasSeam 4 = .ok (.iload_n 1, 1) := by decide +kernel
theorem dX5_hasSeam_5 : decode cX5_hasSeam 5 = .ok (.aload_n 0, 1) := by decide +kernel
theorem dX5_hasSeam_6 : decode cX5_hasSeam 6 = .ok (.getfield 37, 3) := by decide +kernel
theorem dX5_hasSeam_9 : decode cX5_hasSeam 9 = .ok (.if_icmp .ge 7, 3) := by decide +kernel
theorem dX5_hasSeam_12 : decode cX5_hasSeam 12 = .ok (.iconst 1, 1) := by decide +kernel
theorem dX5_hasSeam_13 : decode cX5_hasSeam 13 = .ok (.goto 4, 3) := by decide +kernel
theorem dX5_hasSeam_16 : decode cX5_hasSeam 16 = .ok (.iconst 0, 1) := by decide +kernel
theorem dX5_hasSeam_17 : decode cX5_hasSeam 17 = .ok (.ireturn, 1) := by decide +kernel
theorem dX5_takes_0 : decode cX5_takes 0 = .ok (.iload_n 1, 1) := by decide +kernel
theorem dX5_takes_1 : decode cX5_takes 1 = .ok (.lookupswitch 116 #[(99, 108), (103, 92), (112, 67), (115, 81), (116, 59), (122, 100)], 59) := by decide +kernel
theorem dX5_takes_60 : decode cX5_takes 60 = .ok (.aload_n 0, 1) := by decide +kernel
theorem dX5_takes_61 : decode cX5_takes 61 = .ok (.aload_n 2, 1) := by decide +kernel
theorem dX5_takes_62 : decode cX5_takes 62 = .ok (.iconst 0, 1) := by decide +kernel
theorem dX5_takes_63 : decode cX5_takes 63 = .ok (.iaload, 1) := by decide +kernel
theorem dX5_takes_64 : decode cX5_takes 64 = .ok (.invokevirtual 49, 3) := by decide +kernel
theorem dX5_takes_67 : decode cX5_takes 67 = .ok (.ireturn, 1) := by decide +kernel
theorem dX5_takes_68 : decode cX5_takes 68 = .ok (.aload_n 0, 1) := by decide +kernel
theorem dX5_takes_69 : decode cX5_takes 69 = .ok (.aload_n 2, 1) := by decide +kernel
theorem dX5_takes_70 : decode cX5_takes 70 = .ok (.iconst 0, 1) := by decide +kernel
theorem dX5_takes_71 : decode cX5_takes 71 = .ok (.iaload, 1) := by decide +kernel
theorem dX5_takes_72 : decode cX5_takes 72 = .ok (.aload_n 2, 1) := by decide +kernel
theorem dX5_takes_73 : decode cX5_takes 73 = .ok (.iconst 1, 1) := by decide +kernel
theorem dX5_takes_74 : decode cX5_takes 74 = .ok (.iaload, 1) := by decide +kernel
theorem dX5_takes_75 : decode cX5_takes 75 = .ok (.aload_n 2, 1) := by decide +kernel
theorem dX5_takes_76 : decode cX5_takes 76 = .ok (.iconst 2, 1) := by decide +kernel
theorem dX5_takes_77 : decode cX5_takes 77 = .ok (.iaload, 1) := by decide +kernel
theorem dX5_takes_78 : decode cX5_takes 78 = .ok (.invokevirtual 53, 3) := by decide +kernel
theorem dX5_takes_81 : decode cX5_takes 81 = .ok (.ireturn, 1) := by decide +kernel
theorem dX5_takes_82 : decode cX5_takes 82 = .ok (.aload_n 0, 1) := by decide +kernel
theorem dX5_takes_83 : decode cX5_takes 83 = .ok (.aload_n 2, 1) := by decide +kernel
theorem dX5_takes_84 : decode cX5_takes 84 = .ok (.iconst 0, 1) := by decide +kernel
theorem dX5_takes_85 : decode cX5_takes 85 = .ok (.iaload, 1) := by decide +kernel
theorem dX5_takes_86 : decode cX5_takes 86 = .ok (.aload_n 2, 1) := by decide +kernel
theorem dX5_takes_87 : decode cX5_takes 87 = .ok (.iconst 1, 1) := by decide +kernel
theorem dX5_takes_88 : decode cX5_takes 88 = .ok (.iaload, 1) := by decide +kernel
theorem dX5_takes_89 : decode cX5_takes 89 = .ok (.invokevirtual 57, 3) := by decide +kernel
theorem dX5_takes_92 : decode cX5_takes 92 = .ok (.ireturn, 1) := by decide +kernel
theorem dX5_takes_93 : decode cX5_takes 93 = .ok (.aload_n 0, 1) := by decide +kernel
theorem dX5_takes_94 : decode cX5_takes 94 = .ok (.aload_n 2, 1) := by decide +kernel
theorem dX5_takes_95 : decode cX5_takes 95 = .ok (.iconst 0, 1) := by decide +kernel
theorem dX5_takes_96 : decode cX5_takes 96 = .ok (.iaload, 1) := by decide +kernel
theorem dX5_takes_97 : decode cX5_takes 97 = .ok (.invokevirtual 61, 3) := by decide +kernel
theorem dX5_takes_100 : decode cX5_takes 100 = .ok (.ireturn, 1) := by decide +kernel
theorem dX5_takes_101 : decode cX5_takes 101 = .ok (.aload_n 0, 1) := by decide +kernel
theorem dX5_takes_102 : decode cX5_takes 102 = .ok (.aload_n 2, 1) := by decide +kernel
theorem dX5_takes_103 : decode cX5_takes 103 = .ok (.iconst 0, 1) := by decide +kernel
theorem dX5_takes_104 : decode cX5_takes 104 = .ok (.iaload, 1) := by decide +kernel
theorem dX5_takes_105 : decode cX5_takes 105 = .ok (.invokevirtual 64, 3) := by decide +kernel
theorem dX5_takes_108 : decode cX5_takes 108 = .ok (.ireturn, 1) := by decide +kernel
theorem dX5_takes_109 : decode cX5_takes 109 = .ok (.aload_n 0, 1) := by decide +kernel
theorem dX5_takes_110 : decode cX5_takes 110 = .ok (.aload_n 2, 1) := by decide +kernel
theorem dX5_takes_111 : decode cX5_takes 111 = .ok (.iconst 0, 1) := by decide +kernel
theorem dX5_takes_112 : decode cX5_takes 112 = .ok (.iaload, 1) := by decide +kernel
theorem dX5_takes_113 : decode cX5_takes 113 = .ok (.invokevirtual 67, 3) := by decide +kernel
theorem dX5_takes_116 : decode cX5_takes 116 = .ok (.ireturn, 1) := by decide +kernel
theorem dX5_takes_117 : decode cX5_takes 117 = .ok (.iconst 0, 1) := by decide +kernel
theorem dX5_takes_118 : decode cX5_takes 118 = .ok (.ireturn, 1) := by decide +kernel
theorem dX5_takesTailor_0 : decode cX5_takesTailor 0 = .ok (.aload_n 0, 1) := by decide +kernel
theorem dX5_takesTailor_1 : decode cX5_takesTailor 1 = .ok (.getfield 30, 3) := by decide +kernel
theorem dX5_takesTailor_4 : decode cX5_takesTailor 4 = .ok (.bipush 6, 2) := by decide +kernel
theorem dX5_takesTailor_6 : decode cX5_takesTailor 6 = .ok (.if_icmp .ge 15, 3) := by decide +kernel
theorem dX5_takesTailor_9 : decode cX5_takesTailor 9 = .ok (.iload_n 1, 1) := by decide +kernel
theorem dX5_takesTailor_10 : decode cX5_takesTailor 10 = .ok (.bipush 80, 2) := by decide +kernel
theorem dX5_takesTailor_12 : decode cX5_takesTailor 12 = .ok (.if_icmp .lt 9, 3) := by decide +kernel
theorem dX5_takesTailor_15 : decode cX5_takesTailor 15 = .ok (.iload_n 1, 1) := by decide +kernel
theorem dX5_takesTailor_16 : decode cX5_takesTailor 16 = .ok (.bipush 120, 2) := by decide +kernel
theorem dX5_takesTailor_18 : decode cX5_takesTailor 18 = .ok (.if_icmp .le 5, 3) := by decide +kernel
theorem dX5_takesTailor_21 : decode cX5_takesTailor 21 = .ok (.iconst 0, 1) := by decide +kernel
theorem dX5_takesTailor_22 : decode cX5_takesTailor 22 = .ok (.ireturn, 1) := by decide +kernel
theorem dX5_takesTailor_23 : decode cX5_takesTailor 23 = .ok (.aload_n 0, 1) := by decide +kernel
theorem dX5_takesTailor_24 : decode cX5_takesTailor 24 = .ok (.getfield 9, 3) := by decide +kernel
theorem dX5_takesTailor_27 : decode cX5_takesTailor 27 = .ok (.aload_n 0, 1) := by decide +kernel
theorem dX5_takesTailor_28 : decode cX5_takesTailor 28 = .ok (.getfield 30, 3) := by decide +kernel
theorem dX5_takesTailor_31 : decode cX5_takesTailor 31 = .ok (.iload_n 1, 1) := by decide +kernel
theorem dX5_takesTailor_32 : decode cX5_takesTailor 32 = .ok (.iastore, 1) := by decide +kernel
theorem dX5_takesTailor_33 : decode cX5_takesTailor 33 = .ok (.aload_n 0, 1) := by decide +kernel
theorem dX5_takesTailor_34 : decode cX5_takesTailor 34 = .ok (.dup, 1) := by decide +kernel
theorem dX5_takesTailor_35 : decode cX5_takesTailor 35 = .ok (.getfield 30, 3) := by decide +kernel
theorem dX5_takesTailor_38 : decode cX5_takesTailor 38 = .ok (.iconst 1, 1) := by decide +kernel
theorem dX5_takesTailor_39 : decode cX5_takesTailor 39 = .ok (.iadd, 1) := by decide +kernel
theorem dX5_takesTailor_40 : decode cX5_takesTailor 40 = .ok (.putfield 30, 3) := by decide +kernel
theorem dX5_takesTailor_43 : decode cX5_takesTailor 43 = .ok (.iconst 1, 1) := by decide +kernel
theorem dX5_takesTailor_44 : decode cX5_takesTailor 44 = .ok (.ireturn, 1) := by decide +kernel
theorem dX5_takesPart_0 : decode cX5_takesPart 0 = .ok (.aload_n 0, 1) := by decide +kernel
theorem dX5_takesPart_1 : decode cX5_takesPart 1 = .ok (.getfield 34, 3) := by decide +kernel
theorem dX5_takesPart_4 : decode cX5_takesPart 4 = .ok (.bipush 7, 2) := by decide +kernel
theorem dX5_takesPart_6 : decode cX5_takesPart 6 = .ok (.if_icmp .ge 30, 3) := by decide +kernel
theorem dX5_takesPart_9 : decode cX5_takesPart 9 = .ok (.aload_n 0, 1) := by decide +kernel
theorem dX5_takesPart_10 : decode cX5_takesPart 10 = .ok (.iload_n 1, 1) := by decide +kernel
theorem dX5_takesPart_11 : decode cX5_takesPart 11 = .ok (.invokevirtual 70, 3) := by decide +kernel
theorem dX5_takesPart_14 : decode cX5_takesPart 14 = .ok (.ifCond .eq 22, 3) := by decide +kernel
theorem dX5_takesPart_17 : decode cX5_takesPart 17 = .ok (.iload_n 2, 1) := by decide +kernel
theorem dX5_takesPart_18 : decode cX5_takesPart 18 = .ok (.bipush 10, 2) := by decide +kernel
theorem dX5_takesPart_20 : decode cX5_takesPart 20 = .ok (.if_icmp .lt 16, 3) := by decide +kernel
theorem dX5_takesPart_23 : decode cX5_takesPart 23 = .ok (.iload_n 2, 1) := by decide +kernel
theorem dX5_takesPart_24 : decode cX5_takesPart 24 = .ok (.sipush 199, 3) := by decide +kernel
theorem dX5_takesPart_27 : decode cX5_takesPart 27 = .ok (.if_icmp .gt 9, 3) := by decide +kernel
theorem dX5_takesPart_30 : decode cX5_takesPart 30 = .ok (.iload_n 3, 1) := by decide +kernel
theorem dX5_takesPart_31 : decode cX5_takesPart 31 = .ok (.bipush 99, 2) := by decide +kernel
theorem dX5_takesPart_33 : decode cX5_takesPart 33 = .ok (.if_icmp .le 5, 3) := by decide +kernel
theorem dX5_takesPart_36 : decode cX5_takesPart 36 = .ok (.iconst 0, 1) := by decide +kernel
theorem dX5_takesPart_37 : decode cX5_takesPart 37 = .ok (.ireturn, 1) := by decide +kernel
theorem dX5_takesPart_38 : decode cX5_takesPart 38 = .ok (.aload_n 0, 1) := by decide +kernel
theorem dX5_takesPart_39 : decode cX5_takesPart 39 = .ok (.getfield 15, 3) := by decide +kernel
theorem dX5_takesPart_42 : decode cX5_takesPart 42 = .ok (.aload_n 0, 1) := by decide +kernel
theorem dX5_takesPart_43 : decode cX5_takesPart 43 = .ok (.getfield 34, 3) := by decide +kernel
theorem dX5_takesPart_46 : decode cX5_takesPart 46 = .ok (.iload_n 1, 1) := by decide +kernel
theorem dX5_takesPart_47 : decode cX5_takesPart 47 = .ok (.iastore, 1) := by decide +kernel
theorem dX5_takesPart_48 : decode cX5_takesPart 48 = .ok (.aload_n 0, 1) := by decide +kernel
theorem dX5_takesPart_49 : decode cX5_takesPart 49 = .ok (.getfield 18, 3) := by decide +kernel
theorem dX5_takesPart_52 : decode cX5_takesPart 52 = .ok (.aload_n 0, 1) := by decide +kernel
theorem dX5_takesPart_53 : decode cX5_takesPart 53 = .ok (.getfield 34, 3) := by decide +kernel
theorem dX5_takesPart_56 : decode cX5_takesPart 56 = .ok (.iload_n 2, 1) := by decide +kernel
theorem dX5_takesPart_57 : decode cX5_takesPart 57 = .ok (.iastore, 1) := by decide +kernel
theorem dX5_takesPart_58 : decode cX5_takesPart 58 = .ok (.aload_n 0, 1) := by decide +kernel
theorem dX5_takesPart_59 : decode cX5_takesPart 59 = .ok (.getfield 21, 3) := by decide +kernel
theorem dX5_takesPart_62 : decode cX5_takesPart 62 = .ok (.aload_n 0, 1) := by decide +kernel
theorem dX5_takesPart_63 : decode cX5_takesPart 63 = .ok (.getfield 34, 3) := by decide +kernel
theorem dX5_takesPart_66 : decode cX5_takesPart 66 = .ok (.iload_n 3, 1) := by decide +kernel
theorem dX5_takesPart_67 : decode cX5_takesPart 67 = .ok (.iastore, 1) := by decide +kernel
theorem dX5_takesPart_68 : decode cX5_takesPart 68 = .ok (.aload_n 0, 1) := by decide +kernel
theorem dX5_takesPart_69 : decode cX5_takesPart 69 = .ok (.dup, 1) := by decide +kernel
theorem dX5_takesPart_70 : decode cX5_takesPart 70 = .ok (.getfield 34, 3) := by decide +kernel
theorem dX5_takesPart_73 : decode cX5_takesPart 73 = .ok (.iconst 1, 1) := by decide +kernel
theorem dX5_takesPart_74 : decode cX5_takesPart 74 = .ok (.iadd, 1) := by decide +kernel
theorem dX5_takesPart_75 : decode cX5_takesPart 75 = .ok (.putfield 34, 3) := by decide +kernel
theorem dX5_takesPart_78 : decode cX5_takesPart 78 = .ok (.iconst 1, 1) := by decide +kernel
theorem dX5_takesPart_79 : decode cX5_takesPart 79 = .ok (.ireturn, 1) := by decide +kernel
theorem dX5_takesSeam_0 : decode cX5_takesSeam 0 = .ok (.aload_n 0, 1) := by decide +kernel
theorem dX5_takesSeam_1 : decode cX5_takesSeam 1 = .ok (.getfield 37, 3) := by decide +kernel
theorem dX5_takesSeam_4 : decode cX5_takesSeam 4 = .ok (.bipush 10, 2) := by decide +kernel
theorem dX5_takesSeam_6 : decode cX5_takesSeam 6 = .ok (.if_icmp .ge 24, 3) := by decide +kernel
theorem dX5_takesSeam_9 : decode cX5_takesSeam 9 = .ok (.aload_n 0, 1) := by decide +kernel
theorem dX5_takesSeam_10 : decode cX5_takesSeam 10 = .ok (.iload_n 1, 1) := by decide +kernel
theorem dX5_takesSeam_11 : decode cX5_takesSeam 11 = .ok (.invokevirtual 73, 3) := by decide +kernel
theorem dX5_takesSeam_14 : decode cX5_takesSeam 14 = .ok (.ifCond .eq 16, 3) := by decide +kernel
theorem dX5_takesSeam_17 : decode cX5_takesSeam 17 = .ok (.aload_n 0, 1) := by decide +kernel
theorem dX5_takesSeam_18 : decode cX5_takesSeam 18 = .ok (.iload_n 2, 1) := by decide +kernel
theorem dX5_takesSeam_19 : decode cX5_takesSeam 19 = .ok (.invokevirtual 73, 3) := by decide +kernel
theorem dX5_takesSeam_22 : decode cX5_takesSeam 22 = .ok (.ifCond .eq 8, 3) := by decide +kernel
theorem dX5_takesSeam_25 : decode cX5_takesSeam 25 = .ok (.iload_n 1, 1) := by decide +kernel
theorem dX5_takesSeam_26 : decode cX5_takesSeam 26 = .ok (.iload_n 2, 1) := by decide +kernel
theorem dX5_takesSeam_27 : decode cX5_takesSeam 27 = .ok (.if_icmp .ne 5, 3) := by decide +kernel
theorem dX5_takesSeam_30 : decode cX5_takesSeam 30 = .ok (.iconst 0, 1) := by decide +kernel
theorem dX5_takesSeam_31 : decode cX5_takesSeam 31 = .ok (.ireturn, 1) := by decide +kernel
theorem dX5_takesSeam_32 : decode cX5_takesSeam 32 = .ok (.aload_n 0, 1) := by decide +kernel
theorem dX5_takesSeam_33 : decode cX5_takesSeam 33 = .ok (.getfield 24, 3) := by decide +kernel
theorem dX5_takesSeam_36 : decode cX5_takesSeam 36 = .ok (.aload_n 0, 1) := by decide +kernel
theorem dX5_takesSeam_37 : decode cX5_takesSeam 37 = .ok (.getfield 37, 3) := by decide +kernel
theorem dX5_takesSeam_40 : decode cX5_takesSeam 40 = .ok (.iload_n 1, 1) := by decide +kernel
theorem dX5_takesSeam_41 : decode cX5_takesSeam 41 = .ok (.iastore, 1) := by decide +kernel
theorem dX5_takesSeam_42 : decode cX5_takesSeam 42 = .ok (.aload_n 0, 1) := by decide +kernel
theorem dX5_takesSeam_43 : decode cX5_takesSeam 43 = .ok (.getfield 27, 3) := by decide +kernel
theorem dX5_takesSeam_46 : decode cX5_takesSeam 46 = .ok (.aload_n 0, 1) := by decide +kernel
theorem dX5_takesSeam_47 : decode cX5_takesSeam 47 = .ok (.getfield 37, 3) := by decide +kernel
theorem dX5_takesSeam_50 : decode cX5_takesSeam 50 = .ok (.iload_n 2, 1) := by decide +kernel
theorem dX5_takesSeam_51 : decode cX5_takesSeam 51 = .ok (.iastore, 1) := by decide +kernel
theorem dX5_takesSeam_52 : decode cX5_takesSeam 52 = .ok (.aload_n 0, 1) := by decide +kernel
theorem dX5_takesSeam_53 : decode cX5_takesSeam 53 = .ok (.dup, 1) := by decide +kernel
theorem dX5_takesSeam_54 : decode cX5_takesSeam 54 = .ok (.getfield 37, 3) := by decide +kernel
theorem dX5_takesSeam_57 : decode cX5_takesSeam 57 = .ok (.iconst 1, 1) := by decide +kernel
theorem dX5_takesSeam_58 : decode cX5_takesSeam 58 = .ok (.iadd, 1) := by decide +kernel
theorem dX5_takesSeam_59 : decode cX5_takesSeam 59 = .ok (.putfield 37, 3) := by decide +kernel
theorem dX5_takesSeam_62 : decode cX5_takesSeam 62 = .ok (.iconst 1, 1) := by decide +kernel
theorem dX5_takesSeam_63 : decode cX5_takesSeam 63 = .ok (.ireturn, 1) := by decide +kernel
theorem dX5_takesGap_0 : decode cX5_takesGap 0 = .ok (.iload_n 1, 1) := by decide +kernel
theorem dX5_takesGap_1 : decode cX5_takesGap 1 = .ok (.bipush 20, 2) := by decide +kernel
theorem dX5_takesGap_3 : decode cX5_takesGap 3 = .ok (.if_icmp .le 5, 3) := by decide +kernel
theorem dX5_takesGap_6 : decode cX5_takesGap 6 = .ok (.iconst 0, 1) := by decide +kernel
theorem dX5_takesGap_7 : decode cX5_takesGap 7 = .ok (.ireturn, 1) := by decide +kernel
theorem dX5_takesGap_8 : decode cX5_takesGap 8 = .ok (.aload_n 0, 1) := by decide +kernel
theorem dX5_takesGap_9 : decode cX5_takesGap 9 = .ok (.iload_n 1, 1) := by decide +kernel
theorem dX5_takesGap_10 : decode cX5_takesGap 10 = .ok (.putfield 40, 3) := by decide +kernel
theorem dX5_takesGap_13 : decode cX5_takesGap 13 = .ok (.iconst 1, 1) := by decide +kernel
theorem dX5_takesGap_14 : decode cX5_takesGap 14 = .ok (.ireturn, 1) := by decide +kernel
theorem dX5_takesBoy_0 : decode cX5_takesBoy 0 = .ok (.iload_n 1, 1) := by decide +kernel
theorem dX5_takesBoy_1 : decode cX5_takesBoy 1 = .ok (.sipush 1000, 3) := by decide +kernel
theorem dX5_takesBoy_4 : decode cX5_takesBoy 4 = .ok (.if_icmp .lt 5, 3) := by decide +kernel
theorem dX5_takesBoy_7 : decode cX5_takesBoy 7 = .ok (.iconst 0, 1) := by decide +kernel
theorem dX5_takesBoy_8 : decode cX5_takesBoy 8 = .ok (.ireturn, 1) := by decide +kernel
theorem dX5_takesBoy_9 : decode cX5_takesBoy 9 = .ok (.aload_n 0, 1) := by decide +kernel
theorem dX5_takesBoy_10 : decode cX5_takesBoy 10 = .ok (.iload_n 1, 1) := by decide +kernel
theorem dX5_takesBoy_11 : decode cX5_takesBoy 11 = .ok (.putfield 43, 3) := by decide +kernel
theorem dX5_takesBoy_14 : decode cX5_takesBoy 14 = .ok (.iconst 1, 1) := by decide +kernel
theorem dX5_takesBoy_15 : decode cX5_takesBoy 15 = .ok (.ireturn, 1) := by decide +kernel
theorem dX5_takesBolt_0 : decode cX5_takesBolt 0 = .ok (.iload_n 1, 1) := by decide +kernel
theorem dX5_takesBolt_1 : decode cX5_takesBolt 1 = .ok (.iconst 1, 1) := by decide +kernel
theorem dX5_takesBolt_2 : decode cX5_takesBolt 2 = .ok (.if_icmp .ge 5, 3) := by decide +kernel
theorem dX5_takesBolt_5 : decode cX5_takesBolt 5 = .ok (.iconst 0, 1) := by decide +kernel
theorem dX5_takesBolt_6 : decode cX5_takesBolt 6 = .ok (.ireturn, 1) := by decide +kernel
theorem dX5_takesBolt_7 : decode cX5_takesBolt 7 = .ok (.aload_n 0, 1) := by decide +kernel
theorem dX5_takesBolt_8 : decode cX5_takesBolt 8 = .ok (.iload_n 1, 1) := by decide +kernel
theorem dX5_takesBolt_9 : decode cX5_takesBolt 9 = .ok (.putfield 46, 3) := by decide +kernel
theorem dX5_takesBolt_12 : decode cX5_takesBolt 12 = .ok (.iconst 1, 1) := by decide +kernel
theorem dX5_takesBolt_13 : decode cX5_takesBolt 13 = .ok (.ireturn, 1) := by decide +kernel
theorem dX5_slip_0 : decode cX5_slip 0 = .ok (.ldc2_w 76, 3) := by decide +kernel
theorem dX5_slip_3 : decode cX5_slip 3 = .ok (.iload_n 2, 1) := by decide +kernel
theorem dX5_slip_4 : decode cX5_slip 4 = .ok (.i2l, 1) := by decide +kernel
theorem dX5_slip_5 : decode cX5_slip 5 = .ok (.lmul, 1) := by decide +kernel
theorem dX5_slip_6 : decode cX5_slip 6 = .ok (.ldc2_w 78, 3) := by decide +kernel
theorem dX5_slip_9 : decode cX5_slip 9 = .ok (.iload_n 0, 1) := by decide +kernel
theorem dX5_slip_10 : decode cX5_slip 10 = .ok (.i2l, 1) := by decide +kernel
theorem dX5_slip_11 : decode cX5_slip 11 = .ok (.lmul, 1) := by decide +kernel
theorem dX5_slip_12 : decode cX5_slip 12 = .ok (.ladd, 1) := by decide +kernel
theorem dX5_slip_13 : decode cX5_slip 13 = .ok (.ldc2_w 80, 3) := by decide +kernel
theorem dX5_slip_16 : decode cX5_slip 16 = .ok (.iload_n 1, 1) := by decide +kernel
theorem dX5_slip_17 : decode cX5_slip 17 = .ok (.i2l, 1) := by decide +kernel
theorem dX5_slip_18 : decode cX5_slip 18 = .ok (.lmul, 1) := by decide +kernel
theorem dX5_slip_19 : decode cX5_slip 19 = .ok (.ladd, 1) := by decide +kernel
theorem dX5_slip_20 : decode cX5_slip 20 = .ok (.lconst 1, 1) := by decide +kernel
theorem dX5_slip_21 : decode cX5_slip 21 = .ok (.ladd, 1) := by decide +kernel
theorem dX5_slip_22 : decode cX5_slip 22 = .ok (.lstore_n 3, 1) := by decide +kernel
theorem dX5_slip_23 : decode cX5_slip 23 = .ok (.iconst 0, 1) := by decide +kernel
theorem dX5_slip_24 : decode cX5_slip 24 = .ok (.iload_n 1, 1) := by decide +kernel
theorem dX5_slip_25 : decode cX5_slip 25 = .ok (.iconst 5, 1) := by decide +kernel
theorem dX5_slip_26 : decode cX5_slip 26 = .ok (.invokestatic 82, 3) := by decide +kernel
theorem dX5_slip_29 : decode cX5_slip 29 = .ok (.invokestatic 88, 3) := by decide +kernel
theorem dX5_slip_32 : decode cX5_slip 32 = .ok (.istore 5, 2) := by decide +kernel
theorem dX5_slip_34 : decode cX5_slip 34 = .ok (.lload_n 3, 1) := by decide +kernel
theorem dX5_slip_35 : decode cX5_slip 35 = .ok (.lload_n 3, 1) := by decide +kernel
theorem dX5_slip_36 : decode cX5_slip 36 = .ok (.lmul, 1) := by decide +kernel
theorem dX5_slip_37 : decode cX5_slip 37 = .ok (.ldc2_w 91, 3) := by decide +kernel
theorem dX5_slip_40 : decode cX5_slip 40 = .ok (.lrem, 1) := by decide +kernel
theorem dX5_slip_41 : decode cX5_slip 41 = .ok (.iconst 2, 1) := by decide +kernel
theorem dX5_slip_42 : decode cX5_slip 42 = .ok (.iload 5, 2) := by decide +kernel
theorem dX5_slip_44 : decode cX5_slip 44 = .ok (.imul, 1) := by decide +kernel
theorem dX5_slip_45 : decode cX5_slip 45 = .ok (.iconst 1, 1) := by decide +kernel
theorem dX5_slip_46 : decode cX5_slip 46 = .ok (.iadd, 1) := by decide +kernel
theorem dX5_slip_47 : decode cX5_slip 47 = .ok (.i2l, 1) := by decide +kernel
theorem dX5_slip_48 : decode cX5_slip 48 = .ok (.lrem, 1) := by decide +kernel
theorem dX5_slip_49 : decode cX5_slip 49 = .ok (.l2i, 1) := by decide +kernel
theorem dX5_slip_50 : decode cX5_slip 50 = .ok (.iload 5, 2) := by decide +kernel
theorem dX5_slip_52 : decode cX5_slip 52 = .ok (.isub, 1) := by decide +kernel
theorem dX5_slip_53 : decode cX5_slip 53 = .ok (.ireturn, 1) := by decide +kernel
theorem dX5_cutLength_0 : decode cX5_cutLength 0 = .ok (.aload_n 0, 1) := by decide +kernel
theorem dX5_cutLength_1 : decode cX5_cutLength 1 = .ok (.getfield 18, 3) := by decide +kernel
theorem dX5_cutLength_4 : decode cX5_cutLength 4 = .ok (.iload_n 1, 1) := by decide +kernel
theorem dX5_cutLength_5 : decode cX5_cutLength 5 = .ok (.iaload, 1) := by decide +kernel
theorem dX5_cutLength_6 : decode cX5_cutLength 6 = .ok (.iload_n 2, 1) := by decide +kernel
theorem dX5_cutLength_7 : decode cX5_cutLength 7 = .ok (.iadd, 1) := by decide +kernel
theorem dX5_cutLength_8 : decode cX5_cutLength 8 = .ok (.aload_n 0, 1) := by decide +kernel
theorem dX5_cutLength_9 : decode cX5_cutLength 9 = .ok (.getfield 9, 3) := by decide +kernel
theorem dX5_cutLength_12 : decode cX5_cutLength 12 = .ok (.aload_n 0, 1) := by decide +kernel
theorem dX5_cutLength_13 : decode cX5_cutLength 13 = .ok (.getfield 15, 3) := by decide +kernel
theorem dX5_cutLength_16 : decode cX5_cutLength 16 = .ok (.iload_n 1, 1) := by decide +kernel
theorem dX5_cutLength_17 : decode cX5_cutLength 17 = .ok (.iaload, 1) := by decide +kernel
theorem dX5_cutLength_18 : decode cX5_cutLength 18 = .ok (.iaload, 1) := by decide +kernel
theorem dX5_cutLength_19 : decode cX5_cutLength 19 = .ok (.invokestatic 93, 3) := by decide +kernel
theorem dX5_cutLength_22 : decode cX5_cutLength 22 = .ok (.ireturn, 1) := by decide +kernel
theorem dX5_byInch_0 : decode cX5_byInch 0 = .ok (.iload_n 0, 1) := by decide +kernel
theorem dX5_byInch_1 : decode cX5_byInch 1 = .ok (.iload_n 1, 1) := by decide +kernel
theorem dX5_byInch_2 : decode cX5_byInch 2 = .ok (.imul, 1) := by decide +kernel
theorem dX5_byInch_3 : decode cX5_byInch 3 = .ok (.bipush 100, 2) := by decide +kernel
theorem dX5_byInch_5 : decode cX5_byInch 5 = .ok (.idiv, 1) := by decide +kernel
theorem dX5_byInch_6 : decode cX5_byInch 6 = .ok (.ireturn, 1) := by decide +kernel
theorem dX5_gapOf_0 : decode cX5_gapOf 0 = .ok (.aload_n 2, 1) := by decide +kernel
theorem dX5_gapOf_1 : decode cX5_gapOf 1 = .ok (.aload_n 0, 1) := by decide +kernel
theorem dX5_gapOf_2 : decode cX5_gapOf 2 = .ok (.getfield 24, 3) := by decide +kernel
theorem dX5_gapOf_5 : decode cX5_gapOf 5 = .ok (.iload_n 1, 1) := by decide +kernel
theorem dX5_gapOf_6 : decode cX5_gapOf 6 = .ok (.iaload, 1) := by decide +kernel
theorem dX5_gapOf_7 : decode cX5_gapOf 7 = .ok (.iaload, 1) := by decide +kernel
theorem dX5_gapOf_8 : decode cX5_gapOf 8 = .ok (.aload_n 2, 1) := by decide +kernel
theorem dX5_gapOf_9 : decode cX5_gapOf 9 = .ok (.aload_n 0, 1) := by decide +kernel
theorem dX5_gapOf_10 : decode cX5_gapOf 10 = .ok (.getfield 27, 3) := by decide +kernel
theorem dX5_gapOf_13 : decode cX5_gapOf 13 = .ok (.iload_n 1, 1) := by decide +kernel
theorem dX5_gapOf_14 : decode cX5_gapOf 14 = .ok (.iaload, 1) := by decide +kernel
theorem dX5_gapOf_15 : decode cX5_gapOf 15 = .ok (.iaload, 1) := by decide +kernel
theorem dX5_gapOf_16 : decode cX5_gapOf 16 = .ok (.isub, 1) := by decide +kernel
theorem dX5_gapOf_17 : decode cX5_gapOf 17 = .ok (.invokestatic 96, 3) := by decide +kernel
theorem dX5_gapOf_20 : decode cX5_gapOf 20 = .ok (.ireturn, 1) := by decide +kernel
theorem dX5_sumOfGaps_0 : decode cX5_sumOfGaps 0 = .ok (.iconst 0, 1) := by decide +kernel
theorem dX5_sumOfGaps_1 : decode cX5_sumOfGaps 1 = .ok (.istore_n 2, 1) := by decide +kernel
theorem dX5_sumOfGaps_2 : decode cX5_sumOfGaps 2 = .ok (.iconst 0, 1) := by decide +kernel
theorem dX5_sumOfGaps_3 : decode cX5_sumOfGaps 3 = .ok (.istore_n 3, 1) := by decide +kernel
theorem dX5_sumOfGaps_4 : decode cX5_sumOfGaps 4 = .ok (.iload_n 3, 1) := by decide +kernel
theorem dX5_sumOfGaps_5 : decode cX5_sumOfGaps 5 = .ok (.aload_n 0, 1) := by decide +kernel
theorem dX5_sumOfGaps_6 : decode cX5_sumOfGaps 6 = .ok (.getfield 37, 3) := by decide +kernel
theorem dX5_sumOfGaps_9 : decode cX5_sumOfGaps 9 = .ok (.if_icmp .ge 18, 3) := by decide +kernel
theorem dX5_sumOfGaps_12 : decode cX5_sumOfGaps 12 = .ok (.iload_n 2, 1) := by decide +kernel
theorem dX5_sumOfGaps_13 : decode cX5_sumOfGaps 13 = .ok (.aload_n 0, 1) := by decide +kernel
theorem dX5_sumOfGaps_14 : decode cX5_sumOfGaps 14 = .ok (.iload_n 3, 1) := by decide +kernel
theorem dX5_sumOfGaps_15 : decode cX5_sumOfGaps 15 = .ok (.aload_n 1, 1) := by decide +kernel
theorem dX5_sumOfGaps_16 : decode cX5_sumOfGaps 16 = .ok (.invokevirtual 100, 3) := by decide +kernel
theorem dX5_sumOfGaps_19 : decode cX5_sumOfGaps 19 = .ok (.iadd, 1) := by decide +kernel
theorem dX5_sumOfGaps_20 : decode cX5_sumOfGaps 20 = .ok (.istore_n 2, 1) := by decide +kernel
theorem dX5_sumOfGaps_21 : decode cX5_sumOfGaps 21 = .ok (.iinc 3 1, 3) := by decide +kernel
theorem dX5_sumOfGaps_24 : decode cX5_sumOfGaps 24 = .ok (.goto (-20), 3) := by decide +kernel
theorem dX5_sumOfGaps_27 : decode cX5_sumOfGaps 27 = .ok (.iload_n 2, 1) := by decide +kernel
theorem dX5_sumOfGaps_28 : decode cX5_sumOfGaps 28 = .ok (.ireturn, 1) := by decide +kernel
theorem dX5_isClosedBy_0 : decode cX5_isClosedBy 0 = .ok (.iconst 0, 1) := by decide +kernel
theorem dX5_isClosedBy_1 : decode cX5_isClosedBy 1 = .ok (.istore_n 2, 1) := by decide +kernel
theorem dX5_isClosedBy_2 : decode cX5_isClosedBy 2 = .ok (.iload_n 2, 1) := by decide +kernel
theorem dX5_isClosedBy_3 : decode cX5_isClosedBy 3 = .ok (.aload_n 0, 1) := by decide +kernel
theorem dX5_isClosedBy_4 : decode cX5_isClosedBy 4 = .ok (.getfield 37, 3) := by decide +kernel
theorem dX5_isClosedBy_7 : decode cX5_isClosedBy 7 = .ok (.if_icmp .ge 24, 3) := by decide +kernel
theorem dX5_isClosedBy_10 : decode cX5_isClosedBy 10 = .ok (.aload_n 0, 1) := by decide +kernel
theorem dX5_isClosedBy_11 : decode cX5_isClosedBy 11 = .ok (.iload_n 2, 1) := by decide +kernel
theorem dX5_isClosedBy_12 : decode cX5_isClosedBy 12 = .ok (.aload_n 1, 1) := by decide +kernel
theorem dX5_isClosedBy_13 : decode cX5_isClosedBy 13 = .ok (.invokevirtual 100, 3) := by decide +kernel
theorem dX5_isClosedBy_16 : decode cX5_isClosedBy 16 = .ok (.aload_n 0, 1) := by decide +kernel
theorem dX5_isClosedBy_17 : decode cX5_isClosedBy 17 = .ok (.getfield 40, 3) := by decide +kernel
theorem dX5_isClosedBy_20 : decode cX5_isClosedBy 20 = .ok (.if_icmp .le 5, 3) := by decide +kernel
theorem dX5_isClosedBy_23 : decode cX5_isClosedBy 23 = .ok (.iconst 0, 1) := by decide +kernel
theorem dX5_isClosedBy_24 : decode cX5_isClosedBy 24 = .ok (.ireturn, 1) := by decide +kernel
theorem dX5_isClosedBy_25 : decode cX5_isClosedBy 25 = .ok (.iinc 2 1, 3) := by decide +kernel
theorem dX5_isClosedBy_28 : decode cX5_isClosedBy 28 = .ok (.goto (-26), 3) := by decide +kernel
theorem dX5_isClosedBy_31 : decode cX5_isClosedBy 31 = .ok (.iconst 1, 1) := by decide +kernel
theorem dX5_isClosedBy_32 : decode cX5_isClosedBy 32 = .ok (.ireturn, 1) := by decide +kernel
theorem dX5_sumOfSet_0 : decode cX5_sumOfSet 0 = .ok (.iconst 0, 1) := by decide +kernel
theorem dX5_sumOfSet_1 : decode cX5_sumOfSet 1 = .ok (.istore_n 3, 1) := by decide +kernel
theorem dX5_sumOfSet_2 : decode cX5_sumOfSet 2 = .ok (.iconst 0, 1) := by decide +kernel
theorem dX5_sumOfSet_3 : decode cX5_sumOfSet 3 = .ok (.istore 4, 2) := by decide +kernel
theorem dX5_sumOfSet_5 : decode cX5_sumOfSet 5 = .ok (.iload 4, 2) := by decide +kernel
theorem dX5_sumOfSet_7 : decode cX5_sumOfSet 7 = .ok (.aload_n 0, 1) := by decide +kernel
theorem dX5_sumOfSet_8 : decode cX5_sumOfSet 8 = .ok (.getfield 34, 3) := by decide +kernel
theorem dX5_sumOfSet_11 : decode cX5_sumOfSet 11 = .ok (.if_icmp .ge 30, 3) := by decide +kernel
theorem dX5_sumOfSet_14 : decode cX5_sumOfSet 14 = .ok (.iload_n 3, 1) := by decide +kernel
theorem dX5_sumOfSet_15 : decode cX5_sumOfSet 15 = .ok (.iload_n 2, 1) := by decide +kernel
theorem dX5_sumOfSet_16 : decode cX5_sumOfSet 16 = .ok (.iload 4, 2) := by decide +kernel
theorem dX5_sumOfSet_18 : decode cX5_sumOfSet 18 = .ok (.ishr, 1) := by decide +kernel
theorem dX5_sumOfSet_19 : decode cX5_sumOfSet 19 = .ok (.iconst 1, 1) := by decide +kernel
theorem dX5_sumOfSet_20 : decode cX5_sumOfSet 20 = .ok (.iand, 1) := by decide +kernel
theorem dX5_sumOfSet_21 : decode cX5_sumOfSet 21 = .ok (.iconst 1, 1) := by decide +kernel
theorem dX5_sumOfSet_22 : decode cX5_sumOfSet 22 = .ok (.if_icmp .ne 10, 3) := by decide +kernel
theorem dX5_sumOfSet_25 : decode cX5_sumOfSet 25 = .ok (.aload_n 1, 1) := by decide +kernel
theorem dX5_sumOfSet_26 : decode cX5_sumOfSet 26 = .ok (.iload 4, 2) := by decide +kernel
theorem dX5_sumOfSet_28 : decode cX5_sumOfSet 28 = .ok (.iaload, 1) := by decide +kernel
theorem dX5_sumOfSet_29 : decode cX5_sumOfSet 29 = .ok (.goto 4, 3) := by decide +kernel
theorem dX5_sumOfSet_32 : decode cX5_sumOfSet 32 = .ok (.iconst 0, 1) := by decide +kernel
theorem dX5_sumOfSet_33 : decode cX5_sumOfSet 33 = .ok (.iadd, 1) := by decide +kernel
theorem dX5_sumOfSet_34 : decode cX5_sumOfSet 34 = .ok (.istore_n 3, 1) := by decide +kernel
theorem dX5_sumOfSet_35 : decode cX5_sumOfSet 35 = .ok (.iinc 4 1, 3) := by decide +kernel
theorem dX5_sumOfSet_38 : decode cX5_sumOfSet 38 = .ok (.goto (-33), 3) := by decide +kernel
theorem dX5_sumOfSet_41 : decode cX5_sumOfSet 41 = .ok (.iload_n 3, 1) := by decide +kernel
theorem dX5_sumOfSet_42 : decode cX5_sumOfSet 42 = .ok (.ireturn, 1) := by decide +kernel
theorem dX6_init_0 : decode cX6_init 0 = .ok (.aload_n 0, 1) := by decide +kernel
theorem dX6_init_1 : decode cX6_init 1 = .ok (.invokespecial 3, 3) := by decide +kernel
theorem dX6_init_4 : decode cX6_init 4 = .ok (.aload_n 0, 1) := by decide +kernel
theorem dX6_init_5 : decode cX6_init 5 = .ok (.bipush 10, 2) := by decide +kernel
theorem dX6_init_7 : decode cX6_init 7 = .ok (.newarray .int, 2) := by decide +kernel
theorem dX6_init_9 : decode cX6_init 9 = .ok (.putfield 9, 3) := by decide +kernel
theorem dX6_init_12 : decode cX6_init 12 = .ok (.aload_n 0, 1) := by decide +kernel
theorem dX6_init_13 : decode cX6_init 13 = .ok (.bipush 10, 2) := by decide +kernel
theorem dX6_init_15 : decode cX6_init 15 = .ok (.newarray .int, 2) := by decide +kernel
theorem dX6_init_17 : decode cX6_init 17 = .ok (.putfield 15, 3) := by decide +kernel
theorem dX6_init_20 : decode cX6_init 20 = .ok (.aload_n 0, 1) := by decide +kernel
theorem dX6_init_21 : decode cX6_init 21 = .ok (.bipush 10, 2) := by decide +kernel
theorem dX6_init_23 : decode cX6_init 23 = .ok (.newarray .int, 2) := by decide +kernel
theorem dX6_init_25 : decode cX6_init 25 = .ok (.putfield 18, 3) := by decide +kernel
theorem dX6_init_28 : decode cX6_init 28 = .ok (.aload_n 0, 1) := by decide +kernel
theorem dX6_init_29 : decode cX6_init 29 = .ok (.iconst 0, 1) := by decide +kernel
theorem dX6_init_30 : decode cX6_init 30 = .ok (.putfield 21, 3) := by decide +kernel
theorem dX6_init_33 : decode cX6_init 33 = .ok (.return_, 1) := by decide +kernel
theorem dX6_add_0 : decode cX6_add 0 = .ok (.aload_n 0, 1) := by decide +kernel
theorem dX6_add_1 : decode cX6_add 1 = .ok (.getfield 21, 3) := by decide +kernel
theorem dX6_add_4 : decode cX6_add 4 = .ok (.bipush 10, 2) := by decide +kernel
theorem dX6_add_6 : decode cX6_add 6 = .ok (.if_icmp .ge 43, 3) := by decide +kernel
theorem dX6_add_9 : decode cX6_add 9 = .ok (.aload_n 0, 1) := by decide +kernel
theorem dX6_add_10 : decode cX6_add 10 = .ok (.getfield 9, 3) := by decide +kernel
theorem dX6_add_13 : decode cX6_add 13 = .ok (.aload_n 0, 1) := by decide +kernel
theorem dX6_add_14 : decode cX6_add 14 = .ok (.getfield 21, 3) := by decide +kernel
theorem dX6_add_17 : decode cX6_add 17 = .ok (.iload_n 1, 1) := by decide +kernel
theorem dX6_add_18 : decode cX6_add 18 = .ok (.iastore, 1) := by decide +kernel
theorem dX6_add_19 : decode cX6_add 19 = .ok (.aload_n 0, 1) := by decide +kernel
theorem dX6_add_20 : decode cX6_add 20 = .ok (.getfield 15, 3) := by decide +kernel
theorem dX6_add_23 : decode cX6_add 23 = .ok (.aload_n 0, 1) := by decide +kernel
theorem dX6_add_24 : decode cX6_add 24 = .ok (.getfield 21, 3) := by decide +kernel
theorem dX6_add_27 : decode cX6_add 27 = .ok (.iload_n 2, 1) := by decide +kernel
theorem dX6_add_28 : decode cX6_add 28 = .ok (.iastore, 1) := by decide +kernel
theorem dX6_add_29 : decode cX6_add 29 = .ok (.aload_n 0, 1) := by decide +kernel
theorem dX6_add_30 : decode cX6_add 30 = .ok (.getfield 18, 3) := by decide +kernel
theorem dX6_add_33 : decode cX6_add 33 = .ok (.aload_n 0, 1) := by decide +kernel
theorem dX6_add_34 : decode cX6_add 34 = .ok (.getfield 21, 3) := by decide +kernel
theorem dX6_add_37 : decode cX6_add 37 = .ok (.iload_n 3, 1) := by decide +kernel
theorem dX6_add_38 : decode cX6_add 38 = .ok (.iastore, 1) := by decide +kernel
theorem dX6_add_39 : decode cX6_add 39 = .ok (.aload_n 0, 1) := by decide +kernel
theorem dX6_add_40 : decode cX6_add 40 = .ok (.dup, 1) := by decide +kernel
theorem dX6_add_41 : decode cX6_add 41 = .ok (.getfield 21, 3) := by decide +kernel
theorem dX6_add_44 : decode cX6_add 44 = .ok (.iconst 1, 1) := by decide +kernel
theorem dX6_add_45 : decode cX6_add 45 = .ok (.iadd, 1) := by decide +kernel
theorem dX6_add_46 : decode cX6_add 46 = .ok (.putfield 21, 3) := by decide +kernel
theorem dX6_add_49 : decode cX6_add 49 = .ok (.return_, 1) := by decide +kernel
theorem dX6_agreeWith_0 : decode cX6_agreeWith 0 = .ok (.iconst 0, 1) := by decide +kernel
theorem dX6_agreeWith_1 : decode cX6_agreeWith 1 = .ok (.istore_n 3, 1) := by decide +kernel
theorem dX6_agreeWith_2 : decode cX6_agreeWith 2 = .ok (.iload_n 3, 1) := by decide +kernel
theorem dX6_agreeWith_3 : decode cX6_agreeWith 3 = .ok (.aload_n 0, 1) := by decide +kernel
theorem dX6_agreeWith_4 : decode cX6_agreeWith 4 = .ok (.getfield 21, 3) := by decide +kernel
theorem dX6_agreeWith_7 : decode cX6_agreeWith 7 = .ok (.if_icmp .ge 40, 3) := by decide +kernel
theorem dX6_agreeWith_10 : decode cX6_agreeWith 10 = .ok (.aload_n 0, 1) := by decide +kernel
theorem dX6_agreeWith_11 : decode cX6_agreeWith 11 = .ok (.getfield 9, 3) := by decide +kernel
theorem dX6_agreeWith_14 : decode cX6_agreeWith 14 = .ok (.iload_n 3, 1) := by decide +kernel
theorem dX6_agreeWith_15 : decode cX6_agreeWith 15 = .ok (.iaload, 1) := by decide +kernel
theorem dX6_agreeWith_16 : decode cX6_agreeWith 16 = .ok (.iload_n 1, 1) := by decide +kernel
theorem dX6_agreeWith_17 : decode cX6_agreeWith 17 = .ok (.if_icmp .ne 24, 3) := by decide +kernel
theorem dX6_agreeWith_20 : decode cX6_agreeWith 20 = .ok (.aload_n 0, 1) := by decide +kernel
theorem dX6_agreeWith_21 : decode cX6_agreeWith 21 = .ok (.getfield 15, 3) := by decide +kernel
theorem dX6_agreeWith_24 : decode cX6_agreeWith 24 = .ok (.iload_n 3, 1) := by decide +kernel
theorem dX6_agreeWith_25 : decode cX6_agreeWith 25 = .ok (.iaload, 1) := by decide +kernel
theorem dX6_agreeWith_26 : decode cX6_agreeWith 26 = .ok (.iload_n 2, 1) := by decide +kernel
theorem dX6_agreeWith_27 : decode cX6_agreeWith 27 = .ok (.invokestatic 25, 3) := by decide +kernel
theorem dX6_agreeWith_30 : decode cX6_agreeWith 30 = .ok (.aload_n 0, 1) := by decide +kernel
theorem dX6_agreeWith_31 : decode cX6_agreeWith 31 = .ok (.getfield 18, 3) := by decide +kernel
theorem dX6_agreeWith_34 : decode cX6_agreeWith 34 = .ok (.iload_n 3, 1) := by decide +kernel
theorem dX6_agreeWith_35 : decode cX6_agreeWith 35 = .ok (.iaload, 1) := by decide +kernel
theorem dX6_agreeWith_36 : decode cX6_agreeWith 36 = .ok (.if_icmp .eq 5, 3) := by decide +kernel
theorem dX6_agreeWith_39 : decode cX6_agreeWith 39 = .ok (.iconst 0, 1) := by decide +kernel
theorem dX6_agreeWith_40 : decode cX6_agreeWith 40 = .ok (.ireturn, 1) := by decide +kernel
theorem dX6_agreeWith_41 : decode cX6_agreeWith 41 = .ok (.iinc 3 1, 3) := by decide +kernel
theorem dX6_agreeWith_44 : decode cX6_agreeWith 44 = .ok (.goto (-42), 3) := by decide +kernel
theorem dX6_agreeWith_47 : decode cX6_agreeWith 47 = .ok (.iconst 1, 1) := by decide +kernel
theorem dX6_agreeWith_48 : decode cX6_agreeWith 48 = .ok (.ireturn, 1) := by decide +kernel
theorem dX7_init_0 : decode cX7_init 0 = .ok (.aload_n 0, 1) := by decide +kernel
theorem dX7_init_1 : decode cX7_init 1 = .ok (.invokespecial 3, 3) := by decide +kernel
theorem dX7_init_4 : decode cX7_init 4 = .ok (.aload_n 0, 1) := by decide +kernel
theorem dX7_init_5 : decode cX7_init 5 = .ok (.sipush 300, 3) := by decide +kernel
theorem dX7_init_8 : decode cX7_init 8 = .ok (.newarray .byte, 2) := by decide +kernel
theorem dX7_init_10 : decode cX7_init 10 = .ok (.putfield 9, 3) := by decide +kernel
theorem dX7_init_13 : decode cX7_init 13 = .ok (.aload_n 0, 1) := by decide +kernel
theorem dX7_init_14 : decode cX7_init 14 = .ok (.iconst 3, 1) := by decide +kernel
theorem dX7_init_15 : decode cX7_init 15 = .ok (.newarray .int, 2) := by decide +kernel
theorem dX7_init_17 : decode cX7_init 17 = .ok (.putfield 15, 3) := by decide +kernel
theorem dX7_init_20 : decode cX7_init 20 = .ok (.aload_n 0, 1) := by decide +kernel
theorem dX7_init_21 : decode cX7_init 21 = .ok (.iconst 0, 1) := by decide +kernel
theorem dX7_init_22 : decode cX7_init 22 = .ok (.putfield 19, 3) := by decide +kernel
theorem dX7_init_25 : decode cX7_init 25 = .ok (.return_, 1) := by decide +kernel
theorem dX7_append_0 : decode cX7_append 0 = .ok (.aload_n 0, 1) := by decide +kernel
theorem dX7_append_1 : decode cX7_append 1 = .ok (.getfield 19, 3) := by decide +kernel
theorem dX7_append_4 : decode cX7_append 4 = .ok (.sipush 300, 3) := by decide +kernel
theorem dX7_append_7 : decode cX7_append 7 = .ok (.if_icmp .ge 24, 3) := by decide +kernel
theorem dX7_append_10 : decode cX7_append 10 = .ok (.aload_n 0, 1) := by decide +kernel
theorem dX7_append_11 : decode cX7_append 11 = .ok (.getfield 9, 3) := by decide +kernel
theorem dX7_append_14 : decode cX7_append 14 = .ok (.aload_n 0, 1) := by decide +kernel
theorem dX7_append_15 : decode cX7_append 15 = .ok (.getfield 19, 3) := by decide +kernel
theorem dX7_append_18 : decode cX7_append 18 = .ok (.iload_n 1, 1) := by decide +kernel
theorem dX7_append_19 : decode cX7_append 19 = .ok (.i2b, 1) := by decide +kernel
theorem dX7_append_20 : decode cX7_append 20 = .ok (.bastore, 1) := by decide +kernel
theorem dX7_append_21 : decode cX7_append 21 = .ok (.aload_n 0, 1) := by decide +kernel
theorem dX7_append_22 : decode cX7_append 22 = .ok (.dup, 1) := by decide +kernel
theorem dX7_append_23 : decode cX7_append 23 = .ok (.getfield 19, 3) := by decide +kernel
theorem dX7_append_26 : decode cX7_append 26 = .ok (.iconst 1, 1) := by decide +kernel
theorem dX7_append_27 : decode cX7_append 27 = .ok (.iadd, 1) := by decide +kernel
theorem dX7_append_28 : decode cX7_append 28 = .ok (.putfield 19, 3) := by decide +kernel
theorem dX7_append_31 : decode cX7_append 31 = .ok (.return_, 1) := by decide +kernel
theorem dX7_readInto_0 : decode cX7_readInto 0 = .ok (.aload_n 1, 1) := by decide +kernel
theorem dX7_readInto_1 : decode cX7_readInto 1 = .ok (.invokevirtual 23, 3) := by decide +kernel
theorem dX7_readInto_4 : decode cX7_readInto 4 = .ok (.iconst 0, 1) := by decide +kernel
theorem dX7_readInto_5 : decode cX7_readInto 5 = .ok (.istore_n 2, 1) := by decide +kernel
theorem dX7_readInto_6 : decode cX7_readInto 6 = .ok (.iconst 0, 1) := by decide +kernel
theorem dX7_readInto_7 : decode cX7_readInto 7 = .ok (.istore_n 3, 1) := by decide +kernel
theorem dX7_readInto_8 : decode cX7_readInto 8 = .ok (.iload_n 3, 1) := by decide +kernel
theorem dX7_readInto_9 : decode cX7_readInto 9 = .ok (.sipush 300, 3) := by decide +kernel
theorem dX7_readInto_12 : decode cX7_readInto 12 = .ok (.if_icmp .ge 60, 3) := by decide +kernel
theorem dX7_readInto_15 : decode cX7_readInto 15 = .ok (.iload_n 2, 1) := by decide +kernel
theorem dX7_readInto_16 : decode cX7_readInto 16 = .ok (.aload_n 0, 1) := by decide +kernel
theorem dX7_readInto_17 : decode cX7_readInto 17 = .ok (.getfield 19, 3) := by decide +kernel
theorem dX7_readInto_20 : decode cX7_readInto 20 = .ok (.if_icmp .ge 52, 3) := by decide +kernel
theorem dX7_readInto_23 : decode cX7_readInto 23 = .ok (.aload_n 0, 1) := by decide +kernel
theorem dX7_readInto_24 : decode cX7_readInto 24 = .ok (.iload_n 2, 1) := by decide +kernel
theorem dX7_readInto_25 : decode cX7_readInto 25 = .ok (.invokevirtual 28, 3) := by decide +kernel
theorem dX7_readInto_28 : decode cX7_readInto 28 = .ok (.istore 4, 2) := by decide +kernel
theorem dX7_readInto_30 : decode cX7_readInto 30 = .ok (.aload_n 0, 1) := by decide +kernel
theorem dX7_readInto_31 : decode cX7_readInto 31 = .ok (.iload_n 2, 1) := by decide +kernel
theorem dX7_readInto_32 : decode cX7_readInto 32 = .ok (.iload 4, 2) := by decide +kernel
theorem dX7_readInto_34 : decode cX7_readInto 34 = .ok (.invokestatic 32, 3) := by decide +kernel
theorem dX7_readInto_37 : decode cX7_readInto 37 = .ok (.invokevirtual 35, 3) := by decide +kernel
theorem dX7_readInto_40 : decode cX7_readInto 40 = .ok (.istore 5, 2) := by decide +kernel
theorem dX7_readInto_42 : decode cX7_readInto 42 = .ok (.iload 5, 2) := by decide +kernel
theorem dX7_readInto_44 : decode cX7_readInto 44 = .ok (.iconst (-1), 1) := by decide +kernel
theorem dX7_readInto_45 : decode cX7_readInto 45 = .ok (.if_icmp .eq 16, 3) := by decide +kernel
theorem dX7_readInto_48 : decode cX7_readInto 48 = .ok (.aload_n 1, 1) := by decide +kernel
theorem dX7_readInto_49 : decode cX7_readInto 49 = .ok (.iload 4, 2) := by decide +kernel
theorem dX7_readInto_51 : decode cX7_readInto 51 = .ok (.aload_n 0, 1) := by decide +kernel
theorem dX7_readInto_52 : decode cX7_readInto 52 = .ok (.getfield 15, 3) := by decide +kernel
theorem dX7_readInto_55 : decode cX7_readInto 55 = .ok (.invokevirtual 39, 3) := by decide +kernel
theorem dX7_readInto_58 : decode cX7_readInto 58 = .ok (.ifCond .ne 5, 3) := by decide +kernel
theorem dX7_readInto_61 : decode cX7_readInto 61 = .ok (.iload_n 2, 1) := by decide +kernel
theorem dX7_readInto_62 : decode cX7_readInto 62 = .ok (.ireturn, 1) := by decide +kernel
theorem dX7_readInto_63 : decode cX7_readInto 63 = .ok (.iload 5, 2) := by decide +kernel
theorem dX7_readInto_65 : decode cX7_readInto 65 = .ok (.istore_n 2, 1) := by decide +kernel
theorem dX7_readInto_66 : decode cX7_readInto 66 = .ok (.iinc 3 1, 3) := by decide +kernel
theorem dX7_readInto_69 : decode cX7_readInto 69 = .ok (.goto (-61), 3) := by decide +kernel
theorem dX7_readInto_72 : decode cX7_readInto 72 = .ok (.bipush (-4), 2) := by decide +kernel
theorem dX7_readInto_74 : decode cX7_readInto 74 = .ok (.ireturn, 1) := by decide +kernel
theorem dX7_numbersBehind_0 : decode cX7_numbersBehind 0 = .ok (.iload_n 0, 1) := by decide +kernel
theorem dX7_numbersBehind_1 : decode cX7_numbersBehind 1 = .ok (.lookupswitch 65 #[(99, 59), (103, 59), (112, 63), (115, 61), (116, 59), (122, 59)], 59) := by decide +kernel
theorem dX7_numbersBehind_60 : decode cX7_numbersBehind 60 = .ok (.iconst 1, 1) := by decide +kernel
theorem dX7_numbersBehind_61 : decode cX7_numbersBehind 61 = .ok (.ireturn, 1) := by decide +kernel
theorem dX7_numbersBehind_62 : decode cX7_numbersBehind 62 = .ok (.iconst 2, 1) := by decide +kernel
theorem dX7_numbersBehind_63 : decode cX7_numbersBehind 63 = .ok (.ireturn, 1) := by decide +kernel
theorem dX7_numbersBehind_64 : decode cX7_numbersBehind 64 = .ok (.iconst 3, 1) := by decide +kernel
theorem dX7_numbersBehind_65 : decode cX7_numbersBehind 65 = .ok (.ireturn, 1) := by decide +kernel
theorem dX7_numbersBehind_66 : decode cX7_numbersBehind 66 = .ok (.iconst 0, 1) := by decide +kernel
theorem dX7_numbersBehind_67 : decode cX7_numbersBehind 67 = .ok (.ireturn, 1) := by decide +kernel
theorem dX7_readItem_0 : decode cX7_readItem 0 = .ok (.iload_n 2, 1) := by decide +kernel
theorem dX7_readItem_1 : decode cX7_readItem 1 = .ok (.ifCond .ne 5, 3) := by decide +kernel
theorem dX7_readItem_4 : decode cX7_readItem 4 = .ok (.iconst (-1), 1) := by decide +kernel
theorem dX7_readItem_5 : decode cX7_readItem 5 = .ok (.ireturn, 1) := by decide +kernel
theorem dX7_readItem_6 : decode cX7_readItem 6 = .ok (.iload_n 1, 1) := by decide +kernel
theorem dX7_readItem_7 : decode cX7_readItem 7 = .ok (.iconst 1, 1) := by decide +kernel
theorem dX7_readItem_8 : decode cX7_readItem 8 = .ok (.iadd, 1) := by decide +kernel
theorem dX7_readItem_9 : decode cX7_readItem 9 = .ok (.istore_n 3, 1) := by decide +kernel
theorem dX7_readItem_10 : decode cX7_readItem 10 = .ok (.iconst 0, 1) := by decide +kernel
theorem dX7_readItem_11 : decode cX7_readItem 11 = .ok (.istore 4, 2) := by decide +kernel
theorem dX7_readItem_13 : decode cX7_readItem 13 = .ok (.iload 4, 2) := by decide +kernel
theorem dX7_readItem_15 : decode cX7_readItem 15 = .ok (.iload_n 2, 1) := by decide +kernel
theorem dX7_readItem_16 : decode cX7_readItem 16 = .ok (.if_icmp .ge 50, 3) := by decide +kernel
theorem dX7_readItem_19 : decode cX7_readItem 19 = .ok (.aload_n 0, 1) := by decide +kernel
theorem dX7_readItem_20 : decode cX7_readItem 20 = .ok (.iload_n 3, 1) := by decide +kernel
theorem dX7_readItem_21 : decode cX7_readItem 21 = .ok (.iload 4, 2) := by decide +kernel
theorem dX7_readItem_23 : decode cX7_readItem 23 = .ok (.invokevirtual 43, 3) := by decide +kernel
theorem dX7_readItem_26 : decode cX7_readItem 26 = .ok (.istore_n 3, 1) := by decide +kernel
theorem dX7_readItem_27 : decode cX7_readItem 27 = .ok (.iload_n 3, 1) := by decide +kernel
theorem dX7_readItem_28 : decode cX7_readItem 28 = .ok (.iconst (-1), 1) := by decide +kernel
theorem dX7_readItem_29 : decode cX7_readItem 29 = .ok (.if_icmp .eq 26, 3) := by decide +kernel
theorem dX7_readItem_32 : decode cX7_readItem 32 = .ok (.aload_n 0, 1) := by decide +kernel
theorem dX7_readItem_33 : decode cX7_readItem 33 = .ok (.iload_n 3, 1) := by decide +kernel
theorem dX7_readItem_34 : decode cX7_readItem 34 = .ok (.invokevirtual 28, 3) := by decide +kernel
theorem dX7_readItem_37 : decode cX7_readItem 37 = .ok (.iload 4, 2) := by decide +kernel
theorem dX7_readItem_39 : decode cX7_readItem 39 = .ok (.iconst 1, 1) := by decide +kernel
theorem dX7_readItem_40 : decode cX7_readItem 40 = .ok (.iadd, 1) := by decide +kernel
theorem dX7_readItem_41 : decode cX7_readItem 41 = .ok (.iload_n 2, 1) := by decide +kernel
theorem dX7_readItem_42 : decode cX7_readItem 42 = .ok (.if_icmp .ge 8, 3) := by decide +kernel
theorem dX7_readItem_45 : decode cX7_readItem 45 = .ok (.bipush 44, 2) := by decide +kernel
theorem dX7_readItem_47 : decode cX7_readItem 47 = .ok (.goto 5, 3) := by decide +kernel
theorem dX7_readItem_50 : decode cX7_readItem 50 = .ok (.bipush 59, 2) := by decide +kernel
theorem dX7_readItem_52 : decode cX7_readItem 52 = .ok (.if_icmp .eq 5, 3) := by decide +kernel
theorem dX7_readItem_55 : decode cX7_readItem 55 = .ok (.iconst (-1), 1) := by decide +kernel
theorem dX7_readItem_56 : decode cX7_readItem 56 = .ok (.ireturn, 1) := by decide +kernel
theorem dX7_readItem_57 : decode cX7_readItem 57 = .ok (.iinc 3 1, 3) := by decide +kernel
theorem dX7_readItem_60 : decode cX7_readItem 60 = .ok (.iinc 4 1, 3) := by decide +kernel
theorem dX7_readItem_63 : decode cX7_readItem 63 = .ok (.goto (-50), 3) := by decide +kernel
theorem dX7_readItem_66 : decode cX7_readItem 66 = .ok (.iload_n 3, 1) := by decide +kernel
theorem dX7_readItem_67 : decode cX7_readItem 67 = .ok (.ireturn, 1) := by decide +kernel
theorem dX7_readNumber_0 : decode cX7_readNumber 0 = .ok (.iload_n 1, 1) := by decide +kernel
theorem dX7_readNumber_1 : decode cX7_readNumber 1 = .ok (.istore_n 3, 1) := by decide +kernel
theorem dX7_readNumber_2 : decode cX7_readNumber 2 = .ok (.iconst 0, 1) := by decide +kernel
theorem dX7_readNumber_3 : decode cX7_readNumber 3 = .ok (.istore 4, 2) := by decide +kernel
theorem dX7_readNumber_5 : decode cX7_readNumber 5 = .ok (.iload_n 3, 1) := by decide +kernel
theorem dX7_readNumber_6 : decode cX7_readNumber 6 = .ok (.iload_n 1, 1) := by decide +kernel
theorem dX7_readNumber_7 : decode cX7_readNumber 7 = .ok (.iconst 3, 1) := by decide +kernel
theorem dX7_readNumber_8 : decode cX7_readNumber 8 = .ok (.iadd, 1) := by decide +kernel
theorem dX7_readNumber_9 : decode cX7_readNumber 9 = .ok (.if_icmp .ge 45, 3) := by decide +kernel
theorem dX7_readNumber_12 : decode cX7_readNumber 12 = .ok (.aload_n 0, 1) := by decide +kernel
theorem dX7_readNumber_13 : decode cX7_readNumber 13 = .ok (.iload_n 3, 1) := by decide +kernel
theorem dX7_readNumber_14 : decode cX7_readNumber 14 = .ok (.invokevirtual 28, 3) := by decide +kernel
theorem dX7_readNumber_17 : decode cX7_readNumber 17 = .ok (.bipush 48, 2) := by decide +kernel
theorem dX7_readNumber_19 : decode cX7_readNumber 19 = .ok (.if_icmp .lt 35, 3) := by decide +kernel
theorem dX7_readNumber_22 : decode cX7_readNumber 22 = .ok (.aload_n 0, 1) := by decide +kernel
theorem dX7_readNumber_23 : decode cX7_readNumber 23 = .ok (.iload_n 3, 1) := by decide +kernel
theorem dX7_readNumber_24 : decode cX7_readNumber 24 = .ok (.invokevirtual 28, 3) := by decide +kernel
theorem dX7_readNumber_27 : decode cX7_readNumber 27 = .ok (.bipush 57, 2) := by decide +kernel
theorem dX7_readNumber_29 : decode cX7_readNumber 29 = .ok (.if_icmp .gt 25, 3) := by decide +kernel
theorem dX7_readNumber_32 : decode cX7_readNumber 32 = .ok (.bipush 10, 2) := by decide +kernel
theorem dX7_readNumber_34 : decode cX7_readNumber 34 = .ok (.iload 4, 2) := by decide +kernel
theorem dX7_readNumber_36 : decode cX7_readNumber 36 = .ok (.imul, 1) := by decide +kernel
theorem dX7_readNumber_37 : decode cX7_readNumber 37 = .ok (.aload_n 0, 1) := by decide +kernel
theorem dX7_readNumber_38 : decode cX7_readNumber 38 = .ok (.iload_n 3, 1) := by decide +kernel
theorem dX7_readNumber_39 : decode cX7_readNumber 39 = .ok (.invokevirtual 28, 3) := by decide +kernel
theorem dX7_readNumber_42 : decode cX7_readNumber 42 = .ok (.iadd, 1) := by decide +kernel
theorem dX7_readNumber_43 : decode cX7_readNumber 43 = .ok (.bipush 48, 2) := by decide +kernel
theorem dX7_readNumber_45 : decode cX7_readNumber 45 = .ok (.isub, 1) := by decide +kernel
theorem dX7_readNumber_46 : decode cX7_readNumber 46 = .ok (.istore 4, 2) := by decide +kernel
theorem dX7_readNumber_48 : decode cX7_readNumber 48 = .ok (.iinc 3 1, 3) := by decide +kernel
theorem dX7_readNumber_51 : decode cX7_readNumber 51 = .ok (.goto (-46), 3) := by decide +kernel
theorem dX7_readNumber_54 : decode cX7_readNumber 54 = .ok (.iload_n 3, 1) := by decide +kernel
theorem dX7_readNumber_55 : decode cX7_readNumber 55 = .ok (.iload_n 1, 1) := by decide +kernel
theorem dX7_readNumber_56 : decode cX7_readNumber 56 = .ok (.if_icmp .eq 12, 3) := by decide +kernel
theorem dX7_readNumber_59 : decode cX7_readNumber 59 = .ok (.iload_n 2, 1) := by decide +kernel
theorem dX7_readNumber_60 : decode cX7_readNumber 60 = .ok (.ifCond .lt 8, 3) := by decide +kernel
theorem dX7_readNumber_63 : decode cX7_readNumber 63 = .ok (.iload_n 2, 1) := by decide +kernel
theorem dX7_readNumber_64 : decode cX7_readNumber 64 = .ok (.iconst 3, 1) := by decide +kernel
theorem dX7_readNumber_65 : decode cX7_readNumber 65 = .ok (.if_icmp .lt 5, 3) := by decide +kernel
theorem dX7_readNumber_68 : decode cX7_readNumber 68 = .ok (.iconst (-1), 1) := by decide +kernel
theorem dX7_readNumber_69 : decode cX7_readNumber 69 = .ok (.ireturn, 1) := by decide +kernel
theorem dX7_readNumber_70 : decode cX7_readNumber 70 = .ok (.aload_n 0, 1) := by decide +kernel
theorem dX7_readNumber_71 : decode cX7_readNumber 71 = .ok (.getfield 15, 3) := by decide +kernel
theorem dX7_readNumber_74 : decode cX7_readNumber 74 = .ok (.iload_n 2, 1) := by decide +kernel
theorem dX7_readNumber_75 : decode cX7_readNumber 75 = .ok (.iload 4, 2) := by decide +kernel
theorem dX7_readNumber_77 : decode cX7_readNumber 77 = .ok (.iastore, 1) := by decide +kernel
theorem dX7_readNumber_78 : decode cX7_readNumber 78 = .ok (.iload_n 3, 1) := by decide +kernel
theorem dX7_readNumber_79 : decode cX7_readNumber 79 = .ok (.ireturn, 1) := by decide +kernel
theorem dX7_byteAt_0 : decode cX7_byteAt 0 = .ok (.iload_n 1, 1) := by decide +kernel
theorem dX7_byteAt_1 : decode cX7_byteAt 1 = .ok (.ifCond .lt 24, 3) := by decide +kernel
theorem dX7_byteAt_4 : decode cX7_byteAt 4 = .ok (.iload_n 1, 1) := by decide +kernel
theorem dX7_byteAt_5 : decode cX7_byteAt 5 = .ok (.aload_n 0, 1) := by decide +kernel
theorem dX7_byteAt_6 : decode cX7_byteAt 6 = .ok (.getfield 19, 3) := by decide +kernel
theorem dX7_byteAt_9 : decode cX7_byteAt 9 = .ok (.if_icmp .ge 16, 3) := by decide +kernel
theorem dX7_byteAt_12 : decode cX7_byteAt 12 = .ok (.aload_n 0, 1) := by decide +kernel
theorem dX7_byteAt_13 : decode cX7_byteAt 13 = .ok (.getfield 9, 3) := by decide +kernel
theorem dX7_byteAt_16 : decode cX7_byteAt 16 = .ok (.iload_n 1, 1) := by decide +kernel
theorem dX7_byteAt_17 : decode cX7_byteAt 17 = .ok (.baload, 1) := by decide +kernel
theorem dX7_byteAt_18 : decode cX7_byteAt 18 = .ok (.sipush 255, 3) := by decide +kernel
theorem dX7_byteAt_21 : decode cX7_byteAt 21 = .ok (.iand, 1) := by decide +kernel
theorem dX7_byteAt_22 : decode cX7_byteAt 22 = .ok (.goto 4, 3) := by decide +kernel
theorem dX7_byteAt_25 : decode cX7_byteAt 25 = .ok (.iconst (-1), 1) := by decide +kernel
theorem dX7_byteAt_26 : decode cX7_byteAt 26 = .ok (.ireturn, 1) := by decide +kernel
