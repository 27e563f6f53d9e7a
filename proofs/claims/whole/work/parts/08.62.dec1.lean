theorem dX6_sortTold_0 : decode cX6_sortTold 0 = .ok (.aload_n 0, 1) := by decide +kernel
theorem dX6_sortTold_1 : decode cX6_sortTold 1 = .ok (.ldc2_w 155, 3) := by decide +kernel
theorem dX6_sortTold_4 : decode cX6_sortTold 4 = .ok (.invokevirtual 100, 3) := by decide +kernel
theorem dX6_sortTold_7 : decode cX6_sortTold 7 = .ok (.ifCond .eq 5, 3) := by decide +kernel
theorem dX6_sortTold_10 : decode cX6_sortTold 10 = .ok (.iconst 1, 1) := by decide +kernel
theorem dX6_sortTold_11 : decode cX6_sortTold 11 = .ok (.ireturn, 1) := by decide +kernel
theorem dX6_sortTold_12 : decode cX6_sortTold 12 = .ok (.aload_n 0, 1) := by decide +kernel
theorem dX6_sortTold_13 : decode cX6_sortTold 13 = .ok (.ldc2_w 157, 3) := by decide +kernel
theorem dX6_sortTold_16 : decode cX6_sortTold 16 = .ok (.invokevirtual 100, 3) := by decide +kernel
theorem dX6_sortTold_19 : decode cX6_sortTold 19 = .ok (.ifCond .eq 5, 3) := by decide +kernel
theorem dX6_sortTold_22 : decode cX6_sortTold 22 = .ok (.iconst 2, 1) := by decide +kernel
theorem dX6_sortTold_23 : decode cX6_sortTold 23 = .ok (.ireturn, 1) := by decide +kernel
theorem dX6_sortTold_24 : decode cX6_sortTold 24 = .ok (.aload_n 0, 1) := by decide +kernel
theorem dX6_sortTold_25 : decode cX6_sortTold 25 = .ok (.ldc2_w 159, 3) := by decide +kernel
theorem dX6_sortTold_28 : decode cX6_sortTold 28 = .ok (.invokevirtual 100, 3) := by decide +kernel
theorem dX6_sortTold_31 : decode cX6_sortTold 31 = .ok (.ifCond .eq 5, 3) := by decide +kernel
theorem dX6_sortTold_34 : decode cX6_sortTold 34 = .ok (.iconst 3, 1) := by decide +kernel
theorem dX6_sortTold_35 : decode cX6_sortTold 35 = .ok (.ireturn, 1) := by decide +kernel
theorem dX6_sortTold_36 : decode cX6_sortTold 36 = .ok (.aload_n 0, 1) := by decide +kernel
theorem dX6_sortTold_37 : decode cX6_sortTold 37 = .ok (.ldc2_w 161, 3) := by decide +kernel
theorem dX6_sortTold_40 : decode cX6_sortTold 40 = .ok (.invokevirtual 100, 3) := by decide +kernel
theorem dX6_sortTold_43 : decode cX6_sortTold 43 = .ok (.ifCond .eq 7, 3) := by decide +kernel
theorem dX6_sortTold_46 : decode cX6_sortTold 46 = .ok (.iconst 4, 1) := by decide +kernel
theorem dX6_sortTold_47 : decode cX6_sortTold 47 = .ok (.goto 4, 3) := by decide +kernel
theorem dX6_sortTold_50 : decode cX6_sortTold 50 = .ok (.iconst 0, 1) := by decide +kernel
theorem dX6_sortTold_51 : decode cX6_sortTold 51 = .ok (.ireturn, 1) := by decide +kernel
theorem dX6_readLineRoom_0 : decode cX6_readLineRoom 0 = .ok (.aload_n 0, 1) := by decide +kernel
theorem dX6_readLineRoom_1 : decode cX6_readLineRoom 1 = .ok (.getfield 47, 3) := by decide +kernel
theorem dX6_readLineRoom_4 : decode cX6_readLineRoom 4 = .ok (.ifCond .eq 9, 3) := by decide +kernel
theorem dX6_readLineRoom_7 : decode cX6_readLineRoom 7 = .ok (.aload_n 1, 1) := by decide +kernel
theorem dX6_readLineRoom_8 : decode cX6_readLineRoom 8 = .ok (.iconst 3, 1) := by decide +kernel
theorem dX6_readLineRoom_9 : decode cX6_readLineRoom 9 = .ok (.invokevirtual 122, 3) := by decide +kernel
theorem dX6_readLineRoom_12 : decode cX6_readLineRoom 12 = .ok (.ireturn, 1) := by decide +kernel
theorem dX6_readLineRoom_13 : decode cX6_readLineRoom 13 = .ok (.aload_n 1, 1) := by decide +kernel
theorem dX6_readLineRoom_14 : decode cX6_readLineRoom 14 = .ok (.iconst 0, 1) := by decide +kernel
theorem dX6_readLineRoom_15 : decode cX6_readLineRoom 15 = .ok (.bipush 9, 2) := by decide +kernel
theorem dX6_readLineRoom_17 : decode cX6_readLineRoom 17 = .ok (.invokevirtual 133, 3) := by decide +kernel
theorem dX6_readLineRoom_20 : decode cX6_readLineRoom 20 = .ok (.ifCond .ne 5, 3) := by decide +kernel
theorem dX6_readLineRoom_23 : decode cX6_readLineRoom 23 = .ok (.iconst 0, 1) := by decide +kernel
theorem dX6_readLineRoom_24 : decode cX6_readLineRoom 24 = .ok (.ireturn, 1) := by decide +kernel
theorem dX6_readLineRoom_25 : decode cX6_readLineRoom 25 = .ok (.aload_n 0, 1) := by decide +kernel
theorem dX6_readLineRoom_26 : decode cX6_readLineRoom 26 = .ok (.iconst 1, 1) := by decide +kernel
theorem dX6_readLineRoom_27 : decode cX6_readLineRoom 27 = .ok (.putfield 47, 3) := by decide +kernel
theorem dX6_readLineRoom_30 : decode cX6_readLineRoom 30 = .ok (.aload_n 0, 1) := by decide +kernel
theorem dX6_readLineRoom_31 : decode cX6_readLineRoom 31 = .ok (.aload_n 1, 1) := by decide +kernel
theorem dX6_readLineRoom_32 : decode cX6_readLineRoom 32 = .ok (.getfield 137, 3) := by decide +kernel
theorem dX6_readLineRoom_35 : decode cX6_readLineRoom 35 = .ok (.putfield 31, 3) := by decide +kernel
theorem dX6_readLineRoom_38 : decode cX6_readLineRoom 38 = .ok (.aload_n 1, 1) := by decide +kernel
theorem dX6_readLineRoom_39 : decode cX6_readLineRoom 39 = .ok (.invokevirtual 163, 3) := by decide +kernel
theorem dX6_readLineRoom_42 : decode cX6_readLineRoom 42 = .ok (.ireturn, 1) := by decide +kernel
theorem dX6_readDotRoom_0 : decode cX6_readDotRoom 0 = .ok (.aload_n 0, 1) := by decide +kernel
theorem dX6_readDotRoom_1 : decode cX6_readDotRoom 1 = .ok (.getfield 51, 3) := by decide +kernel
theorem dX6_readDotRoom_4 : decode cX6_readDotRoom 4 = .ok (.ifCond .eq 9, 3) := by decide +kernel
theorem dX6_readDotRoom_7 : decode cX6_readDotRoom 7 = .ok (.aload_n 1, 1) := by decide +kernel
theorem dX6_readDotRoom_8 : decode cX6_readDotRoom 8 = .ok (.iconst 3, 1) := by decide +kernel
theorem dX6_readDotRoom_9 : decode cX6_readDotRoom 9 = .ok (.invokevirtual 122, 3) := by decide +kernel
theorem dX6_readDotRoom_12 : decode cX6_readDotRoom 12 = .ok (.ireturn, 1) := by decide +kernel
theorem dX6_readDotRoom_13 : decode cX6_readDotRoom 13 = .ok (.aload_n 1, 1) := by decide +kernel
theorem dX6_readDotRoom_14 : decode cX6_readDotRoom 14 = .ok (.iconst 0, 1) := by decide +kernel
theorem dX6_readDotRoom_15 : decode cX6_readDotRoom 15 = .ok (.bipush 9, 2) := by decide +kernel
theorem dX6_readDotRoom_17 : decode cX6_readDotRoom 17 = .ok (.invokevirtual 133, 3) := by decide +kernel
theorem dX6_readDotRoom_20 : decode cX6_readDotRoom 20 = .ok (.ifCond .ne 5, 3) := by decide +kernel
theorem dX6_readDotRoom_23 : decode cX6_readDotRoom 23 = .ok (.iconst 0, 1) := by decide +kernel
theorem dX6_readDotRoom_24 : decode cX6_readDotRoom 24 = .ok (.ireturn, 1) := by decide +kernel
theorem dX6_readDotRoom_25 : decode cX6_readDotRoom 25 = .ok (.aload_n 0, 1) := by decide +kernel
theorem dX6_readDotRoom_26 : decode cX6_readDotRoom 26 = .ok (.iconst 1, 1) := by decide +kernel
theorem dX6_readDotRoom_27 : decode cX6_readDotRoom 27 = .ok (.putfield 51, 3) := by decide +kernel
theorem dX6_readDotRoom_30 : decode cX6_readDotRoom 30 = .ok (.aload_n 0, 1) := by decide +kernel
theorem dX6_readDotRoom_31 : decode cX6_readDotRoom 31 = .ok (.aload_n 1, 1) := by decide +kernel
theorem dX6_readDotRoom_32 : decode cX6_readDotRoom 32 = .ok (.getfield 137, 3) := by decide +kernel
theorem dX6_readDotRoom_35 : decode cX6_readDotRoom 35 = .ok (.putfield 41, 3) := by decide +kernel
theorem dX6_readDotRoom_38 : decode cX6_readDotRoom 38 = .ok (.aload_n 1, 1) := by decide +kernel
theorem dX6_readDotRoom_39 : decode cX6_readDotRoom 39 = .ok (.invokevirtual 163, 3) := by decide +kernel
theorem dX6_readDotRoom_42 : decode cX6_readDotRoom 42 = .ok (.ireturn, 1) := by decide +kernel
theorem dX7_init_0 : decode cX7_init 0 = .ok (.aload_n 0, 1) := by decide +kernel
theorem dX7_init_1 : decode cX7_init 1 = .ok (.invokespecial 3, 3) := by decide +kernel
theorem dX7_init_4 : decode cX7_init 4 = .ok (.aload_n 0, 1) := by decide +kernel
theorem dX7_init_5 : decode cX7_init 5 = .ok (.iconst 5, 1) := by decide +kernel
theorem dX7_init_6 : decode cX7_init 6 = .ok (.newarray .int, 2) := by decide +kernel
theorem dX7_init_8 : decode cX7_init 8 = .ok (.putfield 9, 3) := by decide +kernel
theorem dX7_init_11 : decode cX7_init 11 = .ok (.aload_n 0, 1) := by decide +kernel
theorem dX7_init_12 : decode cX7_init 12 = .ok (.iconst 5, 1) := by decide +kernel
theorem dX7_init_13 : decode cX7_init 13 = .ok (.newarray .int, 2) := by decide +kernel
theorem dX7_init_15 : decode cX7_init 15 = .ok (.putfield 15, 3) := by decide +kernel
theorem dX7_init_18 : decode cX7_init 18 = .ok (.aload_n 0, 1) := by decide +kernel
theorem dX7_init_19 : decode cX7_init 19 = .ok (.bipush 60, 2) := by decide +kernel
theorem dX7_init_21 : decode cX7_init 21 = .ok (.newarray .int, 2) := by decide +kernel
theorem dX7_init_23 : decode cX7_init 23 = .ok (.putfield 18, 3) := by decide +kernel
theorem dX7_init_26 : decode cX7_init 26 = .ok (.aload_n 0, 1) := by decide +kernel
theorem dX7_init_27 : decode cX7_init 27 = .ok (.bipush 60, 2) := by decide +kernel
theorem dX7_init_29 : decode cX7_init 29 = .ok (.newarray .int, 2) := by decide +kernel
theorem dX7_init_31 : decode cX7_init 31 = .ok (.putfield 21, 3) := by decide +kernel
theorem dX7_init_34 : decode cX7_init 34 = .ok (.aload_n 0, 1) := by decide +kernel
theorem dX7_init_35 : decode cX7_init 35 = .ok (.bipush 9, 2) := by decide +kernel
theorem dX7_init_37 : decode cX7_init 37 = .ok (.newarray .int, 2) := by decide +kernel
theorem dX7_init_39 : decode cX7_init 39 = .ok (.putfield 24, 3) := by decide +kernel
theorem dX7_init_42 : decode cX7_init 42 = .ok (.aload_n 0, 1) := by decide +kernel
theorem dX7_init_43 : decode cX7_init 43 = .ok (.bipush 9, 2) := by decide +kernel
theorem dX7_init_45 : decode cX7_init 45 = .ok (.newarray .int, 2) := by decide +kernel
theorem dX7_init_47 : decode cX7_init 47 = .ok (.putfield 27, 3) := by decide +kernel
theorem dX7_init_50 : decode cX7_init 50 = .ok (.return_, 1) := by decide +kernel
theorem dX7_findBest_0 : decode cX7_findBest 0 = .ok (.aload_n 0, 1) := by decide +kernel
theorem dX7_findBest_1 : decode cX7_findBest 1 = .ok (.aload_n 1, 1) := by decide +kernel
theorem dX7_findBest_2 : decode cX7_findBest 2 = .ok (.invokevirtual 30, 3) := by decide +kernel
theorem dX7_findBest_5 : decode cX7_findBest 5 = .ok (.aload_n 0, 1) := by decide +kernel
theorem dX7_findBest_6 : decode cX7_findBest 6 = .ok (.getfield 27, 3) := by decide +kernel
theorem dX7_findBest_9 : decode cX7_findBest 9 = .ok (.iconst 0, 1) := by decide +kernel
theorem dX7_findBest_10 : decode cX7_findBest 10 = .ok (.aload_n 0, 1) := by decide +kernel
theorem dX7_findBest_11 : decode cX7_findBest 11 = .ok (.getfield 24, 3) := by decide +kernel
theorem dX7_findBest_14 : decode cX7_findBest 14 = .ok (.iconst 0, 1) := by decide +kernel
theorem dX7_findBest_15 : decode cX7_findBest 15 = .ok (.bipush 9, 2) := by decide +kernel
theorem dX7_findBest_17 : decode cX7_findBest 17 = .ok (.invokestatic 34, 3) := by decide +kernel
theorem dX7_findBest_20 : decode cX7_findBest 20 = .ok (.aload_n 0, 1) := by decide +kernel
theorem dX7_findBest_21 : decode cX7_findBest 21 = .ok (.getfield 40, 3) := by decide +kernel
theorem dX7_findBest_24 : decode cX7_findBest 24 = .ok (.getfield 44, 3) := by decide +kernel
theorem dX7_findBest_27 : decode cX7_findBest 27 = .ok (.iconst 1, 1) := by decide +kernel
theorem dX7_findBest_28 : decode cX7_findBest 28 = .ok (.isub, 1) := by decide +kernel
theorem dX7_findBest_29 : decode cX7_findBest 29 = .ok (.istore_n 2, 1) := by decide +kernel
theorem dX7_findBest_30 : decode cX7_findBest 30 = .ok (.iload_n 2, 1) := by decide +kernel
theorem dX7_findBest_31 : decode cX7_findBest 31 = .ok (.ifCond .lt 40, 3) := by decide +kernel
theorem dX7_findBest_34 : decode cX7_findBest 34 = .ok (.aload_n 0, 1) := by decide +kernel
theorem dX7_findBest_35 : decode cX7_findBest 35 = .ok (.iload_n 2, 1) := by decide +kernel
theorem dX7_findBest_36 : decode cX7_findBest 36 = .ok (.invokevirtual 50, 3) := by decide +kernel
theorem dX7_findBest_39 : decode cX7_findBest 39 = .ok (.ifCond .eq 26, 3) := by decide +kernel
theorem dX7_findBest_42 : decode cX7_findBest 42 = .ok (.aload_n 0, 1) := by decide +kernel
theorem dX7_findBest_43 : decode cX7_findBest 43 = .ok (.iload_n 2, 1) := by decide +kernel
theorem dX7_findBest_44 : decode cX7_findBest 44 = .ok (.invokevirtual 54, 3) := by decide +kernel
theorem dX7_findBest_47 : decode cX7_findBest 47 = .ok (.aload_n 0, 1) := by decide +kernel
theorem dX7_findBest_48 : decode cX7_findBest 48 = .ok (.getfield 24, 3) := by decide +kernel
theorem dX7_findBest_51 : decode cX7_findBest 51 = .ok (.aload_n 0, 1) := by decide +kernel
theorem dX7_findBest_52 : decode cX7_findBest 52 = .ok (.getfield 40, 3) := by decide +kernel
theorem dX7_findBest_55 : decode cX7_findBest 55 = .ok (.getfield 58, 3) := by decide +kernel
theorem dX7_findBest_58 : decode cX7_findBest 58 = .ok (.iload_n 2, 1) := by decide +kernel
theorem dX7_findBest_59 : decode cX7_findBest 59 = .ok (.iaload, 1) := by decide +kernel
theorem dX7_findBest_60 : decode cX7_findBest 60 = .ok (.dup2, 1) := by decide +kernel
theorem dX7_findBest_61 : decode cX7_findBest 61 = .ok (.iaload, 1) := by decide +kernel
theorem dX7_findBest_62 : decode cX7_findBest 62 = .ok (.iconst 1, 1) := by decide +kernel
theorem dX7_findBest_63 : decode cX7_findBest 63 = .ok (.isub, 1) := by decide +kernel
theorem dX7_findBest_64 : decode cX7_findBest 64 = .ok (.iastore, 1) := by decide +kernel
theorem dX7_findBest_65 : decode cX7_findBest 65 = .ok (.iinc 2 (-1), 3) := by decide +kernel
theorem dX7_findBest_68 : decode cX7_findBest 68 = .ok (.goto (-38), 3) := by decide +kernel
theorem dX7_findBest_71 : decode cX7_findBest 71 = .ok (.aload_n 0, 1) := by decide +kernel
theorem dX7_findBest_72 : decode cX7_findBest 72 = .ok (.getfield 61, 3) := by decide +kernel
theorem dX7_findBest_75 : decode cX7_findBest 75 = .ok (.ifCond .le 7, 3) := by decide +kernel
theorem dX7_findBest_78 : decode cX7_findBest 78 = .ok (.iconst 1, 1) := by decide +kernel
theorem dX7_findBest_79 : decode cX7_findBest 79 = .ok (.goto 4, 3) := by decide +kernel
theorem dX7_findBest_82 : decode cX7_findBest 82 = .ok (.iconst 0, 1) := by decide +kernel
theorem dX7_findBest_83 : decode cX7_findBest 83 = .ok (.ireturn, 1) := by decide +kernel
theorem dX7_findBestWith_0 : decode cX7_findBestWith 0 = .ok (.aload_n 0, 1) := by decide +kernel
theorem dX7_findBestWith_1 : decode cX7_findBestWith 1 = .ok (.aload_n 1, 1) := by decide +kernel
theorem dX7_findBestWith_2 : decode cX7_findBestWith 2 = .ok (.invokevirtual 30, 3) := by decide +kernel
theorem dX7_findBestWith_5 : decode cX7_findBestWith 5 = .ok (.aload_n 0, 1) := by decide +kernel
theorem dX7_findBestWith_6 : decode cX7_findBestWith 6 = .ok (.iload_n 2, 1) := by decide +kernel
theorem dX7_findBestWith_7 : decode cX7_findBestWith 7 = .ok (.invokevirtual 50, 3) := by decide +kernel
theorem dX7_findBestWith_10 : decode cX7_findBestWith 10 = .ok (.ifCond .eq 8, 3) := by decide +kernel
theorem dX7_findBestWith_13 : decode cX7_findBestWith 13 = .ok (.aload_n 0, 1) := by decide +kernel
theorem dX7_findBestWith_14 : decode cX7_findBestWith 14 = .ok (.iload_n 2, 1) := by decide +kernel
theorem dX7_findBestWith_15 : decode cX7_findBestWith 15 = .ok (.invokevirtual 54, 3) := by decide +kernel
theorem dX7_findBestWith_18 : decode cX7_findBestWith 18 = .ok (.aload_n 0, 1) := by decide +kernel
theorem dX7_findBestWith_19 : decode cX7_findBestWith 19 = .ok (.getfield 61, 3) := by decide +kernel
theorem dX7_findBestWith_22 : decode cX7_findBestWith 22 = .ok (.ifCond .le 7, 3) := by decide +kernel
theorem dX7_findBestWith_25 : decode cX7_findBestWith 25 = .ok (.iconst 1, 1) := by decide +kernel
theorem dX7_findBestWith_26 : decode cX7_findBestWith 26 = .ok (.goto 4, 3) := by decide +kernel
theorem dX7_findBestWith_29 : decode cX7_findBestWith 29 = .ok (.iconst 0, 1) := by decide +kernel
theorem dX7_findBestWith_30 : decode cX7_findBestWith 30 = .ok (.ireturn, 1) := by decide +kernel
theorem dX7_mayBeIn_0 : decode cX7_mayBeIn 0 = .ok (.aload_n 0, 1) := by decide +kernel
theorem dX7_mayBeIn_1 : decode cX7_mayBeIn 1 = .ok (.getfield 40, 3) := by decide +kernel
theorem dX7_mayBeIn_4 : decode cX7_mayBeIn 4 = .ok (.iload_n 1, 1) := by decide +kernel
theorem dX7_mayBeIn_5 : decode cX7_mayBeIn 5 = .ok (.invokevirtual 64, 3) := by decide +kernel
theorem dX7_mayBeIn_8 : decode cX7_mayBeIn 8 = .ok (.ifCond .eq 29, 3) := by decide +kernel
theorem dX7_mayBeIn_11 : decode cX7_mayBeIn 11 = .ok (.aload_n 0, 1) := by decide +kernel
theorem dX7_mayBeIn_12 : decode cX7_mayBeIn 12 = .ok (.getfield 40, 3) := by decide +kernel
theorem dX7_mayBeIn_15 : decode cX7_mayBeIn 15 = .ok (.getfield 67, 3) := by decide +kernel
theorem dX7_mayBeIn_18 : decode cX7_mayBeIn 18 = .ok (.aload_n 0, 1) := by decide +kernel
theorem dX7_mayBeIn_19 : decode cX7_mayBeIn 19 = .ok (.getfield 40, 3) := by decide +kernel
theorem dX7_mayBeIn_22 : decode cX7_mayBeIn 22 = .ok (.getfield 71, 3) := by decide +kernel
theorem dX7_mayBeIn_25 : decode cX7_mayBeIn 25 = .ok (.iload_n 1, 1) := by decide +kernel
theorem dX7_mayBeIn_26 : decode cX7_mayBeIn 26 = .ok (.iaload, 1) := by decide +kernel
theorem dX7_mayBeIn_27 : decode cX7_mayBeIn 27 = .ok (.invokevirtual 74, 3) := by decide +kernel
theorem dX7_mayBeIn_30 : decode cX7_mayBeIn 30 = .ok (.ifCond .eq 7, 3) := by decide +kernel
theorem dX7_mayBeIn_33 : decode cX7_mayBeIn 33 = .ok (.iconst 1, 1) := by decide +kernel
theorem dX7_mayBeIn_34 : decode cX7_mayBeIn 34 = .ok (.goto 4, 3) := by decide +kernel
theorem dX7_mayBeIn_37 : decode cX7_mayBeIn 37 = .ok (.iconst 0, 1) := by decide +kernel
theorem dX7_mayBeIn_38 : decode cX7_mayBeIn 38 = .ok (.ireturn, 1) := by decide +kernel
theorem dX7_prepare_0 : decode cX7_prepare 0 = .ok (.aload_n 0, 1) := by decide +kernel
theorem dX7_prepare_1 : decode cX7_prepare 1 = .ok (.aload_n 1, 1) := by decide +kernel
theorem dX7_prepare_2 : decode cX7_prepare 2 = .ok (.putfield 40, 3) := by decide +kernel
theorem dX7_prepare_5 : decode cX7_prepare 5 = .ok (.aload_n 0, 1) := by decide +kernel
theorem dX7_prepare_6 : decode cX7_prepare 6 = .ok (.iconst 0, 1) := by decide +kernel
theorem dX7_prepare_7 : decode cX7_prepare 7 = .ok (.putfield 61, 3) := by decide +kernel
theorem dX7_prepare_10 : decode cX7_prepare 10 = .ok (.aload_n 0, 1) := by decide +kernel
theorem dX7_prepare_11 : decode cX7_prepare 11 = .ok (.iconst (-1), 1) := by decide +kernel
theorem dX7_prepare_12 : decode cX7_prepare 12 = .ok (.putfield 79, 3) := by decide +kernel
theorem dX7_prepare_15 : decode cX7_prepare 15 = .ok (.aload_n 0, 1) := by decide +kernel
theorem dX7_prepare_16 : decode cX7_prepare 16 = .ok (.iconst 0, 1) := by decide +kernel
theorem dX7_prepare_17 : decode cX7_prepare 17 = .ok (.putfield 82, 3) := by decide +kernel
theorem dX7_prepare_20 : decode cX7_prepare 20 = .ok (.aload_n 0, 1) := by decide +kernel
theorem dX7_prepare_21 : decode cX7_prepare 21 = .ok (.iconst 0, 1) := by decide +kernel
theorem dX7_prepare_22 : decode cX7_prepare 22 = .ok (.putfield 85, 3) := by decide +kernel
theorem dX7_prepare_25 : decode cX7_prepare 25 = .ok (.iconst 0, 1) := by decide +kernel
theorem dX7_prepare_26 : decode cX7_prepare 26 = .ok (.istore_n 2, 1) := by decide +kernel
theorem dX7_prepare_27 : decode cX7_prepare 27 = .ok (.iconst 0, 1) := by decide +kernel
theorem dX7_prepare_28 : decode cX7_prepare 28 = .ok (.istore_n 3, 1) := by decide +kernel
theorem dX7_prepare_29 : decode cX7_prepare 29 = .ok (.iload_n 3, 1) := by decide +kernel
theorem dX7_prepare_30 : decode cX7_prepare 30 = .ok (.bipush 9, 2) := by decide +kernel
theorem dX7_prepare_32 : decode cX7_prepare 32 = .ok (.if_icmp .ge 112, 3) := by decide +kernel
theorem dX7_prepare_35 : decode cX7_prepare 35 = .ok (.aload_n 0, 1) := by decide +kernel
theorem dX7_prepare_36 : decode cX7_prepare 36 = .ok (.getfield 24, 3) := by decide +kernel
theorem dX7_prepare_39 : decode cX7_prepare 39 = .ok (.iload_n 3, 1) := by decide +kernel
theorem dX7_prepare_40 : decode cX7_prepare 40 = .ok (.iload_n 2, 1) := by decide +kernel
theorem dX7_prepare_41 : decode cX7_prepare 41 = .ok (.iastore, 1) := by decide +kernel
theorem dX7_prepare_42 : decode cX7_prepare 42 = .ok (.iconst 0, 1) := by decide +kernel
theorem dX7_prepare_43 : decode cX7_prepare 43 = .ok (.istore 4, 2) := by decide +kernel
theorem dX7_prepare_45 : decode cX7_prepare 45 = .ok (.iload 4, 2) := by decide +kernel
theorem dX7_prepare_47 : decode cX7_prepare 47 = .ok (.aload_n 0, 1) := by decide +kernel
theorem dX7_prepare_48 : decode cX7_prepare 48 = .ok (.getfield 40, 3) := by decide +kernel
theorem dX7_prepare_51 : decode cX7_prepare 51 = .ok (.getfield 44, 3) := by decide +kernel
theorem dX7_prepare_54 : decode cX7_prepare 54 = .ok (.if_icmp .ge 77, 3) := by decide +kernel
theorem dX7_prepare_57 : decode cX7_prepare 57 = .ok (.aload_n 0, 1) := by decide +kernel
theorem dX7_prepare_58 : decode cX7_prepare 58 = .ok (.getfield 40, 3) := by decide +kernel
theorem dX7_prepare_61 : decode cX7_prepare 61 = .ok (.getfield 58, 3) := by decide +kernel
theorem dX7_prepare_64 : decode cX7_prepare 64 = .ok (.iload 4, 2) := by decide +kernel
theorem dX7_prepare_66 : decode cX7_prepare 66 = .ok (.iaload, 1) := by decide +kernel
theorem dX7_prepare_67 : decode cX7_prepare 67 = .ok (.iload_n 3, 1) := by decide +kernel
theorem dX7_prepare_68 : decode cX7_prepare 68 = .ok (.if_icmp .ne 57, 3) := by decide +kernel
theorem dX7_prepare_71 : decode cX7_prepare 71 = .ok (.aload_n 0, 1) := by decide +kernel
theorem dX7_prepare_72 : decode cX7_prepare 72 = .ok (.iload 4, 2) := by decide +kernel
theorem dX7_prepare_74 : decode cX7_prepare 74 = .ok (.invokevirtual 50, 3) := by decide +kernel
theorem dX7_prepare_77 : decode cX7_prepare 77 = .ok (.ifCond .eq 48, 3) := by decide +kernel
theorem dX7_prepare_80 : decode cX7_prepare 80 = .ok (.aload_n 0, 1) := by decide +kernel
theorem dX7_prepare_81 : decode cX7_prepare 81 = .ok (.getfield 21, 3) := by decide +kernel
theorem dX7_prepare_84 : decode cX7_prepare 84 = .ok (.iload_n 2, 1) := by decide +kernel
theorem dX7_prepare_85 : decode cX7_prepare 85 = .ok (.iload 4, 2) := by decide +kernel
theorem dX7_prepare_87 : decode cX7_prepare 87 = .ok (.iastore, 1) := by decide +kernel
theorem dX7_prepare_88 : decode cX7_prepare 88 = .ok (.iinc 2 1, 3) := by decide +kernel
theorem dX7_prepare_91 : decode cX7_prepare 91 = .ok (.aload_n 0, 1) := by decide +kernel
theorem dX7_prepare_92 : decode cX7_prepare 92 = .ok (.getfield 18, 3) := by decide +kernel
theorem dX7_prepare_95 : decode cX7_prepare 95 = .ok (.iload 4, 2) := by decide +kernel
theorem dX7_prepare_97 : decode cX7_prepare 97 = .ok (.aload_n 0, 1) := by decide +kernel
theorem dX7_prepare_98 : decode cX7_prepare 98 = .ok (.getfield 40, 3) := by decide +kernel
theorem dX7_prepare_101 : decode cX7_prepare 101 = .ok (.iload 4, 2) := by decide +kernel
theorem dX7_prepare_103 : decode cX7_prepare 103 = .ok (.invokevirtual 88, 3) := by decide +kernel
theorem dX7_prepare_106 : decode cX7_prepare 106 = .ok (.iastore, 1) := by decide +kernel
theorem dX7_prepare_107 : decode cX7_prepare 107 = .ok (.aload_n 0, 1) := by decide +kernel
theorem dX7_prepare_108 : decode cX7_prepare 108 = .ok (.aload_n 0, 1) := by decide +kernel
theorem dX7_prepare_109 : decode cX7_prepare 109 = .ok (.getfield 85, 3) := by decide +kernel
theorem dX7_prepare_112 : decode cX7_prepare 112 = .ok (.aload_n 0, 1) := by decide +kernel
theorem dX7_prepare_113 : decode cX7_prepare 113 = .ok (.getfield 18, 3) := by decide +kernel
theorem dX7_prepare_116 : decode cX7_prepare 116 = .ok (.iload 4, 2) := by decide +kernel
theorem dX7_prepare_118 : decode cX7_prepare 118 = .ok (.iaload, 1) := by decide +kernel
theorem dX7_prepare_119 : decode cX7_prepare 119 = .ok (.invokestatic 92, 3) := by decide +kernel
theorem dX7_prepare_122 : decode cX7_prepare 122 = .ok (.putfield 85, 3) := by decide +kernel
theorem dX7_prepare_125 : decode cX7_prepare 125 = .ok (.iinc 4 1, 3) := by decide +kernel
theorem dX7_prepare_128 : decode cX7_prepare 128 = .ok (.goto (-83), 3) := by decide +kernel
theorem dX7_prepare_131 : decode cX7_prepare 131 = .ok (.aload_n 0, 1) := by decide +kernel
theorem dX7_prepare_132 : decode cX7_prepare 132 = .ok (.getfield 27, 3) := by decide +kernel
theorem dX7_prepare_135 : decode cX7_prepare 135 = .ok (.iload_n 3, 1) := by decide +kernel
theorem dX7_prepare_136 : decode cX7_prepare 136 = .ok (.iload_n 2, 1) := by decide +kernel
theorem dX7_prepare_137 : decode cX7_prepare 137 = .ok (.iastore, 1) := by decide +kernel
theorem dX7_prepare_138 : decode cX7_prepare 138 = .ok (.iinc 3 1, 3) := by decide +kernel
theorem dX7_prepare_141 : decode cX7_prepare 141 = .ok (.goto (-112), 3) := by decide +kernel
theorem dX7_prepare_144 : decode cX7_prepare 144 = .ok (.return_, 1) := by decide +kernel
theorem dX7_start_0 : decode cX7_start 0 = .ok (.aload_n 0, 1) := by decide +kernel
theorem dX7_start_1 : decode cX7_start 1 = .ok (.aload_n 0, 1) := by decide +kernel
theorem dX7_start_2 : decode cX7_start 2 = .ok (.getfield 40, 3) := by decide +kernel
theorem dX7_start_5 : decode cX7_start 5 = .ok (.getfield 58, 3) := by decide +kernel
theorem dX7_start_8 : decode cX7_start 8 = .ok (.iload_n 1, 1) := by decide +kernel
theorem dX7_start_9 : decode cX7_start 9 = .ok (.iaload, 1) := by decide +kernel
theorem dX7_start_10 : decode cX7_start 10 = .ok (.putfield 98, 3) := by decide +kernel
theorem dX7_start_13 : decode cX7_start 13 = .ok (.aload_n 0, 1) := by decide +kernel
theorem dX7_start_14 : decode cX7_start 14 = .ok (.getfield 15, 3) := by decide +kernel
theorem dX7_start_17 : decode cX7_start 17 = .ok (.iconst 0, 1) := by decide +kernel
theorem dX7_start_18 : decode cX7_start 18 = .ok (.iload_n 1, 1) := by decide +kernel
theorem dX7_start_19 : decode cX7_start 19 = .ok (.iastore, 1) := by decide +kernel
theorem dX7_start_20 : decode cX7_start 20 = .ok (.aload_n 0, 1) := by decide +kernel
theorem dX7_start_21 : decode cX7_start 21 = .ok (.getfield 40, 3) := by decide +kernel
theorem dX7_start_24 : decode cX7_start 24 = .ok (.getfield 101, 3) := by decide +kernel
theorem dX7_start_27 : decode cX7_start 27 = .ok (.iload_n 1, 1) := by decide +kernel
theorem dX7_start_28 : decode cX7_start 28 = .ok (.iaload, 1) := by decide +kernel
theorem dX7_start_29 : decode cX7_start 29 = .ok (.istore_n 2, 1) := by decide +kernel
theorem dX7_start_30 : decode cX7_start 30 = .ok (.aload_n 0, 1) := by decide +kernel
theorem dX7_start_31 : decode cX7_start 31 = .ok (.iconst 1, 1) := by decide +kernel
theorem dX7_start_32 : decode cX7_start 32 = .ok (.iload_n 2, 1) := by decide +kernel
theorem dX7_start_33 : decode cX7_start 33 = .ok (.aload_n 0, 1) := by decide +kernel
theorem dX7_start_34 : decode cX7_start 34 = .ok (.getfield 40, 3) := by decide +kernel
theorem dX7_start_37 : decode cX7_start 37 = .ok (.getfield 104, 3) := by decide +kernel
theorem dX7_start_40 : decode cX7_start 40 = .ok (.iload_n 1, 1) := by decide +kernel
theorem dX7_start_41 : decode cX7_start 41 = .ok (.iaload, 1) := by decide +kernel
theorem dX7_start_42 : decode cX7_start 42 = .ok (.aload_n 0, 1) := by decide +kernel
theorem dX7_start_43 : decode cX7_start 43 = .ok (.getfield 18, 3) := by decide +kernel
theorem dX7_start_46 : decode cX7_start 46 = .ok (.iload_n 1, 1) := by decide +kernel
theorem dX7_start_47 : decode cX7_start 47 = .ok (.iaload, 1) := by decide +kernel
theorem dX7_start_48 : decode cX7_start 48 = .ok (.iconst 1, 1) := by decide +kernel
theorem dX7_start_49 : decode cX7_start 49 = .ok (.aload_n 0, 1) := by decide +kernel
theorem dX7_start_50 : decode cX7_start 50 = .ok (.getfield 98, 3) := by decide +kernel
theorem dX7_start_53 : decode cX7_start 53 = .ok (.ishl, 1) := by decide +kernel
theorem dX7_start_54 : decode cX7_start 54 = .ok (.iconst 1, 1) := by decide +kernel
theorem dX7_start_55 : decode cX7_start 55 = .ok (.iload_n 2, 1) := by decide +kernel
theorem dX7_start_56 : decode cX7_start 56 = .ok (.ishl, 1) := by decide +kernel
theorem dX7_start_57 : decode cX7_start 57 = .ok (.ior, 1) := by decide +kernel
theorem dX7_start_58 : decode cX7_start 58 = .ok (.invokevirtual 107, 3) := by decide +kernel
theorem dX7_start_61 : decode cX7_start 61 = .ok (.return_, 1) := by decide +kernel
theorem dX7_extend_0 : decode cX7_extend 0 = .ok (.iload_n 1, 1) := by decide +kernel
theorem dX7_extend_1 : decode cX7_extend 1 = .ok (.iconst 5, 1) := by decide +kernel
theorem dX7_extend_2 : decode cX7_extend 2 = .ok (.if_icmp .ge 24, 3) := by decide +kernel
theorem dX7_extend_5 : decode cX7_extend 5 = .ok (.aload_n 0, 1) := by decide +kernel
theorem dX7_extend_6 : decode cX7_extend 6 = .ok (.iload_n 1, 1) := by decide +kernel
theorem dX7_extend_7 : decode cX7_extend 7 = .ok (.iconst 1, 1) := by decide +kernel
theorem dX7_extend_8 : decode cX7_extend 8 = .ok (.iadd, 1) := by decide +kernel
theorem dX7_extend_9 : decode cX7_extend 9 = .ok (.iload 4, 2) := by decide +kernel
theorem dX7_extend_11 : decode cX7_extend 11 = .ok (.iconst 5, 1) := by decide +kernel
theorem dX7_extend_12 : decode cX7_extend 12 = .ok (.iload_n 1, 1) := by decide +kernel
theorem dX7_extend_13 : decode cX7_extend 13 = .ok (.isub, 1) := by decide +kernel
theorem dX7_extend_14 : decode cX7_extend 14 = .ok (.aload_n 0, 1) := by decide +kernel
theorem dX7_extend_15 : decode cX7_extend 15 = .ok (.getfield 85, 3) := by decide +kernel
theorem dX7_extend_18 : decode cX7_extend 18 = .ok (.imul, 1) := by decide +kernel
theorem dX7_extend_19 : decode cX7_extend 19 = .ok (.iadd, 1) := by decide +kernel
theorem dX7_extend_20 : decode cX7_extend 20 = .ok (.invokevirtual 111, 3) := by decide +kernel
theorem dX7_extend_23 : decode cX7_extend 23 = .ok (.ifCond .ne 4, 3) := by decide +kernel
theorem dX7_extend_26 : decode cX7_extend 26 = .ok (.return_, 1) := by decide +kernel
theorem dX7_extend_27 : decode cX7_extend 27 = .ok (.aload_n 0, 1) := by decide +kernel
theorem dX7_extend_28 : decode cX7_extend 28 = .ok (.getfield 24, 3) := by decide +kernel
theorem dX7_extend_31 : decode cX7_extend 31 = .ok (.iload_n 2, 1) := by decide +kernel
theorem dX7_extend_32 : decode cX7_extend 32 = .ok (.iaload, 1) := by decide +kernel
theorem dX7_extend_33 : decode cX7_extend 33 = .ok (.istore 6, 2) := by decide +kernel
theorem dX7_extend_35 : decode cX7_extend 35 = .ok (.iload 6, 2) := by decide +kernel
theorem dX7_extend_37 : decode cX7_extend 37 = .ok (.aload_n 0, 1) := by decide +kernel
theorem dX7_extend_38 : decode cX7_extend 38 = .ok (.getfield 27, 3) := by decide +kernel
theorem dX7_extend_41 : decode cX7_extend 41 = .ok (.iload_n 2, 1) := by decide +kernel
theorem dX7_extend_42 : decode cX7_extend 42 = .ok (.iaload, 1) := by decide +kernel
theorem dX7_extend_43 : decode cX7_extend 43 = .ok (.if_icmp .ge 150, 3) := by decide +kernel
theorem dX7_extend_46 : decode cX7_extend 46 = .ok (.aload_n 0, 1) := by decide +kernel
theorem dX7_extend_47 : decode cX7_extend 47 = .ok (.getfield 21, 3) := by decide +kernel
theorem dX7_extend_50 : decode cX7_extend 50 = .ok (.iload 6, 2) := by decide +kernel
theorem dX7_extend_52 : decode cX7_extend 52 = .ok (.iaload, 1) := by decide +kernel
theorem dX7_extend_53 : decode cX7_extend 53 = .ok (.istore 7, 2) := by decide +kernel
theorem dX7_extend_55 : decode cX7_extend 55 = .ok (.aload_n 0, 1) := by decide +kernel
theorem dX7_extend_56 : decode cX7_extend 56 = .ok (.getfield 40, 3) := by decide +kernel
theorem dX7_extend_59 : decode cX7_extend 59 = .ok (.getfield 101, 3) := by decide +kernel
theorem dX7_extend_62 : decode cX7_extend 62 = .ok (.iload 7, 2) := by decide +kernel
theorem dX7_extend_64 : decode cX7_extend 64 = .ok (.iaload, 1) := by decide +kernel
theorem dX7_extend_65 : decode cX7_extend 65 = .ok (.istore 8, 2) := by decide +kernel
theorem dX7_extend_67 : decode cX7_extend 67 = .ok (.aload_n 0, 1) := by decide +kernel
theorem dX7_extend_68 : decode cX7_extend 68 = .ok (.getfield 40, 3) := by decide +kernel
theorem dX7_extend_71 : decode cX7_extend 71 = .ok (.getfield 104, 3) := by decide +kernel
theorem dX7_extend_74 : decode cX7_extend 74 = .ok (.iload 7, 2) := by decide +kernel
theorem dX7_extend_76 : decode cX7_extend 76 = .ok (.iaload, 1) := by decide +kernel
theorem dX7_extend_77 : decode cX7_extend 77 = .ok (.istore 9, 2) := by decide +kernel
theorem dX7_extend_79 : decode cX7_extend 79 = .ok (.iload 9, 2) := by decide +kernel
theorem dX7_extend_81 : decode cX7_extend 81 = .ok (.iload_n 3, 1) := by decide +kernel
theorem dX7_extend_82 : decode cX7_extend 82 = .ok (.if_icmp .ge 13, 3) := by decide +kernel
theorem dX7_extend_85 : decode cX7_extend 85 = .ok (.aload_n 0, 1) := by decide +kernel
theorem dX7_extend_86 : decode cX7_extend 86 = .ok (.getfield 18, 3) := by decide +kernel
theorem dX7_extend_89 : decode cX7_extend 89 = .ok (.iload 7, 2) := by decide +kernel
theorem dX7_extend_91 : decode cX7_extend 91 = .ok (.iaload, 1) := by decide +kernel
theorem dX7_extend_92 : decode cX7_extend 92 = .ok (.goto 24, 3) := by decide +kernel
theorem dX7_extend_95 : decode cX7_extend 95 = .ok (.iload 9, 2) := by decide +kernel
theorem dX7_extend_97 : decode cX7_extend 97 = .ok (.iload_n 3, 1) := by decide +kernel
theorem dX7_extend_98 : decode cX7_extend 98 = .ok (.if_icmp .ne 16, 3) := by decide +kernel
theorem dX7_extend_101 : decode cX7_extend 101 = .ok (.iload 4, 2) := by decide +kernel
theorem dX7_extend_103 : decode cX7_extend 103 = .ok (.aload_n 0, 1) := by decide +kernel
theorem dX7_extend_104 : decode cX7_extend 104 = .ok (.getfield 18, 3) := by decide +kernel
theorem dX7_extend_107 : decode cX7_extend 107 = .ok (.iload 7, 2) := by decide +kernel
theorem dX7_extend_109 : decode cX7_extend 109 = .ok (.iaload, 1) := by decide +kernel
theorem dX7_extend_110 : decode cX7_extend 110 = .ok (.iadd, 1) := by decide +kernel
theorem dX7_extend_111 : decode cX7_extend 111 = .ok (.goto 5, 3) := by decide +kernel
theorem dX7_extend_114 : decode cX7_extend 114 = .ok (.iload 4, 2) := by decide +kernel
theorem dX7_extend_116 : decode cX7_extend 116 = .ok (.istore 10, 2) := by decide +kernel
theorem dX7_extend_118 : decode cX7_extend 118 = .ok (.aload_n 0, 1) := by decide +kernel
theorem dX7_extend_119 : decode cX7_extend 119 = .ok (.getfield 15, 3) := by decide +kernel
theorem dX7_extend_122 : decode cX7_extend 122 = .ok (.iload_n 1, 1) := by decide +kernel
theorem dX7_extend_123 : decode cX7_extend 123 = .ok (.iload 7, 2) := by decide +kernel
theorem dX7_extend_125 : decode cX7_extend 125 = .ok (.iastore, 1) := by decide +kernel
theorem dX7_extend_126 : decode cX7_extend 126 = .ok (.iload 8, 2) := by decide +kernel
theorem dX7_extend_128 : decode cX7_extend 128 = .ok (.aload_n 0, 1) := by decide +kernel
theorem dX7_extend_129 : decode cX7_extend 129 = .ok (.getfield 98, 3) := by decide +kernel
theorem dX7_extend_132 : decode cX7_extend 132 = .ok (.if_icmp .ne 21, 3) := by decide +kernel
theorem dX7_extend_135 : decode cX7_extend 135 = .ok (.aload_n 0, 1) := by decide +kernel
theorem dX7_extend_136 : decode cX7_extend 136 = .ok (.iload_n 1, 1) := by decide +kernel
theorem dX7_extend_137 : decode cX7_extend 137 = .ok (.iconst 1, 1) := by decide +kernel
theorem dX7_extend_138 : decode cX7_extend 138 = .ok (.iadd, 1) := by decide +kernel
theorem dX7_extend_139 : decode cX7_extend 139 = .ok (.iload 9, 2) := by decide +kernel
theorem dX7_extend_141 : decode cX7_extend 141 = .ok (.iload_n 3, 1) := by decide +kernel
theorem dX7_extend_142 : decode cX7_extend 142 = .ok (.invokestatic 115, 3) := by decide +kernel
theorem dX7_extend_145 : decode cX7_extend 145 = .ok (.iload 10, 2) := by decide +kernel
theorem dX7_extend_147 : decode cX7_extend 147 = .ok (.invokevirtual 118, 3) := by decide +kernel
theorem dX7_extend_150 : decode cX7_extend 150 = .ok (.goto 37, 3) := by decide +kernel
theorem dX7_extend_153 : decode cX7_extend 153 = .ok (.iload 8, 2) := by decide +kernel
theorem dX7_extend_155 : decode cX7_extend 155 = .ok (.iload 5, 2) := by decide +kernel
theorem dX7_extend_157 : decode cX7_extend 157 = .ok (.invokestatic 122, 3) := by decide +kernel
theorem dX7_extend_160 : decode cX7_extend 160 = .ok (.ifCond .ne 27, 3) := by decide +kernel
theorem dX7_extend_163 : decode cX7_extend 163 = .ok (.aload_n 0, 1) := by decide +kernel
theorem dX7_extend_164 : decode cX7_extend 164 = .ok (.iload_n 1, 1) := by decide +kernel
theorem dX7_extend_165 : decode cX7_extend 165 = .ok (.iconst 1, 1) := by decide +kernel
theorem dX7_extend_166 : decode cX7_extend 166 = .ok (.iadd, 1) := by decide +kernel
theorem dX7_extend_167 : decode cX7_extend 167 = .ok (.iload 8, 2) := by decide +kernel
theorem dX7_extend_169 : decode cX7_extend 169 = .ok (.iload 9, 2) := by decide +kernel
theorem dX7_extend_171 : decode cX7_extend 171 = .ok (.iload_n 3, 1) := by decide +kernel
theorem dX7_extend_172 : decode cX7_extend 172 = .ok (.invokestatic 115, 3) := by decide +kernel
theorem dX7_extend_175 : decode cX7_extend 175 = .ok (.iload 10, 2) := by decide +kernel
theorem dX7_extend_177 : decode cX7_extend 177 = .ok (.iload 5, 2) := by decide +kernel
theorem dX7_extend_179 : decode cX7_extend 179 = .ok (.iconst 1, 1) := by decide +kernel
theorem dX7_extend_180 : decode cX7_extend 180 = .ok (.iload 8, 2) := by decide +kernel
theorem dX7_extend_182 : decode cX7_extend 182 = .ok (.ishl, 1) := by decide +kernel
theorem dX7_extend_183 : decode cX7_extend 183 = .ok (.ior, 1) := by decide +kernel
theorem dX7_extend_184 : decode cX7_extend 184 = .ok (.invokevirtual 107, 3) := by decide +kernel
theorem dX7_extend_187 : decode cX7_extend 187 = .ok (.iinc 6 1, 3) := by decide +kernel
theorem dX7_extend_190 : decode cX7_extend 190 = .ok (.goto (-155), 3) := by decide +kernel
theorem dX7_extend_193 : decode cX7_extend 193 = .ok (.return_, 1) := by decide +kernel
theorem dX7_isBetter_0 : decode cX7_isBetter 0 = .ok (.iload_n 2, 1) := by decide +kernel
theorem dX7_isBetter_1 : decode cX7_isBetter 1 = .ok (.aload_n 0, 1) := by decide +kernel
theorem dX7_isBetter_2 : decode cX7_isBetter 2 = .ok (.getfield 79, 3) := by decide +kernel
theorem dX7_isBetter_5 : decode cX7_isBetter 5 = .ok (.if_icmp .eq 17, 3) := by decide +kernel
theorem dX7_isBetter_8 : decode cX7_isBetter 8 = .ok (.iload_n 2, 1) := by decide +kernel
theorem dX7_isBetter_9 : decode cX7_isBetter 9 = .ok (.aload_n 0, 1) := by decide +kernel
theorem dX7_isBetter_10 : decode cX7_isBetter 10 = .ok (.getfield 79, 3) := by decide +kernel
theorem dX7_isBetter_13 : decode cX7_isBetter 13 = .ok (.if_icmp .le 7, 3) := by decide +kernel
theorem dX7_isBetter_16 : decode cX7_isBetter 16 = .ok (.iconst 1, 1) := by decide +kernel
theorem dX7_isBetter_17 : decode cX7_isBetter 17 = .ok (.goto 4, 3) := by decide +kernel
theorem dX7_isBetter_20 : decode cX7_isBetter 20 = .ok (.iconst 0, 1) := by decide +kernel
theorem dX7_isBetter_21 : decode cX7_isBetter 21 = .ok (.ireturn, 1) := by decide +kernel
theorem dX7_isBetter_22 : decode cX7_isBetter 22 = .ok (.iload_n 1, 1) := by decide +kernel
theorem dX7_isBetter_23 : decode cX7_isBetter 23 = .ok (.aload_n 0, 1) := by decide +kernel
theorem dX7_isBetter_24 : decode cX7_isBetter 24 = .ok (.getfield 61, 3) := by decide +kernel
theorem dX7_isBetter_27 : decode cX7_isBetter 27 = .ok (.if_icmp .lt 26, 3) := by decide +kernel
theorem dX7_isBetter_30 : decode cX7_isBetter 30 = .ok (.iload_n 1, 1) := by decide +kernel
theorem dX7_isBetter_31 : decode cX7_isBetter 31 = .ok (.aload_n 0, 1) := by decide +kernel
theorem dX7_isBetter_32 : decode cX7_isBetter 32 = .ok (.getfield 61, 3) := by decide +kernel
theorem dX7_isBetter_35 : decode cX7_isBetter 35 = .ok (.if_icmp .ne 22, 3) := by decide +kernel
theorem dX7_isBetter_38 : decode cX7_isBetter 38 = .ok (.aload_n 0, 1) := by decide +kernel
theorem dX7_isBetter_39 : decode cX7_isBetter 39 = .ok (.getfield 15, 3) := by decide +kernel
theorem dX7_isBetter_42 : decode cX7_isBetter 42 = .ok (.iconst 0, 1) := by decide +kernel
theorem dX7_isBetter_43 : decode cX7_isBetter 43 = .ok (.iaload, 1) := by decide +kernel
theorem dX7_isBetter_44 : decode cX7_isBetter 44 = .ok (.aload_n 0, 1) := by decide +kernel
theorem dX7_isBetter_45 : decode cX7_isBetter 45 = .ok (.getfield 9, 3) := by decide +kernel
theorem dX7_isBetter_48 : decode cX7_isBetter 48 = .ok (.iconst 0, 1) := by decide +kernel
theorem dX7_isBetter_49 : decode cX7_isBetter 49 = .ok (.iaload, 1) := by decide +kernel
theorem dX7_isBetter_50 : decode cX7_isBetter 50 = .ok (.if_icmp .eq 7, 3) := by decide +kernel
theorem dX7_isBetter_53 : decode cX7_isBetter 53 = .ok (.iconst 1, 1) := by decide +kernel
theorem dX7_isBetter_54 : decode cX7_isBetter 54 = .ok (.goto 4, 3) := by decide +kernel
theorem dX7_isBetter_57 : decode cX7_isBetter 57 = .ok (.iconst 0, 1) := by decide +kernel
theorem dX7_isBetter_58 : decode cX7_isBetter 58 = .ok (.ireturn, 1) := by decide +kernel
theorem dX7_offer_0 : decode cX7_offer 0 = .ok (.aload_n 0, 1) := by decide +kernel
theorem dX7_offer_1 : decode cX7_offer 1 = .ok (.iload_n 1, 1) := by decide +kernel
theorem dX7_offer_2 : decode cX7_offer 2 = .ok (.iload_n 3, 1) := by decide +kernel
theorem dX7_offer_3 : decode cX7_offer 3 = .ok (.invokevirtual 111, 3) := by decide +kernel
theorem dX7_offer_6 : decode cX7_offer 6 = .ok (.ifCond .eq 32, 3) := by decide +kernel
theorem dX7_offer_9 : decode cX7_offer 9 = .ok (.aload_n 0, 1) := by decide +kernel
theorem dX7_offer_10 : decode cX7_offer 10 = .ok (.getfield 15, 3) := by decide +kernel
theorem dX7_offer_13 : decode cX7_offer 13 = .ok (.iconst 0, 1) := by decide +kernel
theorem dX7_offer_14 : decode cX7_offer 14 = .ok (.aload_n 0, 1) := by decide +kernel
theorem dX7_offer_15 : decode cX7_offer 15 = .ok (.getfield 9, 3) := by decide +kernel
theorem dX7_offer_18 : decode cX7_offer 18 = .ok (.iconst 0, 1) := by decide +kernel
theorem dX7_offer_19 : decode cX7_offer 19 = .ok (.iconst 5, 1) := by decide +kernel
theorem dX7_offer_20 : decode cX7_offer 20 = .ok (.invokestatic 34, 3) := by decide +kernel
theorem dX7_offer_23 : decode cX7_offer 23 = .ok (.aload_n 0, 1) := by decide +kernel
theorem dX7_offer_24 : decode cX7_offer 24 = .ok (.iload_n 1, 1) := by decide +kernel
theorem dX7_offer_25 : decode cX7_offer 25 = .ok (.putfield 61, 3) := by decide +kernel
theorem dX7_offer_28 : decode cX7_offer 28 = .ok (.aload_n 0, 1) := by decide +kernel
theorem dX7_offer_29 : decode cX7_offer 29 = .ok (.iload_n 2, 1) := by decide +kernel
theorem dX7_offer_30 : decode cX7_offer 30 = .ok (.putfield 82, 3) := by decide +kernel
theorem dX7_offer_33 : decode cX7_offer 33 = .ok (.aload_n 0, 1) := by decide +kernel
theorem dX7_offer_34 : decode cX7_offer 34 = .ok (.iload_n 3, 1) := by decide +kernel
theorem dX7_offer_35 : decode cX7_offer 35 = .ok (.putfield 79, 3) := by decide +kernel
theorem dX7_offer_38 : decode cX7_offer 38 = .ok (.return_, 1) := by decide +kernel
theorem dX8_init_0 : decode cX8_init 0 = .ok (.aload_n 0, 1) := by decide +kernel
theorem dX8_init_1 : decode cX8_init 1 = .ok (.invokespecial 3, 3) := by decide +kernel
theorem dX8_init_4 : decode cX8_init 4 = .ok (.aload_n 0, 1) := by decide +kernel
theorem dX8_init_5 : decode cX8_init 5 = .ok (.bipush 9, 2) := by decide +kernel
theorem dX8_init_7 : decode cX8_init 7 = .ok (.newarray .int, 2) := by decide +kernel
theorem dX8_init_9 : decode cX8_init 9 = .ok (.putfield 9, 3) := by decide +kernel
theorem dX8_init_12 : decode cX8_init 12 = .ok (.aload_n 0, 1) := by decide +kernel
theorem dX8_init_13 : decode cX8_init 13 = .ok (.sipush 512, 3) := by decide +kernel
theorem dX8_init_16 : decode cX8_init 16 = .ok (.newarray .int, 2) := by decide +kernel
theorem dX8_init_18 : decode cX8_init 18 = .ok (.putfield 15, 3) := by decide +kernel
theorem dX8_init_21 : decode cX8_init 21 = .ok (.aload_n 0, 1) := by decide +kernel
theorem dX8_init_22 : decode cX8_init 22 = .ok (.sipush 512, 3) := by decide +kernel
theorem dX8_init_25 : decode cX8_init 25 = .ok (.newarray .int, 2) := by decide +kernel
theorem dX8_init_27 : decode cX8_init 27 = .ok (.putfield 18, 3) := by decide +kernel
theorem dX8_init_30 : decode cX8_init 30 = .ok (.return_, 1) := by decide +kernel
theorem dX8_payments_0 : decode cX8_payments 0 = .ok (.iconst 0, 1) := by decide +kernel
theorem dX8_payments_1 : decode cX8_payments 1 = .ok (.istore_n 2, 1) := by decide +kernel
theorem dX8_payments_2 : decode cX8_payments 2 = .ok (.iconst 0, 1) := by decide +kernel
theorem dX8_payments_3 : decode cX8_payments 3 = .ok (.istore_n 3, 1) := by decide +kernel
theorem dX8_payments_4 : decode cX8_payments 4 = .ok (.iload_n 3, 1) := by decide +kernel
theorem dX8_payments_5 : decode cX8_payments 5 = .ok (.aload_n 1, 1) := by decide +kernel
theorem dX8_payments_6 : decode cX8_payments 6 = .ok (.getfield 21, 3) := by decide +kernel
theorem dX8_payments_9 : decode cX8_payments 9 = .ok (.getfield 27, 3) := by decide +kernel
theorem dX8_payments_12 : decode cX8_payments 12 = .ok (.if_icmp .ge 32, 3) := by decide +kernel
theorem dX8_payments_15 : decode cX8_payments 15 = .ok (.aload_n 1, 1) := by decide +kernel
theorem dX8_payments_16 : decode cX8_payments 16 = .ok (.iload_n 3, 1) := by decide +kernel
theorem dX8_payments_17 : decode cX8_payments 17 = .ok (.invokevirtual 33, 3) := by decide +kernel
theorem dX8_payments_20 : decode cX8_payments 20 = .ok (.istore 4, 2) := by decide +kernel
theorem dX8_payments_22 : decode cX8_payments 22 = .ok (.iload 4, 2) := by decide +kernel
theorem dX8_payments_24 : decode cX8_payments 24 = .ok (.ifCond .eq 14, 3) := by decide +kernel
theorem dX8_payments_27 : decode cX8_payments 27 = .ok (.aload_n 0, 1) := by decide +kernel
theorem dX8_payments_28 : decode cX8_payments 28 = .ok (.getfield 9, 3) := by decide +kernel
theorem dX8_payments_31 : decode cX8_payments 31 = .ok (.iload_n 2, 1) := by decide +kernel
theorem dX8_payments_32 : decode cX8_payments 32 = .ok (.iload 4, 2) := by decide +kernel
theorem dX8_payments_34 : decode cX8_payments 34 = .ok (.iastore, 1) := by decide +kernel
theorem dX8_payments_35 : decode cX8_payments 35 = .ok (.iinc 2 1, 3) := by decide +kernel
theorem dX8_payments_38 : decode cX8_payments 38 = .ok (.iinc 3 1, 3) := by decide +kernel
theorem dX8_payments_41 : decode cX8_payments 41 = .ok (.goto (-37), 3) := by decide +kernel
theorem dX8_payments_44 : decode cX8_payments 44 = .ok (.iconst 1, 1) := by decide +kernel
theorem dX8_payments_45 : decode cX8_payments 45 = .ok (.istore_n 3, 1) := by decide +kernel
theorem dX8_payments_46 : decode cX8_payments 46 = .ok (.iload_n 3, 1) := by decide +kernel
theorem dX8_payments_47 : decode cX8_payments 47 = .ok (.iconst 1, 1) := by decide +kernel
theorem dX8_payments_48 : decode cX8_payments 48 = .ok (.iload_n 2, 1) := by decide +kernel
theorem dX8_payments_49 : decode cX8_payments 49 = .ok (.ishl, 1) := by decide +kernel
theorem dX8_payments_50 : decode cX8_payments 50 = .ok (.if_icmp .ge 128, 3) := by decide +kernel
theorem dX8_payments_53 : decode cX8_payments 53 = .ok (.iload_n 3, 1) := by decide +kernel
theorem dX8_payments_54 : decode cX8_payments 54 = .ok (.sipush 512, 3) := by decide +kernel
theorem dX8_payments_57 : decode cX8_payments 57 = .ok (.if_icmp .ge 121, 3) := by decide +kernel
theorem dX8_payments_60 : decode cX8_payments 60 = .ok (.aload_n 0, 1) := by decide +kernel
theorem dX8_payments_61 : decode cX8_payments 61 = .ok (.getfield 15, 3) := by decide +kernel
theorem dX8_payments_64 : decode cX8_payments 64 = .ok (.iload_n 3, 1) := by decide +kernel
theorem dX8_payments_65 : decode cX8_payments 65 = .ok (.iconst 0, 1) := by decide +kernel
theorem dX8_payments_66 : decode cX8_payments 66 = .ok (.iastore, 1) := by decide +kernel
theorem dX8_payments_67 : decode cX8_payments 67 = .ok (.aload_n 0, 1) := by decide +kernel
theorem dX8_payments_68 : decode cX8_payments 68 = .ok (.getfield 18, 3) := by decide +kernel
theorem dX8_payments_71 : decode cX8_payments 71 = .ok (.iload_n 3, 1) := by decide +kernel
theorem dX8_payments_72 : decode cX8_payments 72 = .ok (.iconst 0, 1) := by decide +kernel
theorem dX8_payments_73 : decode cX8_payments 73 = .ok (.iastore, 1) := by decide +kernel
theorem dX8_payments_74 : decode cX8_payments 74 = .ok (.iconst 0, 1) := by decide +kernel
theorem dX8_payments_75 : decode cX8_payments 75 = .ok (.istore 4, 2) := by decide +kernel
theorem dX8_payments_77 : decode cX8_payments 77 = .ok (.iload 4, 2) := by decide +kernel
theorem dX8_payments_79 : decode cX8_payments 79 = .ok (.iload_n 2, 1) := by decide +kernel
theorem dX8_payments_80 : decode cX8_payments 80 = .ok (.if_icmp .ge 69, 3) := by decide +kernel
theorem dX8_payments_83 : decode cX8_payments 83 = .ok (.iload 4, 2) := by decide +kernel
theorem dX8_payments_85 : decode cX8_payments 85 = .ok (.iload_n 3, 1) := by decide +kernel
theorem dX8_payments_86 : decode cX8_payments 86 = .ok (.invokestatic 37, 3) := by decide +kernel
theorem dX8_payments_89 : decode cX8_payments 89 = .ok (.ifCond .eq 54, 3) := by decide +kernel
theorem dX8_payments_92 : decode cX8_payments 92 = .ok (.iload_n 3, 1) := by decide +kernel
theorem dX8_payments_93 : decode cX8_payments 93 = .ok (.iconst 1, 1) := by decide +kernel
theorem dX8_payments_94 : decode cX8_payments 94 = .ok (.iload 4, 2) := by decide +kernel
theorem dX8_payments_96 : decode cX8_payments 96 = .ok (.ishl, 1) := by decide +kernel
theorem dX8_payments_97 : decode cX8_payments 97 = .ok (.ixor, 1) := by decide +kernel
theorem dX8_payments_98 : decode cX8_payments 98 = .ok (.istore 5, 2) := by decide +kernel
theorem dX8_payments_100 : decode cX8_payments 100 = .ok (.aload_n 0, 1) := by decide +kernel
theorem dX8_payments_101 : decode cX8_payments 101 = .ok (.getfield 15, 3) := by decide +kernel
theorem dX8_payments_104 : decode cX8_payments 104 = .ok (.iload_n 3, 1) := by decide +kernel
theorem dX8_payments_105 : decode cX8_payments 105 = .ok (.aload_n 0, 1) := by decide +kernel
theorem dX8_payments_106 : decode cX8_payments 106 = .ok (.getfield 15, 3) := by decide +kernel
theorem dX8_payments_109 : decode cX8_payments 109 = .ok (.iload 5, 2) := by decide +kernel
theorem dX8_payments_111 : decode cX8_payments 111 = .ok (.iaload, 1) := by decide +kernel
theorem dX8_payments_112 : decode cX8_payments 112 = .ok (.aload_n 0, 1) := by decide +kernel
theorem dX8_payments_113 : decode cX8_payments 113 = .ok (.getfield 9, 3) := by decide +kernel
theorem dX8_payments_116 : decode cX8_payments 116 = .ok (.iload 4, 2) := by decide +kernel
theorem dX8_payments_118 : decode cX8_payments 118 = .ok (.iaload, 1) := by decide +kernel
theorem dX8_payments_119 : decode cX8_payments 119 = .ok (.iadd, 1) := by decide +kernel
theorem dX8_payments_120 : decode cX8_payments 120 = .ok (.iastore, 1) := by decide +kernel
theorem dX8_payments_121 : decode cX8_payments 121 = .ok (.aload_n 0, 1) := by decide +kernel
theorem dX8_payments_122 : decode cX8_payments 122 = .ok (.getfield 18, 3) := by decide +kernel
theorem dX8_payments_125 : decode cX8_payments 125 = .ok (.iload_n 3, 1) := by decide +kernel
theorem dX8_payments_126 : decode cX8_payments 126 = .ok (.aload_n 0, 1) := by decide +kernel
theorem dX8_payments_127 : decode cX8_payments 127 = .ok (.getfield 18, 3) := by decide +kernel
theorem dX8_payments_130 : decode cX8_payments 130 = .ok (.iload_n 3, 1) := by decide +kernel
theorem dX8_payments_131 : decode cX8_payments 131 = .ok (.iaload, 1) := by decide +kernel
theorem dX8_payments_132 : decode cX8_payments 132 = .ok (.aload_n 0, 1) := by decide +kernel
theorem dX8_payments_133 : decode cX8_payments 133 = .ok (.getfield 18, 3) := by decide +kernel
theorem dX8_payments_136 : decode cX8_payments 136 = .ok (.iload 5, 2) := by decide +kernel
theorem dX8_payments_138 : decode cX8_payments 138 = .ok (.iaload, 1) := by decide +kernel
theorem dX8_payments_139 : decode cX8_payments 139 = .ok (.invokestatic 41, 3) := by decide +kernel
theorem dX8_payments_142 : decode cX8_payments 142 = .ok (.iastore, 1) := by decide +kernel
theorem dX8_payments_143 : decode cX8_payments 143 = .ok (.iinc 4 1, 3) := by decide +kernel
theorem dX8_payments_146 : decode cX8_payments 146 = .ok (.goto (-69), 3) := by decide +kernel
theorem dX8_payments_149 : decode cX8_payments 149 = .ok (.aload_n 0, 1) := by decide +kernel
theorem dX8_payments_150 : decode cX8_payments 150 = .ok (.getfield 18, 3) := by decide +kernel
theorem dX8_payments_153 : decode cX8_payments 153 = .ok (.iload_n 3, 1) := by decide +kernel
theorem dX8_payments_154 : decode cX8_payments 154 = .ok (.dup2, 1) := by decide +kernel
theorem dX8_payments_155 : decode cX8_payments 155 = .ok (.iaload, 1) := by decide +kernel
theorem dX8_payments_156 : decode cX8_payments 156 = .ok (.aload_n 0, 1) := by decide +kernel
theorem dX8_payments_157 : decode cX8_payments 157 = .ok (.getfield 15, 3) := by decide +kernel
theorem dX8_payments_160 : decode cX8_payments 160 = .ok (.iload_n 3, 1) := by decide +kernel
theorem dX8_payments_161 : decode cX8_payments 161 = .ok (.iaload, 1) := by decide +kernel
theorem dX8_payments_162 : decode cX8_payments 162 = .ok (.ifCond .ne 7, 3) := by decide +kernel
theorem dX8_payments_165 : decode cX8_payments 165 = .ok (.iconst 1, 1) := by decide +kernel
theorem dX8_payments_166 : decode cX8_payments 166 = .ok (.goto 4, 3) := by decide +kernel
theorem dX8_payments_169 : decode cX8_payments 169 = .ok (.iconst 0, 1) := by decide +kernel
theorem dX8_payments_170 : decode cX8_payments 170 = .ok (.iadd, 1) := by decide +kernel
theorem dX8_payments_171 : decode cX8_payments 171 = .ok (.iastore, 1) := by decide +kernel
theorem dX8_payments_172 : decode cX8_payments 172 = .ok (.iinc 3 1, 3) := by decide +kernel
theorem dX8_payments_175 : decode cX8_payments 175 = .ok (.goto (-129), 3) := by decide +kernel
theorem dX8_payments_178 : decode cX8_payments 178 = .ok (.iload_n 2, 1) := by decide +kernel
theorem dX8_payments_179 : decode cX8_payments 179 = .ok (.aload_n 0, 1) := by decide +kernel
theorem dX8_payments_180 : decode cX8_payments 180 = .ok (.getfield 18, 3) := by decide +kernel
theorem dX8_payments_183 : decode cX8_payments 183 = .ok (.iconst 1, 1) := by decide +kernel
theorem dX8_payments_184 : decode cX8_payments 184 = .ok (.iload_n 2, 1) := by decide +kernel
theorem dX8_payments_185 : decode cX8_payments 185 = .ok (.ishl, 1) := by decide +kernel
theorem dX8_payments_186 : decode cX8_payments 186 = .ok (.iconst 1, 1) := by decide +kernel
theorem dX8_payments_187 : decode cX8_payments 187 = .ok (.isub, 1) := by decide +kernel
theorem dX8_payments_188 : decode cX8_payments 188 = .ok (.iaload, 1) := by decide +kernel
theorem dX8_payments_189 : decode cX8_payments 189 = .ok (.isub, 1) := by decide +kernel
theorem dX8_payments_190 : decode cX8_payments 190 = .ok (.ireturn, 1) := by decide +kernel
theorem dX9_init_0 : decode cX9_init 0 = .ok (.aload_n 0, 1) := by decide +kernel
theorem dX9_init_1 : decode cX9_init 1 = .ok (.invokespecial 3, 3) := by decide +kernel
theorem dX9_init_4 : decode cX9_init 4 = .ok (.aload_n 0, 1) := by decide +kernel
theorem dX9_init_5 : decode cX9_init 5 = .ok (.sipush 640, 3) := by decide +kernel
theorem dX9_init_8 : decode cX9_init 8 = .ok (.newarray .int, 2) := by decide +kernel
theorem dX9_init_10 : decode cX9_init 10 = .ok (.putfield 9, 3) := by decide +kernel
theorem dX9_init_13 : decode cX9_init 13 = .ok (.return_, 1) := by decide +kernel
theorem dX9_add_0 : decode cX9_add 0 = .ok (.bipush 24, 2) := by decide +kernel
theorem dX9_add_2 : decode cX9_add 2 = .ok (.istore_n 2, 1) := by decide +kernel
theorem dX9_add_3 : decode cX9_add 3 = .ok (.iload_n 2, 1) := by decide +kernel
theorem dX9_add_4 : decode cX9_add 4 = .ok (.ifCond .lt 45, 3) := by decide +kernel
theorem dX9_add_7 : decode cX9_add 7 = .ok (.aload_n 0, 1) := by decide +kernel
theorem dX9_add_8 : decode cX9_add 8 = .ok (.getfield 15, 3) := by decide +kernel
theorem dX9_add_11 : decode cX9_add 11 = .ok (.sipush 640, 3) := by decide +kernel
theorem dX9_add_14 : decode cX9_add 14 = .ok (.if_icmp .ge 29, 3) := by decide +kernel
theorem dX9_add_17 : decode cX9_add 17 = .ok (.aload_n 0, 1) := by decide +kernel
theorem dX9_add_18 : decode cX9_add 18 = .ok (.getfield 9, 3) := by decide +kernel
theorem dX9_add_21 : decode cX9_add 21 = .ok (.aload_n 0, 1) := by decide +kernel
theorem dX9_add_22 : decode cX9_add 22 = .ok (.getfield 15, 3) := by decide +kernel
theorem dX9_add_25 : decode cX9_add 25 = .ok (.iload_n 1, 1) := by decide +kernel
theorem dX9_add_26 : decode cX9_add 26 = .ok (.iload_n 2, 1) := by decide +kernel
theorem dX9_add_27 : decode cX9_add 27 = .ok (.ishr, 1) := by decide +kernel
theorem dX9_add_28 : decode cX9_add 28 = .ok (.sipush 255, 3) := by decide +kernel
theorem dX9_add_31 : decode cX9_add 31 = .ok (.iand, 1) := by decide +kernel
theorem dX9_add_32 : decode cX9_add 32 = .ok (.iastore, 1) := by decide +kernel
theorem dX9_add_33 : decode cX9_add 33 = .ok (.aload_n 0, 1) := by decide +kernel
theorem dX9_add_34 : decode cX9_add 34 = .ok (.dup, 1) := by decide +kernel
theorem dX9_add_35 : decode cX9_add 35 = .ok (.getfield 15, 3) := by decide +kernel
theorem dX9_add_38 : decode cX9_add 38 = .ok (.iconst 1, 1) := by decide +kernel
theorem dX9_add_39 : decode cX9_add 39 = .ok (.iadd, 1) := by decide +kernel
theorem dX9_add_40 : decode cX9_add 40 = .ok (.putfield 15, 3) := by decide +kernel
theorem dX9_add_43 : decode cX9_add 43 = .ok (.iinc 2 (-8), 3) := by decide +kernel
theorem dX9_add_46 : decode cX9_add 46 = .ok (.goto (-43), 3) := by decide +kernel
theorem dX9_add_49 : decode cX9_add 49 = .ok (.return_, 1) := by decide +kernel
theorem dX9_byteOr_0 : decode cX9_byteOr 0 = .ok (.iload_n 1, 1) := by decide +kernel
theorem dX9_byteOr_1 : decode cX9_byteOr 1 = .ok (.ifCond .lt 27, 3) := by decide +kernel
theorem dX9_byteOr_4 : decode cX9_byteOr 4 = .ok (.iload_n 1, 1) := by decide +kernel
theorem dX9_byteOr_5 : decode cX9_byteOr 5 = .ok (.aload_n 0, 1) := by decide +kernel
theorem dX9_byteOr_6 : decode cX9_byteOr 6 = .ok (.getfield 15, 3) := by decide +kernel
theorem dX9_byteOr_9 : decode cX9_byteOr 9 = .ok (.if_icmp .ge 19, 3) := by decide +kernel
theorem dX9_byteOr_12 : decode cX9_byteOr 12 = .ok (.iload_n 1, 1) := by decide +kernel
theorem dX9_byteOr_13 : decode cX9_byteOr 13 = .ok (.sipush 640, 3) := by decide +kernel
theorem dX9_byteOr_16 : decode cX9_byteOr 16 = .ok (.if_icmp .ge 12, 3) := by decide +kernel
theorem dX9_byteOr_19 : decode cX9_byteOr 19 = .ok (.aload_n 0, 1) := by decide +kernel
theorem dX9_byteOr_20 : decode cX9_byteOr 20 = .ok (.getfield 9, 3) := by decide +kernel
theorem dX9_byteOr_23 : decode cX9_byteOr 23 = .ok (.iload_n 1, 1) := by decide +kernel
theorem dX9_byteOr_24 : decode cX9_byteOr 24 = .ok (.iaload, 1) := by decide +kernel
theorem dX9_byteOr_25 : decode cX9_byteOr 25 = .ok (.goto 4, 3) := by decide +kernel
theorem dX9_byteOr_28 : decode cX9_byteOr 28 = .ok (.iload_n 2, 1) := by decide +kernel
theorem dX9_byteOr_29 : decode cX9_byteOr 29 = .ok (.ireturn, 1) := by decide +kernel
theorem dX9_begin_0 : decode cX9_begin 0 = .ok (.aload_n 0, 1) := by decide +kernel
theorem dX9_begin_1 : decode cX9_begin 1 = .ok (.iconst 0, 1) := by decide +kernel
theorem dX9_begin_2 : decode cX9_begin 2 = .ok (.putfield 19, 3) := by decide +kernel
theorem dX9_begin_5 : decode cX9_begin 5 = .ok (.aload_n 0, 1) := by decide +kernel
theorem dX9_begin_6 : decode cX9_begin 6 = .ok (.iconst 0, 1) := by decide +kernel
theorem dX9_begin_7 : decode cX9_begin 7 = .ok (.putfield 22, 3) := by decide +kernel
theorem dX9_begin_10 : decode cX9_begin 10 = .ok (.aload_n 0, 1) := by decide +kernel
theorem dX9_begin_11 : decode cX9_begin 11 = .ok (.iconst 0, 1) := by decide +kernel
theorem dX9_begin_12 : decode cX9_begin 12 = .ok (.putfield 25, 3) := by decide +kernel
theorem dX9_begin_15 : decode cX9_begin 15 = .ok (.return_, 1) := by decide +kernel
theorem dX9_refuse_0 : decode cX9_refuse 0 = .ok (.aload_n 0, 1) := by decide +kernel
theorem dX9_refuse_1 : decode cX9_refuse 1 = .ok (.iload_n 1, 1) := by decide +kernel
theorem dX9_refuse_2 : decode cX9_refuse 2 = .ok (.putfield 22, 3) := by decide +kernel
theorem dX9_refuse_5 : decode cX9_refuse 5 = .ok (.aload_n 0, 1) := by decide +kernel
theorem dX9_refuse_6 : decode cX9_refuse 6 = .ok (.aload_n 0, 1) := by decide +kernel
theorem dX9_refuse_7 : decode cX9_refuse 7 = .ok (.getfield 28, 3) := by decide +kernel
theorem dX9_refuse_10 : decode cX9_refuse 10 = .ok (.putfield 25, 3) := by decide +kernel
theorem dX9_refuse_13 : decode cX9_refuse 13 = .ok (.iconst 0, 1) := by decide +kernel
theorem dX9_refuse_14 : decode cX9_refuse 14 = .ok (.ireturn, 1) := by decide +kernel
theorem dX9_nextToken_0 : decode cX9_nextToken 0 = .ok (.aload_n 0, 1) := by decide +kernel
theorem dX9_nextToken_1 : decode cX9_nextToken 1 = .ok (.getfield 19, 3) := by decide +kernel
theorem dX9_nextToken_4 : decode cX9_nextToken 4 = .ok (.aload_n 0, 1) := by decide +kernel
theorem dX9_nextToken_5 : decode cX9_nextToken 5 = .ok (.getfield 15, 3) := by decide +kernel
theorem dX9_nextToken_8 : decode cX9_nextToken 8 = .ok (.if_icmp .ge 31, 3) := by decide +kernel
theorem dX9_nextToken_11 : decode cX9_nextToken 11 = .ok (.aload_n 0, 1) := by decide +kernel
theorem dX9_nextToken_12 : decode cX9_nextToken 12 = .ok (.aload_n 0, 1) := by decide +kernel
theorem dX9_nextToken_13 : decode cX9_nextToken 13 = .ok (.getfield 19, 3) := by decide +kernel
theorem dX9_nextToken_16 : decode cX9_nextToken 16 = .ok (.iconst 0, 1) := by decide +kernel
theorem dX9_nextToken_17 : decode cX9_nextToken 17 = .ok (.invokevirtual 31, 3) := by decide +kernel
theorem dX9_nextToken_20 : decode cX9_nextToken 20 = .ok (.invokestatic 35, 3) := by decide +kernel
theorem dX9_nextToken_23 : decode cX9_nextToken 23 = .ok (.ifCond .eq 16, 3) := by decide +kernel
theorem dX9_nextToken_26 : decode cX9_nextToken 26 = .ok (.aload_n 0, 1) := by decide +kernel
theorem dX9_nextToken_27 : decode cX9_nextToken 27 = .ok (.dup, 1) := by decide +kernel
theorem dX9_nextToken_28 : decode cX9_nextToken 28 = .ok (.getfield 19, 3) := by decide +kernel
theorem dX9_nextToken_31 : decode cX9_nextToken 31 = .ok (.iconst 1, 1) := by decide +kernel
theorem dX9_nextToken_32 : decode cX9_nextToken 32 = .ok (.iadd, 1) := by decide +kernel
theorem dX9_nextToken_33 : decode cX9_nextToken 33 = .ok (.putfield 19, 3) := by decide +kernel
theorem dX9_nextToken_36 : decode cX9_nextToken 36 = .ok (.goto (-36), 3) := by decide +kernel
theorem dX9_nextToken_39 : decode cX9_nextToken 39 = .ok (.aload_n 0, 1) := by decide +kernel
theorem dX9_nextToken_40 : decode cX9_nextToken 40 = .ok (.aload_n 0, 1) := by decide +kernel
theorem dX9_nextToken_41 : decode cX9_nextToken 41 = .ok (.getfield 19, 3) := by decide +kernel
theorem dX9_nextToken_44 : decode cX9_nextToken 44 = .ok (.putfield 28, 3) := by decide +kernel
theorem dX9_nextToken_47 : decode cX9_nextToken 47 = .ok (.aload_n 0, 1) := by decide +kernel
theorem dX9_nextToken_48 : decode cX9_nextToken 48 = .ok (.getfield 19, 3) := by decide +kernel
theorem dX9_nextToken_51 : decode cX9_nextToken 51 = .ok (.aload_n 0, 1) := by decide +kernel
theorem dX9_nextToken_52 : decode cX9_nextToken 52 = .ok (.getfield 15, 3) := by decide +kernel
theorem dX9_nextToken_55 : decode cX9_nextToken 55 = .ok (.if_icmp .ge 13, 3) := by decide +kernel
theorem dX9_nextToken_58 : decode cX9_nextToken 58 = .ok (.aload_n 0, 1) := by decide +kernel
theorem dX9_nextToken_59 : decode cX9_nextToken 59 = .ok (.getfield 19, 3) := by decide +kernel
theorem dX9_nextToken_62 : decode cX9_nextToken 62 = .ok (.sipush 600, 3) := by decide +kernel
theorem dX9_nextToken_65 : decode cX9_nextToken 65 = .ok (.if_icmp .lt 23, 3) := by decide +kernel
theorem dX9_nextToken_68 : decode cX9_nextToken 68 = .ok (.aload_n 0, 1) := by decide +kernel
theorem dX9_nextToken_69 : decode cX9_nextToken 69 = .ok (.aload_n 0, 1) := by decide +kernel
theorem dX9_nextToken_70 : decode cX9_nextToken 70 = .ok (.getfield 15, 3) := by decide +kernel
theorem dX9_nextToken_73 : decode cX9_nextToken 73 = .ok (.sipush 600, 3) := by decide +kernel
theorem dX9_nextToken_76 : decode cX9_nextToken 76 = .ok (.invokestatic 39, 3) := by decide +kernel
theorem dX9_nextToken_79 : decode cX9_nextToken 79 = .ok (.putfield 28, 3) := by decide +kernel
theorem dX9_nextToken_82 : decode cX9_nextToken 82 = .ok (.aload_n 0, 1) := by decide +kernel
theorem dX9_nextToken_83 : decode cX9_nextToken 83 = .ok (.iconst 0, 1) := by decide +kernel
theorem dX9_nextToken_84 : decode cX9_nextToken 84 = .ok (.putfield 44, 3) := by decide +kernel
theorem dX9_nextToken_87 : decode cX9_nextToken 87 = .ok (.return_, 1) := by decide +kernel
theorem dX9_nextToken_88 : decode cX9_nextToken 88 = .ok (.aload_n 0, 1) := by decide +kernel
theorem dX9_nextToken_89 : decode cX9_nextToken 89 = .ok (.aload_n 0, 1) := by decide +kernel
theorem dX9_nextToken_90 : decode cX9_nextToken 90 = .ok (.getfield 19, 3) := by decide +kernel
theorem dX9_nextToken_93 : decode cX9_nextToken 93 = .ok (.iconst 0, 1) := by decide +kernel
theorem dX9_nextToken_94 : decode cX9_nextToken 94 = .ok (.invokevirtual 31, 3) := by decide +kernel
theorem dX9_nextToken_97 : decode cX9_nextToken 97 = .ok (.istore_n 1, 1) := by decide +kernel
theorem dX9_nextToken_98 : decode cX9_nextToken 98 = .ok (.iload_n 1, 1) := by decide +kernel
theorem dX9_nextToken_99 : decode cX9_nextToken 99 = .ok (.invokestatic 47, 3) := by decide +kernel
theorem dX9_nextToken_102 : decode cX9_nextToken 102 = .ok (.ifCond .ne 10, 3) := by decide +kernel
theorem dX9_nextToken_105 : decode cX9_nextToken 105 = .ok (.iload_n 1, 1) := by decide +kernel
theorem dX9_nextToken_106 : decode cX9_nextToken 106 = .ok (.invokestatic 50, 3) := by decide +kernel
theorem dX9_nextToken_109 : decode cX9_nextToken 109 = .ok (.ifCond .eq 10, 3) := by decide +kernel
theorem dX9_nextToken_112 : decode cX9_nextToken 112 = .ok (.aload_n 0, 1) := by decide +kernel
theorem dX9_nextToken_113 : decode cX9_nextToken 113 = .ok (.invokevirtual 53, 3) := by decide +kernel
theorem dX9_nextToken_116 : decode cX9_nextToken 116 = .ok (.goto 28, 3) := by decide +kernel
theorem dX9_nextToken_119 : decode cX9_nextToken 119 = .ok (.aload_n 0, 1) := by decide +kernel
theorem dX9_nextToken_120 : decode cX9_nextToken 120 = .ok (.iload_n 1, 1) := by decide +kernel
theorem dX9_nextToken_121 : decode cX9_nextToken 121 = .ok (.bipush 59, 2) := by decide +kernel
theorem dX9_nextToken_123 : decode cX9_nextToken 123 = .ok (.if_icmp .ne 7, 3) := by decide +kernel
theorem dX9_nextToken_126 : decode cX9_nextToken 126 = .ok (.iconst 3, 1) := by decide +kernel
theorem dX9_nextToken_127 : decode cX9_nextToken 127 = .ok (.goto 4, 3) := by decide +kernel
theorem dX9_nextToken_130 : decode cX9_nextToken 130 = .ok (.iconst 4, 1) := by decide +kernel
theorem dX9_nextToken_131 : decode cX9_nextToken 131 = .ok (.putfield 44, 3) := by decide +kernel
theorem dX9_nextToken_134 : decode cX9_nextToken 134 = .ok (.aload_n 0, 1) := by decide +kernel
theorem dX9_nextToken_135 : decode cX9_nextToken 135 = .ok (.dup, 1) := by decide +kernel
theorem dX9_nextToken_136 : decode cX9_nextToken 136 = .ok (.getfield 19, 3) := by decide +kernel
theorem dX9_nextToken_139 : decode cX9_nextToken 139 = .ok (.iconst 1, 1) := by decide +kernel
theorem dX9_nextToken_140 : decode cX9_nextToken 140 = .ok (.iadd, 1) := by decide +kernel
theorem dX9_nextToken_141 : decode cX9_nextToken 141 = .ok (.putfield 19, 3) := by decide +kernel
theorem dX9_nextToken_144 : decode cX9_nextToken 144 = .ok (.return_, 1) := by decide +kernel
theorem dX9_readRun_0 : decode cX9_readRun 0 = .ok (.iconst 0, 1) := by decide +kernel
theorem dX9_readRun_1 : decode cX9_readRun 1 = .ok (.istore_n 1, 1) := by decide +kernel
theorem dX9_readRun_2 : decode cX9_readRun 2 = .ok (.iconst 0, 1) := by decide +kernel
theorem dX9_readRun_3 : decode cX9_readRun 3 = .ok (.istore_n 2, 1) := by decide +kernel
theorem dX9_readRun_4 : decode cX9_readRun 4 = .ok (.aload_n 0, 1) := by decide +kernel
theorem dX9_readRun_5 : decode cX9_readRun 5 = .ok (.lconst 0, 1) := by decide +kernel
theorem dX9_readRun_6 : decode cX9_readRun 6 = .ok (.putfield 56, 3) := by decide +kernel
theorem dX9_readRun_9 : decode cX9_readRun 9 = .ok (.aload_n 0, 1) := by decide +kernel
theorem dX9_readRun_10 : decode cX9_readRun 10 = .ok (.iconst 0, 1) := by decide +kernel
theorem dX9_readRun_11 : decode cX9_readRun 11 = .ok (.putfield 60, 3) := by decide +kernel
theorem dX9_readRun_14 : decode cX9_readRun 14 = .ok (.aload_n 0, 1) := by decide +kernel
theorem dX9_readRun_15 : decode cX9_readRun 15 = .ok (.getfield 19, 3) := by decide +kernel
theorem dX9_readRun_18 : decode cX9_readRun 18 = .ok (.aload_n 0, 1) := by decide +kernel
theorem dX9_readRun_19 : decode cX9_readRun 19 = .ok (.getfield 15, 3) := by decide +kernel
theorem dX9_readRun_22 : decode cX9_readRun 22 = .ok (.if_icmp .ge 116, 3) := by decide +kernel
theorem dX9_readRun_25 : decode cX9_readRun 25 = .ok (.aload_n 0, 1) := by decide +kernel
theorem dX9_readRun_26 : decode cX9_readRun 26 = .ok (.aload_n 0, 1) := by decide +kernel
theorem dX9_readRun_27 : decode cX9_readRun 27 = .ok (.getfield 19, 3) := by decide +kernel
theorem dX9_readRun_30 : decode cX9_readRun 30 = .ok (.iconst 0, 1) := by decide +kernel
theorem dX9_readRun_31 : decode cX9_readRun 31 = .ok (.invokevirtual 31, 3) := by decide +kernel
theorem dX9_readRun_34 : decode cX9_readRun 34 = .ok (.invokestatic 47, 3) := by decide +kernel
theorem dX9_readRun_37 : decode cX9_readRun 37 = .ok (.ifCond .ne 18, 3) := by decide +kernel
theorem dX9_readRun_40 : decode cX9_readRun 40 = .ok (.aload_n 0, 1) := by decide +kernel
theorem dX9_readRun_41 : decode cX9_readRun 41 = .ok (.aload_n 0, 1) := by decide +kernel
theorem dX9_readRun_42 : decode cX9_readRun 42 = .ok (.getfield 19, 3) := by decide +kernel
theorem dX9_readRun_45 : decode cX9_readRun 45 = .ok (.iconst 0, 1) := by decide +kernel
theorem dX9_readRun_46 : decode cX9_readRun 46 = .ok (.invokevirtual 31, 3) := by decide +kernel
theorem dX9_readRun_49 : decode cX9_readRun 49 = .ok (.invokestatic 50, 3) := by decide +kernel
theorem dX9_readRun_52 : decode cX9_readRun 52 = .ok (.ifCond .eq 86, 3) := by decide +kernel
theorem dX9_readRun_55 : decode cX9_readRun 55 = .ok (.aload_n 0, 1) := by decide +kernel
theorem dX9_readRun_56 : decode cX9_readRun 56 = .ok (.aload_n 0, 1) := by decide +kernel
theorem dX9_readRun_57 : decode cX9_readRun 57 = .ok (.getfield 19, 3) := by decide +kernel
theorem dX9_readRun_60 : decode cX9_readRun 60 = .ok (.iconst 0, 1) := by decide +kernel
theorem dX9_readRun_61 : decode cX9_readRun 61 = .ok (.invokevirtual 31, 3) := by decide +kernel
theorem dX9_readRun_64 : decode cX9_readRun 64 = .ok (.istore_n 3, 1) := by decide +kernel
theorem dX9_readRun_65 : decode cX9_readRun 65 = .ok (.iload_n 1, 1) := by decide +kernel
theorem dX9_readRun_66 : decode cX9_readRun 66 = .ok (.iload_n 3, 1) := by decide +kernel
theorem dX9_readRun_67 : decode cX9_readRun 67 = .ok (.invokestatic 47, 3) := by decide +kernel
theorem dX9_readRun_70 : decode cX9_readRun 70 = .ok (.ifCond .eq 7, 3) := by decide +kernel
theorem dX9_readRun_73 : decode cX9_readRun 73 = .ok (.iconst 1, 1) := by decide +kernel
theorem dX9_readRun_74 : decode cX9_readRun 74 = .ok (.goto 4, 3) := by decide +kernel
theorem dX9_readRun_77 : decode cX9_readRun 77 = .ok (.iconst 0, 1) := by decide +kernel
theorem dX9_readRun_78 : decode cX9_readRun 78 = .ok (.iadd, 1) := by decide +kernel
theorem dX9_readRun_79 : decode cX9_readRun 79 = .ok (.istore_n 1, 1) := by decide +kernel
theorem dX9_readRun_80 : decode cX9_readRun 80 = .ok (.iload_n 2, 1) := by decide +kernel
theorem dX9_readRun_81 : decode cX9_readRun 81 = .ok (.iload_n 3, 1) := by decide +kernel
theorem dX9_readRun_82 : decode cX9_readRun 82 = .ok (.invokestatic 50, 3) := by decide +kernel
theorem dX9_readRun_85 : decode cX9_readRun 85 = .ok (.ifCond .eq 7, 3) := by decide +kernel
theorem dX9_readRun_88 : decode cX9_readRun 88 = .ok (.iconst 1, 1) := by decide +kernel
theorem dX9_readRun_89 : decode cX9_readRun 89 = .ok (.goto 4, 3) := by decide +kernel
theorem dX9_readRun_92 : decode cX9_readRun 92 = .ok (.iconst 0, 1) := by decide +kernel
theorem dX9_readRun_93 : decode cX9_readRun 93 = .ok (.iadd, 1) := by decide +kernel
theorem dX9_readRun_94 : decode cX9_readRun 94 = .ok (.istore_n 2, 1) := by decide +kernel
theorem dX9_readRun_95 : decode cX9_readRun 95 = .ok (.aload_n 0, 1) := by decide +kernel
theorem dX9_readRun_96 : decode cX9_readRun 96 = .ok (.aload_n 0, 1) := by decide +kernel
theorem dX9_readRun_97 : decode cX9_readRun 97 = .ok (.getfield 56, 3) := by decide +kernel
theorem dX9_readRun_100 : decode cX9_readRun 100 = .ok (.bipush 8, 2) := by decide +kernel
theorem dX9_readRun_102 : decode cX9_readRun 102 = .ok (.lshl, 1) := by decide +kernel
theorem dX9_readRun_103 : decode cX9_readRun 103 = .ok (.iload_n 3, 1) := by decide +kernel
theorem dX9_readRun_104 : decode cX9_readRun 104 = .ok (.i2l, 1) := by decide +kernel
theorem dX9_readRun_105 : decode cX9_readRun 105 = .ok (.lor, 1) := by decide +kernel
theorem dX9_readRun_106 : decode cX9_readRun 106 = .ok (.putfield 56, 3) := by decide +kernel
theorem dX9_readRun_109 : decode cX9_readRun 109 = .ok (.aload_n 0, 1) := by decide +kernel
theorem dX9_readRun_110 : decode cX9_readRun 110 = .ok (.aload_n 0, 1) := by decide +kernel
theorem dX9_readRun_111 : decode cX9_readRun 111 = .ok (.getfield 60, 3) := by decide +kernel
theorem dX9_readRun_114 : decode cX9_readRun 114 = .ok (.bipush 10, 2) := by decide +kernel
theorem dX9_readRun_116 : decode cX9_readRun 116 = .ok (.imul, 1) := by decide +kernel
theorem dX9_readRun_117 : decode cX9_readRun 117 = .ok (.iload_n 3, 1) := by decide +kernel
theorem dX9_readRun_118 : decode cX9_readRun 118 = .ok (.bipush 48, 2) := by decide +kernel
theorem dX9_readRun_120 : decode cX9_readRun 120 = .ok (.isub, 1) := by decide +kernel
theorem dX9_readRun_121 : decode cX9_readRun 121 = .ok (.iadd, 1) := by decide +kernel
theorem dX9_readRun_122 : decode cX9_readRun 122 = .ok (.putfield 60, 3) := by decide +kernel
theorem dX9_readRun_125 : decode cX9_readRun 125 = .ok (.aload_n 0, 1) := by decide +kernel
theorem dX9_readRun_126 : decode cX9_readRun 126 = .ok (.dup, 1) := by decide +kernel
theorem dX9_readRun_127 : decode cX9_readRun 127 = .ok (.getfield 19, 3) := by decide +kernel
theorem dX9_readRun_130 : decode cX9_readRun 130 = .ok (.iconst 1, 1) := by decide +kernel
theorem dX9_readRun_131 : decode cX9_readRun 131 = .ok (.iadd, 1) := by decide +kernel
theorem dX9_readRun_132 : decode cX9_readRun 132 = .ok (.putfield 19, 3) := by decide +kernel
theorem dX9_readRun_135 : decode cX9_readRun 135 = .ok (.goto (-121), 3) := by decide +kernel
theorem dX9_readRun_138 : decode cX9_readRun 138 = .ok (.aload_n 0, 1) := by decide +kernel
theorem dX9_readRun_139 : decode cX9_readRun 139 = .ok (.iconst 4, 1) := by decide +kernel
theorem dX9_readRun_140 : decode cX9_readRun 140 = .ok (.putfield 44, 3) := by decide +kernel
theorem dX9_readRun_143 : decode cX9_readRun 143 = .ok (.iload_n 2, 1) := by decide +kernel
theorem dX9_readRun_144 : decode cX9_readRun 144 = .ok (.ifCond .ne 14, 3) := by decide +kernel
theorem dX9_readRun_147 : decode cX9_readRun 147 = .ok (.iload_n 1, 1) := by decide +kernel
theorem dX9_readRun_148 : decode cX9_readRun 148 = .ok (.bipush 7, 2) := by decide +kernel
theorem dX9_readRun_150 : decode cX9_readRun 150 = .ok (.if_icmp .gt 8, 3) := by decide +kernel
theorem dX9_readRun_153 : decode cX9_readRun 153 = .ok (.aload_n 0, 1) := by decide +kernel
theorem dX9_readRun_154 : decode cX9_readRun 154 = .ok (.iconst 1, 1) := by decide +kernel
theorem dX9_readRun_155 : decode cX9_readRun 155 = .ok (.putfield 44, 3) := by decide +kernel
theorem dX9_readRun_158 : decode cX9_readRun 158 = .ok (.iload_n 1, 1) := by decide +kernel
theorem dX9_readRun_159 : decode cX9_readRun 159 = .ok (.ifCond .ne 13, 3) := by decide +kernel
theorem dX9_readRun_162 : decode cX9_readRun 162 = .ok (.iload_n 2, 1) := by decide +kernel
theorem dX9_readRun_163 : decode cX9_readRun 163 = .ok (.iconst 2, 1) := by decide +kernel
theorem dX9_readRun_164 : decode cX9_readRun 164 = .ok (.if_icmp .gt 8, 3) := by decide +kernel
theorem dX9_readRun_167 : decode cX9_readRun 167 = .ok (.aload_n 0, 1) := by decide +kernel
theorem dX9_readRun_168 : decode cX9_readRun 168 = .ok (.iconst 2, 1) := by decide +kernel
theorem dX9_readRun_169 : decode cX9_readRun 169 = .ok (.putfield 44, 3) := by decide +kernel
theorem dX9_readRun_172 : decode cX9_readRun 172 = .ok (.return_, 1) := by decide +kernel
theorem dX9_isBlank_0 : decode cX9_isBlank 0 = .ok (.iload_n 0, 1) := by decide +kernel
theorem dX9_isBlank_1 : decode cX9_isBlank 1 = .ok (.bipush 32, 2) := by decide +kernel
theorem dX9_isBlank_3 : decode cX9_isBlank 3 = .ok (.if_icmp .eq 9, 3) := by decide +kernel
theorem dX9_isBlank_6 : decode cX9_isBlank 6 = .ok (.iload_n 0, 1) := by decide +kernel
theorem dX9_isBlank_7 : decode cX9_isBlank 7 = .ok (.bipush 10, 2) := by decide +kernel
theorem dX9_isBlank_9 : decode cX9_isBlank 9 = .ok (.if_icmp .ne 7, 3) := by decide +kernel
theorem dX9_isBlank_12 : decode cX9_isBlank 12 = .ok (.iconst 1, 1) := by decide +kernel
theorem dX9_isBlank_13 : decode cX9_isBlank 13 = .ok (.goto 4, 3) := by decide +kernel
theorem dX9_isBlank_16 : decode cX9_isBlank 16 = .ok (.iconst 0, 1) := by decide +kernel
theorem dX9_isBlank_17 : decode cX9_isBlank 17 = .ok (.ireturn, 1) := by decide +kernel
theorem dX9_isLetter_0 : decode cX9_isLetter 0 = .ok (.iload_n 0, 1) := by decide +kernel
theorem dX9_isLetter_1 : decode cX9_isLetter 1 = .ok (.bipush 97, 2) := by decide +kernel
theorem dX9_isLetter_3 : decode cX9_isLetter 3 = .ok (.if_icmp .lt 13, 3) := by decide +kernel
theorem dX9_isLetter_6 : decode cX9_isLetter 6 = .ok (.iload_n 0, 1) := by decide +kernel
theorem dX9_isLetter_7 : decode cX9_isLetter 7 = .ok (.bipush 122, 2) := by decide +kernel
theorem dX9_isLetter_9 : decode cX9_isLetter 9 = .ok (.if_icmp .gt 7, 3) := by decide +kernel
theorem dX9_isLetter_12 : decode cX9_isLetter 12 = .ok (.iconst 1, 1) := by decide +kernel
theorem dX9_isLetter_13 : decode cX9_isLetter 13 = .ok (.goto 4, 3) := by decide +kernel
theorem dX9_isLetter_16 : decode cX9_isLetter 16 = .ok (.iconst 0, 1) := by decide +kernel
theorem dX9_isLetter_17 : decode cX9_isLetter 17 = .ok (.ireturn, 1) := by decide +kernel
theorem dX9_isDigit_0 : decode cX9_isDigit 0 = .ok (.iload_n 0, 1) := by decide +kernel
theorem dX9_isDigit_1 : decode cX9_isDigit 1 = .ok (.bipush 48, 2) := by decide +kernel
theorem dX9_isDigit_3 : decode cX9_isDigit 3 = .ok (.if_icmp .lt 13, 3) := by decide +kernel
theorem dX9_isDigit_6 : decode cX9_isDigit 6 = .ok (.iload_n 0, 1) := by decide +kernel
theorem dX9_isDigit_7 : decode cX9_isDigit 7 = .ok (.bipush 57, 2) := by decide +kernel
theorem dX9_isDigit_9 : decode cX9_isDigit 9 = .ok (.if_icmp .gt 7, 3) := by decide +kernel
theorem dX9_isDigit_12 : decode cX9_isDigit 12 = .ok (.iconst 1, 1) := by decide +kernel
theorem dX9_isDigit_13 : decode cX9_isDigit 13 = .ok (.goto 4, 3) := by decide +kernel
theorem dX9_isDigit_16 : decode cX9_isDigit 16 = .ok (.iconst 0, 1) := by decide +kernel
theorem dX9_isDigit_17 : decode cX9_isDigit 17 = .ok (.ireturn, 1) := by decide +kernel
theorem dX9_isEnd_0 : decode cX9_isEnd 0 = .ok (.aload_n 0, 1) := by decide +kernel
theorem dX9_isEnd_1 : decode cX9_isEnd 1 = .ok (.getfield 44, 3) := by decide +kernel
theorem dX9_isEnd_4 : decode cX9_isEnd 4 = .ok (.ifCond .ne 7, 3) := by decide +kernel
theorem dX9_isEnd_7 : decode cX9_isEnd 7 = .ok (.iconst 1, 1) := by decide +kernel
theorem dX9_isEnd_8 : decode cX9_isEnd 8 = .ok (.goto 4, 3) := by decide +kernel
theorem dX9_isEnd_11 : decode cX9_isEnd 11 = .ok (.iconst 0, 1) := by decide +kernel
theorem dX9_isEnd_12 : decode cX9_isEnd 12 = .ok (.ireturn, 1) := by decide +kernel
theorem dX9_isAllRead_0 : decode cX9_isAllRead 0 = .ok (.aload_n 0, 1) := by decide +kernel
theorem dX9_isAllRead_1 : decode cX9_isAllRead 1 = .ok (.getfield 15, 3) := by decide +kernel
theorem dX9_isAllRead_4 : decode cX9_isAllRead 4 = .ok (.sipush 600, 3) := by decide +kernel
theorem dX9_isAllRead_7 : decode cX9_isAllRead 7 = .ok (.if_icmp .le 11, 3) := by decide +kernel
theorem dX9_isAllRead_10 : decode cX9_isAllRead 10 = .ok (.aload_n 0, 1) := by decide +kernel
theorem dX9_isAllRead_11 : decode cX9_isAllRead 11 = .ok (.iconst 1, 1) := by decide +kernel
theorem dX9_isAllRead_12 : decode cX9_isAllRead 12 = .ok (.invokevirtual 63, 3) := by decide +kernel
theorem dX9_isAllRead_15 : decode cX9_isAllRead 15 = .ok (.ifCond .eq 7, 3) := by decide +kernel
theorem dX9_isAllRead_18 : decode cX9_isAllRead 18 = .ok (.iconst 1, 1) := by decide +kernel
theorem dX9_isAllRead_19 : decode cX9_isAllRead 19 = .ok (.goto 4, 3) := by decide +kernel
theorem dX9_isAllRead_22 : decode cX9_isAllRead 22 = .ok (.iconst 0, 1) := by decide +kernel
theorem dX9_isAllRead_23 : decode cX9_isAllRead 23 = .ok (.ireturn, 1) := by decide +kernel
theorem dX9_isStop_0 : decode cX9_isStop 0 = .ok (.aload_n 0, 1) := by decide +kernel
theorem dX9_isStop_1 : decode cX9_isStop 1 = .ok (.getfield 44, 3) := by decide +kernel
theorem dX9_isStop_4 : decode cX9_isStop 4 = .ok (.iconst 3, 1) := by decide +kernel
theorem dX9_isStop_5 : decode cX9_isStop 5 = .ok (.if_icmp .eq 11, 3) := by decide +kernel
theorem dX9_isStop_8 : decode cX9_isStop 8 = .ok (.aload_n 0, 1) := by decide +kernel
theorem dX9_isStop_9 : decode cX9_isStop 9 = .ok (.iconst 1, 1) := by decide +kernel
theorem dX9_isStop_10 : decode cX9_isStop 10 = .ok (.invokevirtual 63, 3) := by decide +kernel
theorem dX9_isStop_13 : decode cX9_isStop 13 = .ok (.ifCond .eq 7, 3) := by decide +kernel
theorem dX9_isStop_16 : decode cX9_isStop 16 = .ok (.iconst 1, 1) := by decide +kernel
theorem dX9_isStop_17 : decode cX9_isStop 17 = .ok (.goto 4, 3) := by decide +kernel
theorem dX9_isStop_20 : decode cX9_isStop 20 = .ok (.iconst 0, 1) := by decide +kernel
theorem dX9_isStop_21 : decode cX9_isStop 21 = .ok (.ireturn, 1) := by decide +kernel
theorem dX9_says_0 : decode cX9_says 0 = .ok (.aload_n 0, 1) := by decide +kernel
theorem dX9_says_1 : decode cX9_says 1 = .ok (.getfield 44, 3) := by decide +kernel
theorem dX9_says_4 : decode cX9_says 4 = .ok (.iconst 1, 1) := by decide +kernel
theorem dX9_says_5 : decode cX9_says 5 = .ok (.if_icmp .ne 16, 3) := by decide +kernel
theorem dX9_says_8 : decode cX9_says 8 = .ok (.aload_n 0, 1) := by decide +kernel
theorem dX9_says_9 : decode cX9_says 9 = .ok (.getfield 56, 3) := by decide +kernel
theorem dX9_says_12 : decode cX9_says 12 = .ok (.lload_n 1, 1) := by decide +kernel
theorem dX9_says_13 : decode cX9_says 13 = .ok (.lcmp, 1) := by decide +kernel
theorem dX9_says_14 : decode cX9_says 14 = .ok (.ifCond .ne 7, 3) := by decide +kernel
theorem dX9_says_17 : decode cX9_says 17 = .ok (.iconst 1, 1) := by decide +kernel
theorem dX9_says_18 : decode cX9_says 18 = .ok (.goto 4, 3) := by decide +kernel
theorem dX9_says_21 : decode cX9_says 21 = .ok (.iconst 0, 1) := by decide +kernel
theorem dX9_says_22 : decode cX9_says 22 = .ok (.ireturn, 1) := by decide +kernel
theorem dX9_isName_0 : decode cX9_isName 0 = .ok (.iconst 0, 1) := by decide +kernel
theorem dX9_isName_1 : decode cX9_isName 1 = .ok (.istore_n 1, 1) := by decide +kernel
theorem dX9_isName_2 : decode cX9_isName 2 = .ok (.iload_n 1, 1) := by decide +kernel
theorem dX9_isName_3 : decode cX9_isName 3 = .ok (.getstatic 66, 3) := by decide +kernel
theorem dX9_isName_6 : decode cX9_isName 6 = .ok (.arraylength, 1) := by decide +kernel
theorem dX9_isName_7 : decode cX9_isName 7 = .ok (.if_icmp .ge 24, 3) := by decide +kernel
theorem dX9_isName_10 : decode cX9_isName 10 = .ok (.aload_n 0, 1) := by decide +kernel
theorem dX9_isName_11 : decode cX9_isName 11 = .ok (.getfield 56, 3) := by decide +kernel
theorem dX9_isName_14 : decode cX9_isName 14 = .ok (.getstatic 66, 3) := by decide +kernel
theorem dX9_isName_17 : decode cX9_isName 17 = .ok (.iload_n 1, 1) := by decide +kernel
theorem dX9_isName_18 : decode cX9_isName 18 = .ok (.laload, 1) := by decide +kernel
theorem dX9_isName_19 : decode cX9_isName 19 = .ok (.lcmp, 1) := by decide +kernel
theorem dX9_isName_20 : decode cX9_isName 20 = .ok (.ifCond .ne 5, 3) := by decide +kernel
theorem dX9_isName_23 : decode cX9_isName 23 = .ok (.iconst 0, 1) := by decide +kernel
theorem dX9_isName_24 : decode cX9_isName 24 = .ok (.ireturn, 1) := by decide +kernel
theorem dX9_isName_25 : decode cX9_isName 25 = .ok (.iinc 1 1, 3) := by decide +kernel
theorem dX9_isName_28 : decode cX9_isName 28 = .ok (.goto (-26), 3) := by decide +kernel
theorem dX9_isName_31 : decode cX9_isName 31 = .ok (.aload_n 0, 1) := by decide +kernel
theorem dX9_isName_32 : decode cX9_isName 32 = .ok (.getfield 44, 3) := by decide +kernel
theorem dX9_isName_35 : decode cX9_isName 35 = .ok (.iconst 1, 1) := by decide +kernel
theorem dX9_isName_36 : decode cX9_isName 36 = .ok (.if_icmp .ne 7, 3) := by decide +kernel
theorem dX9_isName_39 : decode cX9_isName 39 = .ok (.iconst 1, 1) := by decide +kernel
theorem dX9_isName_40 : decode cX9_isName 40 = .ok (.goto 4, 3) := by decide +kernel
theorem dX9_isName_43 : decode cX9_isName 43 = .ok (.iconst 0, 1) := by decide +kernel
theorem dX9_isName_44 : decode cX9_isName 44 = .ok (.ireturn, 1) := by decide +kernel
theorem dX9_takeNewName_0 : decode cX9_takeNewName 0 = .ok (.aload_n 0, 1) := by decide +kernel
theorem dX9_takeNewName_1 : decode cX9_takeNewName 1 = .ok (.invokevirtual 70, 3) := by decide +kernel
theorem dX9_takeNewName_4 : decode cX9_takeNewName 4 = .ok (.aload_n 0, 1) := by decide +kernel
theorem dX9_takeNewName_5 : decode cX9_takeNewName 5 = .ok (.invokevirtual 73, 3) := by decide +kernel
theorem dX9_takeNewName_8 : decode cX9_takeNewName 8 = .ok (.ifCond .ne 9, 3) := by decide +kernel
theorem dX9_takeNewName_11 : decode cX9_takeNewName 11 = .ok (.aload_n 0, 1) := by decide +kernel
theorem dX9_takeNewName_12 : decode cX9_takeNewName 12 = .ok (.iconst 1, 1) := by decide +kernel
theorem dX9_takeNewName_13 : decode cX9_takeNewName 13 = .ok (.invokevirtual 63, 3) := by decide +kernel
theorem dX9_takeNewName_16 : decode cX9_takeNewName 16 = .ok (.ireturn, 1) := by decide +kernel
theorem dX9_takeNewName_17 : decode cX9_takeNewName 17 = .ok (.aload_n 1, 1) := by decide +kernel
theorem dX9_takeNewName_18 : decode cX9_takeNewName 18 = .ok (.aload_n 0, 1) := by decide +kernel
theorem dX9_takeNewName_19 : decode cX9_takeNewName 19 = .ok (.getfield 56, 3) := by decide +kernel
theorem dX9_takeNewName_22 : decode cX9_takeNewName 22 = .ok (.invokevirtual 77, 3) := by decide +kernel
theorem dX9_takeNewName_25 : decode cX9_takeNewName 25 = .ok (.iconst (-1), 1) := by decide +kernel
theorem dX9_takeNewName_26 : decode cX9_takeNewName 26 = .ok (.if_icmp .ne 19, 3) := by decide +kernel
theorem dX9_takeNewName_29 : decode cX9_takeNewName 29 = .ok (.aload_n 1, 1) := by decide +kernel
theorem dX9_takeNewName_30 : decode cX9_takeNewName 30 = .ok (.aload_n 0, 1) := by decide +kernel
theorem dX9_takeNewName_31 : decode cX9_takeNewName 31 = .ok (.getfield 56, 3) := by decide +kernel
theorem dX9_takeNewName_34 : decode cX9_takeNewName 34 = .ok (.invokevirtual 83, 3) := by decide +kernel
theorem dX9_takeNewName_37 : decode cX9_takeNewName 37 = .ok (.iconst (-1), 1) := by decide +kernel
theorem dX9_takeNewName_38 : decode cX9_takeNewName 38 = .ok (.if_icmp .ne 7, 3) := by decide +kernel
theorem dX9_takeNewName_41 : decode cX9_takeNewName 41 = .ok (.iconst 1, 1) := by decide +kernel
theorem dX9_takeNewName_42 : decode cX9_takeNewName 42 = .ok (.goto 4, 3) := by decide +kernel
theorem dX9_takeNewName_45 : decode cX9_takeNewName 45 = .ok (.iconst 0, 1) := by decide +kernel
theorem dX9_takeNewName_46 : decode cX9_takeNewName 46 = .ok (.istore_n 2, 1) := by decide +kernel
theorem dX9_takeNewName_47 : decode cX9_takeNewName 47 = .ok (.iload_n 2, 1) := by decide +kernel
theorem dX9_takeNewName_48 : decode cX9_takeNewName 48 = .ok (.ifCond .ne 11, 3) := by decide +kernel
theorem dX9_takeNewName_51 : decode cX9_takeNewName 51 = .ok (.aload_n 0, 1) := by decide +kernel
theorem dX9_takeNewName_52 : decode cX9_takeNewName 52 = .ok (.iconst 3, 1) := by decide +kernel
theorem dX9_takeNewName_53 : decode cX9_takeNewName 53 = .ok (.invokevirtual 63, 3) := by decide +kernel
theorem dX9_takeNewName_56 : decode cX9_takeNewName 56 = .ok (.ifCond .eq 7, 3) := by decide +kernel
theorem dX9_takeNewName_59 : decode cX9_takeNewName 59 = .ok (.iconst 1, 1) := by decide +kernel
theorem dX9_takeNewName_60 : decode cX9_takeNewName 60 = .ok (.goto 4, 3) := by decide +kernel
theorem dX9_takeNewName_63 : decode cX9_takeNewName 63 = .ok (.iconst 0, 1) := by decide +kernel
theorem dX9_takeNewName_64 : decode cX9_takeNewName 64 = .ok (.ireturn, 1) := by decide +kernel
theorem dX9_takeBody_0 : decode cX9_takeBody 0 = .ok (.aload_n 0, 1) := by decide +kernel
theorem dX9_takeBody_1 : decode cX9_takeBody 1 = .ok (.invokevirtual 70, 3) := by decide +kernel
theorem dX9_takeBody_4 : decode cX9_takeBody 4 = .ok (.aload_n 0, 1) := by decide +kernel
theorem dX9_takeBody_5 : decode cX9_takeBody 5 = .ok (.invokevirtual 73, 3) := by decide +kernel
theorem dX9_takeBody_8 : decode cX9_takeBody 8 = .ok (.ifCond .ne 9, 3) := by decide +kernel
theorem dX9_takeBody_11 : decode cX9_takeBody 11 = .ok (.aload_n 0, 1) := by decide +kernel
theorem dX9_takeBody_12 : decode cX9_takeBody 12 = .ok (.iconst 1, 1) := by decide +kernel
theorem dX9_takeBody_13 : decode cX9_takeBody 13 = .ok (.invokevirtual 63, 3) := by decide +kernel
theorem dX9_takeBody_16 : decode cX9_takeBody 16 = .ok (.ireturn, 1) := by decide +kernel
theorem dX9_takeBody_17 : decode cX9_takeBody 17 = .ok (.aload_n 0, 1) := by decide +kernel
theorem dX9_takeBody_18 : decode cX9_takeBody 18 = .ok (.aload_n 1, 1) := by decide +kernel
theorem dX9_takeBody_19 : decode cX9_takeBody 19 = .ok (.aload_n 0, 1) := by decide +kernel
theorem dX9_takeBody_20 : decode cX9_takeBody 20 = .ok (.getfield 56, 3) := by decide +kernel
theorem dX9_takeBody_23 : decode cX9_takeBody 23 = .ok (.invokevirtual 77, 3) := by decide +kernel
theorem dX9_takeBody_26 : decode cX9_takeBody 26 = .ok (.putfield 86, 3) := by decide +kernel
theorem dX9_takeBody_29 : decode cX9_takeBody 29 = .ok (.aload_n 0, 1) := by decide +kernel
theorem dX9_takeBody_30 : decode cX9_takeBody 30 = .ok (.getfield 86, 3) := by decide +kernel
theorem dX9_takeBody_33 : decode cX9_takeBody 33 = .ok (.iconst (-1), 1) := by decide +kernel
theorem dX9_takeBody_34 : decode cX9_takeBody 34 = .ok (.if_icmp .ne 11, 3) := by decide +kernel
theorem dX9_takeBody_37 : decode cX9_takeBody 37 = .ok (.aload_n 0, 1) := by decide +kernel
theorem dX9_takeBody_38 : decode cX9_takeBody 38 = .ok (.iconst 3, 1) := by decide +kernel
theorem dX9_takeBody_39 : decode cX9_takeBody 39 = .ok (.invokevirtual 63, 3) := by decide +kernel
theorem dX9_takeBody_42 : decode cX9_takeBody 42 = .ok (.ifCond .eq 7, 3) := by decide +kernel
theorem dX9_takeBody_45 : decode cX9_takeBody 45 = .ok (.iconst 1, 1) := by decide +kernel
theorem dX9_takeBody_46 : decode cX9_takeBody 46 = .ok (.goto 4, 3) := by decide +kernel
theorem dX9_takeBody_49 : decode cX9_takeBody 49 = .ok (.iconst 0, 1) := by decide +kernel
theorem dX9_takeBody_50 : decode cX9_takeBody 50 = .ok (.ireturn, 1) := by decide +kernel
theorem dX9_takeKind_0 : decode cX9_takeKind 0 = .ok (.aload_n 0, 1) := by decide +kernel
theorem dX9_takeKind_1 : decode cX9_takeKind 1 = .ok (.invokevirtual 70, 3) := by decide +kernel
theorem dX9_takeKind_4 : decode cX9_takeKind 4 = .ok (.aload_n 0, 1) := by decide +kernel
theorem dX9_takeKind_5 : decode cX9_takeKind 5 = .ok (.invokevirtual 73, 3) := by decide +kernel
theorem dX9_takeKind_8 : decode cX9_takeKind 8 = .ok (.ifCond .ne 9, 3) := by decide +kernel
theorem dX9_takeKind_11 : decode cX9_takeKind 11 = .ok (.aload_n 0, 1) := by decide +kernel
theorem dX9_takeKind_12 : decode cX9_takeKind 12 = .ok (.iconst 1, 1) := by decide +kernel
theorem dX9_takeKind_13 : decode cX9_takeKind 13 = .ok (.invokevirtual 63, 3) := by decide +kernel
theorem dX9_takeKind_16 : decode cX9_takeKind 16 = .ok (.ireturn, 1) := by decide +kernel
theorem dX9_takeKind_17 : decode cX9_takeKind 17 = .ok (.aload_n 0, 1) := by decide +kernel
theorem dX9_takeKind_18 : decode cX9_takeKind 18 = .ok (.aload_n 1, 1) := by decide +kernel
theorem dX9_takeKind_19 : decode cX9_takeKind 19 = .ok (.aload_n 0, 1) := by decide +kernel
theorem dX9_takeKind_20 : decode cX9_takeKind 20 = .ok (.getfield 56, 3) := by decide +kernel
theorem dX9_takeKind_23 : decode cX9_takeKind 23 = .ok (.invokevirtual 83, 3) := by decide +kernel
theorem dX9_takeKind_26 : decode cX9_takeKind 26 = .ok (.putfield 86, 3) := by decide +kernel
theorem dX9_takeKind_29 : decode cX9_takeKind 29 = .ok (.aload_n 0, 1) := by decide +kernel
theorem dX9_takeKind_30 : decode cX9_takeKind 30 = .ok (.getfield 86, 3) := by decide +kernel
theorem dX9_takeKind_33 : decode cX9_takeKind 33 = .ok (.iconst (-1), 1) := by decide +kernel
theorem dX9_takeKind_34 : decode cX9_takeKind 34 = .ok (.if_icmp .ne 11, 3) := by decide +kernel
theorem dX9_takeKind_37 : decode cX9_takeKind 37 = .ok (.aload_n 0, 1) := by decide +kernel
theorem dX9_takeKind_38 : decode cX9_takeKind 38 = .ok (.iconst 3, 1) := by decide +kernel
theorem dX9_takeKind_39 : decode cX9_takeKind 39 = .ok (.invokevirtual 63, 3) := by decide +kernel
theorem dX9_takeKind_42 : decode cX9_takeKind 42 = .ok (.ifCond .eq 7, 3) := by decide +kernel
theorem dX9_takeKind_45 : decode cX9_takeKind 45 = .ok (.iconst 1, 1) := by decide +kernel
theorem dX9_takeKind_46 : decode cX9_takeKind 46 = .ok (.goto 4, 3) := by decide +kernel
theorem dX9_takeKind_49 : decode cX9_takeKind 49 = .ok (.iconst 0, 1) := by decide +kernel
theorem dX9_takeKind_50 : decode cX9_takeKind 50 = .ok (.ireturn, 1) := by decide +kernel
theorem dX9_takeNumber_0 : decode cX9_takeNumber 0 = .ok (.aload_n 0, 1) := by decide +kernel
theorem dX9_takeNumber_1 : decode cX9_takeNumber 1 = .ok (.invokevirtual 70, 3) := by decide +kernel
theorem dX9_takeNumber_4 : decode cX9_takeNumber 4 = .ok (.aload_n 0, 1) := by decide +kernel
theorem dX9_takeNumber_5 : decode cX9_takeNumber 5 = .ok (.getfield 44, 3) := by decide +kernel
theorem dX9_takeNumber_8 : decode cX9_takeNumber 8 = .ok (.iconst 2, 1) := by decide +kernel
theorem dX9_takeNumber_9 : decode cX9_takeNumber 9 = .ok (.if_icmp .eq 9, 3) := by decide +kernel
theorem dX9_takeNumber_12 : decode cX9_takeNumber 12 = .ok (.aload_n 0, 1) := by decide +kernel
theorem dX9_takeNumber_13 : decode cX9_takeNumber 13 = .ok (.iconst 1, 1) := by decide +kernel
theorem dX9_takeNumber_14 : decode cX9_takeNumber 14 = .ok (.invokevirtual 63, 3) := by decide +kernel
theorem dX9_takeNumber_17 : decode cX9_takeNumber 17 = .ok (.ireturn, 1) := by decide +kernel
theorem dX9_takeNumber_18 : decode cX9_takeNumber 18 = .ok (.aload_n 0, 1) := by decide +kernel
theorem dX9_takeNumber_19 : decode cX9_takeNumber 19 = .ok (.getfield 60, 3) := by decide +kernel
theorem dX9_takeNumber_22 : decode cX9_takeNumber 22 = .ok (.iload_n 1, 1) := by decide +kernel
theorem dX9_takeNumber_23 : decode cX9_takeNumber 23 = .ok (.if_icmp .lt 11, 3) := by decide +kernel
theorem dX9_takeNumber_26 : decode cX9_takeNumber 26 = .ok (.aload_n 0, 1) := by decide +kernel
theorem dX9_takeNumber_27 : decode cX9_takeNumber 27 = .ok (.getfield 60, 3) := by decide +kernel
theorem dX9_takeNumber_30 : decode cX9_takeNumber 30 = .ok (.iload_n 2, 1) := by decide +kernel
theorem dX9_takeNumber_31 : decode cX9_takeNumber 31 = .ok (.if_icmp .le 11, 3) := by decide +kernel
theorem dX9_takeNumber_34 : decode cX9_takeNumber 34 = .ok (.aload_n 0, 1) := by decide +kernel
theorem dX9_takeNumber_35 : decode cX9_takeNumber 35 = .ok (.iconst 2, 1) := by decide +kernel
theorem dX9_takeNumber_36 : decode cX9_takeNumber 36 = .ok (.invokevirtual 63, 3) := by decide +kernel
theorem dX9_takeNumber_39 : decode cX9_takeNumber 39 = .ok (.ifCond .eq 7, 3) := by decide +kernel
theorem dX9_takeNumber_42 : decode cX9_takeNumber 42 = .ok (.iconst 1, 1) := by decide +kernel
theorem dX9_takeNumber_43 : decode cX9_takeNumber 43 = .ok (.goto 4, 3) := by decide +kernel
theorem dX9_takeNumber_46 : decode cX9_takeNumber 46 = .ok (.iconst 0, 1) := by decide +kernel
theorem dX9_takeNumber_47 : decode cX9_takeNumber 47 = .ok (.ireturn, 1) := by decide +kernel
theorem dX9_takeStop_0 : decode cX9_takeStop 0 = .ok (.aload_n 0, 1) := by decide +kernel
theorem dX9_takeStop_1 : decode cX9_takeStop 1 = .ok (.invokevirtual 70, 3) := by decide +kernel
theorem dX9_takeStop_4 : decode cX9_takeStop 4 = .ok (.aload_n 0, 1) := by decide +kernel
theorem dX9_takeStop_5 : decode cX9_takeStop 5 = .ok (.invokevirtual 89, 3) := by decide +kernel
theorem dX9_takeStop_8 : decode cX9_takeStop 8 = .ok (.ireturn, 1) := by decide +kernel
theorem dX10_init_0 : decode cX10_init 0 = .ok (.aload_n 0, 1) := by decide +kernel
theorem dX10_init_1 : decode cX10_init 1 = .ok (.invokespecial 3, 3) := by decide +kernel
theorem dX10_init_4 : decode cX10_init 4 = .ok (.aload_n 0, 1) := by decide +kernel
theorem dX10_init_5 : decode cX10_init 5 = .ok (.sipush 2640, 3) := by decide +kernel
theorem dX10_init_8 : decode cX10_init 8 = .ok (.newarray .int, 2) := by decide +kernel
theorem dX10_init_10 : decode cX10_init 10 = .ok (.putfield 11, 3) := by decide +kernel
theorem dX10_init_13 : decode cX10_init 13 = .ok (.return_, 1) := by decide +kernel
theorem dX10_add_0 : decode cX10_add 0 = .ok (.aload_n 0, 1) := by decide +kernel
theorem dX10_add_1 : decode cX10_add 1 = .ok (.getfield 15, 3) := by decide +kernel
theorem dX10_add_4 : decode cX10_add 4 = .ok (.sipush 2640, 3) := by decide +kernel
theorem dX10_add_7 : decode cX10_add 7 = .ok (.if_icmp .ge 23, 3) := by decide +kernel
theorem dX10_add_10 : decode cX10_add 10 = .ok (.aload_n 0, 1) := by decide +kernel
theorem dX10_add_11 : decode cX10_add 11 = .ok (.getfield 11, 3) := by decide +kernel
theorem dX10_add_14 : decode cX10_add 14 = .ok (.aload_n 0, 1) := by decide +kernel
theorem dX10_add_15 : decode cX10_add 15 = .ok (.getfield 15, 3) := by decide +kernel
theorem dX10_add_18 : decode cX10_add 18 = .ok (.iload_n 1, 1) := by decide +kernel
theorem dX10_add_19 : decode cX10_add 19 = .ok (.iastore, 1) := by decide +kernel
theorem dX10_add_20 : decode cX10_add 20 = .ok (.aload_n 0, 1) := by decide +kernel
theorem dX10_add_21 : decode cX10_add 21 = .ok (.dup, 1) := by decide +kernel
theorem dX10_add_22 : decode cX10_add 22 = .ok (.getfield 15, 3) := by decide +kernel
theorem dX10_add_25 : decode cX10_add 25 = .ok (.iconst 1, 1) := by decide +kernel
theorem dX10_add_26 : decode cX10_add 26 = .ok (.iadd, 1) := by decide +kernel
theorem dX10_add_27 : decode cX10_add 27 = .ok (.putfield 15, 3) := by decide +kernel
theorem dX10_add_30 : decode cX10_add 30 = .ok (.return_, 1) := by decide +kernel
theorem dX10_addName_0 : decode cX10_addName 0 = .ok (.bipush 48, 2) := by decide +kernel
theorem dX10_addName_2 : decode cX10_addName 2 = .ok (.istore_n 3, 1) := by decide +kernel
theorem dX10_addName_3 : decode cX10_addName 3 = .ok (.iload_n 3, 1) := by decide +kernel
theorem dX10_addName_4 : decode cX10_addName 4 = .ok (.ifCond .lt 30, 3) := by decide +kernel
theorem dX10_addName_7 : decode cX10_addName 7 = .ok (.lload_n 1, 1) := by decide +kernel
theorem dX10_addName_8 : decode cX10_addName 8 = .ok (.iload_n 3, 1) := by decide +kernel
theorem dX10_addName_9 : decode cX10_addName 9 = .ok (.lshr, 1) := by decide +kernel
theorem dX10_addName_10 : decode cX10_addName 10 = .ok (.ldc2_w 19, 3) := by decide +kernel
theorem dX10_addName_13 : decode cX10_addName 13 = .ok (.land, 1) := by decide +kernel
theorem dX10_addName_14 : decode cX10_addName 14 = .ok (.l2i, 1) := by decide +kernel
theorem dX10_addName_15 : decode cX10_addName 15 = .ok (.istore 4, 2) := by decide +kernel
theorem dX10_addName_17 : decode cX10_addName 17 = .ok (.iload 4, 2) := by decide +kernel
theorem dX10_addName_19 : decode cX10_addName 19 = .ok (.ifCond .eq 9, 3) := by decide +kernel
theorem dX10_addName_22 : decode cX10_addName 22 = .ok (.aload_n 0, 1) := by decide +kernel
theorem dX10_addName_23 : decode cX10_addName 23 = .ok (.iload 4, 2) := by decide +kernel
theorem dX10_addName_25 : decode cX10_addName 25 = .ok (.invokevirtual 21, 3) := by decide +kernel
theorem dX10_addName_28 : decode cX10_addName 28 = .ok (.iinc 3 (-8), 3) := by decide +kernel
theorem dX10_addName_31 : decode cX10_addName 31 = .ok (.goto (-28), 3) := by decide +kernel
theorem dX10_addName_34 : decode cX10_addName 34 = .ok (.return_, 1) := by decide +kernel
theorem dX10_addNumber_0 : decode cX10_addNumber 0 = .ok (.iload_n 1, 1) := by decide +kernel
theorem dX10_addNumber_1 : decode cX10_addNumber 1 = .ok (.bipush 9, 2) := by decide +kernel
theorem dX10_addNumber_3 : decode cX10_addNumber 3 = .ok (.if_icmp .le 14, 3) := by decide +kernel
theorem dX10_addNumber_6 : decode cX10_addNumber 6 = .ok (.aload_n 0, 1) := by decide +kernel
theorem dX10_addNumber_7 : decode cX10_addNumber 7 = .ok (.bipush 48, 2) := by decide +kernel
theorem dX10_addNumber_9 : decode cX10_addNumber 9 = .ok (.iload_n 1, 1) := by decide +kernel
theorem dX10_addNumber_10 : decode cX10_addNumber 10 = .ok (.bipush 10, 2) := by decide +kernel
theorem dX10_addNumber_12 : decode cX10_addNumber 12 = .ok (.idiv, 1) := by decide +kernel
theorem dX10_addNumber_13 : decode cX10_addNumber 13 = .ok (.iadd, 1) := by decide +kernel
theorem dX10_addNumber_14 : decode cX10_addNumber 14 = .ok (.invokevirtual 21, 3) := by decide +kernel
theorem dX10_addNumber_17 : decode cX10_addNumber 17 = .ok (.aload_n 0, 1) := by decide +kernel
theorem dX10_addNumber_18 : decode cX10_addNumber 18 = .ok (.bipush 48, 2) := by decide +kernel
theorem dX10_addNumber_20 : decode cX10_addNumber 20 = .ok (.iload_n 1, 1) := by decide +kernel
theorem dX10_addNumber_21 : decode cX10_addNumber 21 = .ok (.bipush 10, 2) := by decide +kernel
theorem dX10_addNumber_23 : decode cX10_addNumber 23 = .ok (.irem, 1) := by decide +kernel
theorem dX10_addNumber_24 : decode cX10_addNumber 24 = .ok (.iadd, 1) := by decide +kernel
theorem dX10_addNumber_25 : decode cX10_addNumber 25 = .ok (.invokevirtual 21, 3) := by decide +kernel
theorem dX10_addNumber_28 : decode cX10_addNumber 28 = .ok (.return_, 1) := by decide +kernel
theorem dX10_at_0 : decode cX10_at 0 = .ok (.iload_n 1, 1) := by decide +kernel
theorem dX10_at_1 : decode cX10_at 1 = .ok (.ifCond .lt 27, 3) := by decide +kernel
theorem dX10_at_4 : decode cX10_at 4 = .ok (.iload_n 1, 1) := by decide +kernel
theorem dX10_at_5 : decode cX10_at 5 = .ok (.aload_n 0, 1) := by decide +kernel
theorem dX10_at_6 : decode cX10_at 6 = .ok (.getfield 15, 3) := by decide +kernel
theorem dX10_at_9 : decode cX10_at 9 = .ok (.if_icmp .ge 19, 3) := by decide +kernel
theorem dX10_at_12 : decode cX10_at 12 = .ok (.iload_n 1, 1) := by decide +kernel
theorem dX10_at_13 : decode cX10_at 13 = .ok (.sipush 2640, 3) := by decide +kernel
theorem dX10_at_16 : decode cX10_at 16 = .ok (.if_icmp .ge 12, 3) := by decide +kernel
theorem dX10_at_19 : decode cX10_at 19 = .ok (.aload_n 0, 1) := by decide +kernel
theorem dX10_at_20 : decode cX10_at 20 = .ok (.getfield 11, 3) := by decide +kernel
theorem dX10_at_23 : decode cX10_at 23 = .ok (.iload_n 1, 1) := by decide +kernel
theorem dX10_at_24 : decode cX10_at 24 = .ok (.iaload, 1) := by decide +kernel
theorem dX10_at_25 : decode cX10_at 25 = .ok (.goto 4, 3) := by decide +kernel
theorem dX10_at_28 : decode cX10_at 28 = .ok (.iconst (-1), 1) := by decide +kernel
theorem dX10_at_29 : decode cX10_at 29 = .ok (.ireturn, 1) := by decide +kernel
theorem dX11_init_0 : decode cX11_init 0 = .ok (.aload_n 0, 1) := by decide +kernel
theorem dX11_init_1 : decode cX11_init 1 = .ok (.invokespecial 1, 3) := by decide +kernel
theorem dX11_init_4 : decode cX11_init 4 = .ok (.aload_n 0, 1) := by decide +kernel
theorem dX11_init_5 : decode cX11_init 5 = .ok (.new 7, 3) := by decide +kernel
theorem dX11_init_8 : decode cX11_init 8 = .ok (.dup, 1) := by decide +kernel
theorem dX11_init_9 : decode cX11_init 9 = .ok (.invokespecial 9, 3) := by decide +kernel
theorem dX11_init_12 : decode cX11_init 12 = .ok (.putfield 10, 3) := by decide +kernel
theorem dX11_init_15 : decode cX11_init 15 = .ok (.aload_n 0, 1) := by decide +kernel
theorem dX11_init_16 : decode cX11_init 16 = .ok (.new 16, 3) := by decide +kernel
theorem dX11_init_19 : decode cX11_init 19 = .ok (.dup, 1) := by decide +kernel
theorem dX11_init_20 : decode cX11_init 20 = .ok (.invokespecial 18, 3) := by decide +kernel
theorem dX11_init_23 : decode cX11_init 23 = .ok (.putfield 19, 3) := by decide +kernel
theorem dX11_init_26 : decode cX11_init 26 = .ok (.aload_n 0, 1) := by decide +kernel
theorem dX11_init_27 : decode cX11_init 27 = .ok (.new 16, 3) := by decide +kernel
theorem dX11_init_30 : decode cX11_init 30 = .ok (.dup, 1) := by decide +kernel
theorem dX11_init_31 : decode cX11_init 31 = .ok (.invokespecial 18, 3) := by decide +kernel
theorem dX11_init_34 : decode cX11_init 34 = .ok (.putfield 23, 3) := by decide +kernel
theorem dX11_init_37 : decode cX11_init 37 = .ok (.aload_n 0, 1) := by decide +kernel
theorem dX11_init_38 : decode cX11_init 38 = .ok (.new 26, 3) := by decide +kernel
theorem dX11_init_41 : decode cX11_init 41 = .ok (.dup, 1) := by decide +kernel
theorem dX11_init_42 : decode cX11_init 42 = .ok (.invokespecial 28, 3) := by decide +kernel
theorem dX11_init_45 : decode cX11_init 45 = .ok (.putfield 29, 3) := by decide +kernel
theorem dX11_init_48 : decode cX11_init 48 = .ok (.aload_n 0, 1) := by decide +kernel
theorem dX11_init_49 : decode cX11_init 49 = .ok (.new 26, 3) := by decide +kernel
theorem dX11_init_52 : decode cX11_init 52 = .ok (.dup, 1) := by decide +kernel
theorem dX11_init_53 : decode cX11_init 53 = .ok (.invokespecial 28, 3) := by decide +kernel
theorem dX11_init_56 : decode cX11_init 56 = .ok (.putfield 33, 3) := by decide +kernel
theorem dX11_init_59 : decode cX11_init 59 = .ok (.aload_n 0, 1) := by decide +kernel
theorem dX11_init_60 : decode cX11_init 60 = .ok (.new 36, 3) := by decide +kernel
theorem dX11_init_63 : decode cX11_init 63 = .ok (.dup, 1) := by decide +kernel
theorem dX11_init_64 : decode cX11_init 64 = .ok (.aload_n 0, 1) := by decide +kernel
theorem dX11_init_65 : decode cX11_init 65 = .ok (.getfield 19, 3) := by decide +kernel
theorem dX11_init_68 : decode cX11_init 68 = .ok (.invokespecial 38, 3) := by decide +kernel
theorem dX11_init_71 : decode cX11_init 71 = .ok (.putfield 41, 3) := by decide +kernel
theorem dX11_init_74 : decode cX11_init 74 = .ok (.aload_n 0, 1) := by decide +kernel
theorem dX11_init_75 : decode cX11_init 75 = .ok (.new 36, 3) := by decide +kernel
theorem dX11_init_78 : decode cX11_init 78 = .ok (.dup, 1) := by decide +kernel
theorem dX11_init_79 : decode cX11_init 79 = .ok (.aload_n 0, 1) := by decide +kernel
theorem dX11_init_80 : decode cX11_init 80 = .ok (.getfield 19, 3) := by decide +kernel
theorem dX11_init_83 : decode cX11_init 83 = .ok (.invokespecial 38, 3) := by decide +kernel
theorem dX11_init_86 : decode cX11_init 86 = .ok (.putfield 45, 3) := by decide +kernel
theorem dX11_init_89 : decode cX11_init 89 = .ok (.aload_n 0, 1) := by decide +kernel
theorem dX11_init_90 : decode cX11_init 90 = .ok (.new 48, 3) := by decide +kernel
theorem dX11_init_93 : decode cX11_init 93 = .ok (.dup, 1) := by decide +kernel
theorem dX11_init_94 : decode cX11_init 94 = .ok (.aload_n 0, 1) := by decide +kernel
theorem dX11_init_95 : decode cX11_init 95 = .ok (.getfield 19, 3) := by decide +kernel
theorem dX11_init_98 : decode cX11_init 98 = .ok (.invokespecial 50, 3) := by decide +kernel
theorem dX11_init_101 : decode cX11_init 101 = .ok (.putfield 51, 3) := by decide +kernel
theorem dX11_init_104 : decode cX11_init 104 = .ok (.aload_n 0, 1) := by decide +kernel
theorem dX11_init_105 : decode cX11_init 105 = .ok (.iconst 2, 1) := by decide +kernel
theorem dX11_init_106 : decode cX11_init 106 = .ok (.anewarray 55, 3) := by decide +kernel
theorem dX11_init_109 : decode cX11_init 109 = .ok (.dup, 1) := by decide +kernel
theorem dX11_init_110 : decode cX11_init 110 = .ok (.iconst 0, 1) := by decide +kernel
theorem dX11_init_111 : decode cX11_init 111 = .ok (.new 55, 3) := by decide +kernel
theorem dX11_init_114 : decode cX11_init 114 = .ok (.dup, 1) := by decide +kernel
theorem dX11_init_115 : decode cX11_init 115 = .ok (.invokespecial 57, 3) := by decide +kernel
theorem dX11_init_118 : decode cX11_init 118 = .ok (.aastore, 1) := by decide +kernel
theorem dX11_init_119 : decode cX11_init 119 = .ok (.dup, 1) := by decide +kernel
theorem dX11_init_120 : decode cX11_init 120 = .ok (.iconst 1, 1) := by decide +kernel
theorem dX11_init_121 : decode cX11_init 121 = .ok (.new 55, 3) := by decide +kernel
theorem dX11_init_124 : decode cX11_init 124 = .ok (.dup, 1) := by decide +kernel
theorem dX11_init_125 : decode cX11_init 125 = .ok (.invokespecial 57, 3) := by decide +kernel
theorem dX11_init_128 : decode cX11_init 128 = .ok (.aastore, 1) := by decide +kernel
theorem dX11_init_129 : decode cX11_init 129 = .ok (.putfield 58, 3) := by decide +kernel
theorem dX11_init_132 : decode cX11_init 132 = .ok (.aload_n 0, 1) := by decide +kernel
theorem dX11_init_133 : decode cX11_init 133 = .ok (.new 62, 3) := by decide +kernel
theorem dX11_init_136 : decode cX11_init 136 = .ok (.dup, 1) := by decide +kernel
theorem dX11_init_137 : decode cX11_init 137 = .ok (.invokespecial 64, 3) := by decide +kernel
theorem dX11_init_140 : decode cX11_init 140 = .ok (.putfield 65, 3) := by decide +kernel
theorem dX11_init_143 : decode cX11_init 143 = .ok (.aload_n 0, 1) := by decide +kernel
theorem dX11_init_144 : decode cX11_init 144 = .ok (.new 69, 3) := by decide +kernel
theorem dX11_init_147 : decode cX11_init 147 = .ok (.dup, 1) := by decide +kernel
theorem dX11_init_148 : decode cX11_init 148 = .ok (.invokespecial 71, 3) := by decide +kernel
theorem dX11_init_151 : decode cX11_init 151 = .ok (.putfield 72, 3) := by decide +kernel
theorem dX11_init_154 : decode cX11_init 154 = .ok (.aload_n 0, 1) := by decide +kernel
theorem dX11_init_155 : decode cX11_init 155 = .ok (.new 76, 3) := by decide +kernel
theorem dX11_init_158 : decode cX11_init 158 = .ok (.dup, 1) := by decide +kernel
theorem dX11_init_159 : decode cX11_init 159 = .ok (.invokespecial 78, 3) := by decide +kernel
theorem dX11_init_162 : decode cX11_init 162 = .ok (.putfield 79, 3) := by decide +kernel
theorem dX11_init_165 : decode cX11_init 165 = .ok (.aload_n 0, 1) := by decide +kernel
theorem dX11_init_166 : decode cX11_init 166 = .ok (.new 83, 3) := by decide +kernel
theorem dX11_init_169 : decode cX11_init 169 = .ok (.dup, 1) := by decide +kernel
theorem dX11_init_170 : decode cX11_init 170 = .ok (.invokespecial 85, 3) := by decide +kernel
theorem dX11_init_173 : decode cX11_init 173 = .ok (.putfield 86, 3) := by decide +kernel
theorem dX11_init_176 : decode cX11_init 176 = .ok (.aload_n 0, 1) := by decide +kernel
theorem dX11_init_177 : decode cX11_init 177 = .ok (.new 90, 3) := by decide +kernel
theorem dX11_init_180 : decode cX11_init 180 = .ok (.dup, 1) := by decide +kernel
theorem dX11_init_181 : decode cX11_init 181 = .ok (.invokespecial 92, 3) := by decide +kernel
theorem dX11_init_184 : decode cX11_init 184 = .ok (.putfield 93, 3) := by decide +kernel
theorem dX11_init_187 : decode cX11_init 187 = .ok (.aload_n 0, 1) := by decide +kernel
theorem dX11_init_188 : decode cX11_init 188 = .ok (.iconst 5, 1) := by decide +kernel
theorem dX11_init_189 : decode cX11_init 189 = .ok (.newarray .int, 2) := by decide +kernel
theorem dX11_init_191 : decode cX11_init 191 = .ok (.putfield 97, 3) := by decide +kernel
theorem dX11_init_194 : decode cX11_init 194 = .ok (.aload_n 0, 1) := by decide +kernel
theorem dX11_init_195 : decode cX11_init 195 = .ok (.iconst 5, 1) := by decide +kernel
theorem dX11_init_196 : decode cX11_init 196 = .ok (.newarray .int, 2) := by decide +kernel
theorem dX11_init_198 : decode cX11_init 198 = .ok (.putfield 101, 3) := by decide +kernel
theorem dX11_init_201 : decode cX11_init 201 = .ok (.return_, 1) := by decide +kernel
theorem dX11_feed_0 : decode cX11_feed 0 = .ok (.aload_n 0, 1) := by decide +kernel
theorem dX11_feed_1 : decode cX11_feed 1 = .ok (.getfield 10, 3) := by decide +kernel
theorem dX11_feed_4 : decode cX11_feed 4 = .ok (.getfield 104, 3) := by decide +kernel
theorem dX11_feed_7 : decode cX11_feed 7 = .ok (.bipush 20, 2) := by decide +kernel
theorem dX11_feed_9 : decode cX11_feed 9 = .ok (.iadd, 1) := by decide +kernel
theorem dX11_feed_10 : decode cX11_feed 10 = .ok (.sipush 640, 3) := by decide +kernel
theorem dX11_feed_13 : decode cX11_feed 13 = .ok (.if_icmp .le 5, 3) := by decide +kernel
theorem dX11_feed_16 : decode cX11_feed 16 = .ok (.iconst (-1), 1) := by decide +kernel
theorem dX11_feed_17 : decode cX11_feed 17 = .ok (.ireturn, 1) := by decide +kernel
theorem dX11_feed_18 : decode cX11_feed 18 = .ok (.aload_n 0, 1) := by decide +kernel
theorem dX11_feed_19 : decode cX11_feed 19 = .ok (.getfield 10, 3) := by decide +kernel
theorem dX11_feed_22 : decode cX11_feed 22 = .ok (.iload_n 1, 1) := by decide +kernel
theorem dX11_feed_23 : decode cX11_feed 23 = .ok (.invokevirtual 108, 3) := by decide +kernel
theorem dX11_feed_26 : decode cX11_feed 26 = .ok (.aload_n 0, 1) := by decide +kernel
theorem dX11_feed_27 : decode cX11_feed 27 = .ok (.getfield 10, 3) := by decide +kernel
theorem dX11_feed_30 : decode cX11_feed 30 = .ok (.iload_n 2, 1) := by decide +kernel
theorem dX11_feed_31 : decode cX11_feed 31 = .ok (.invokevirtual 108, 3) := by decide +kernel
theorem dX11_feed_34 : decode cX11_feed 34 = .ok (.aload_n 0, 1) := by decide +kernel
theorem dX11_feed_35 : decode cX11_feed 35 = .ok (.getfield 10, 3) := by decide +kernel
theorem dX11_feed_38 : decode cX11_feed 38 = .ok (.iload_n 3, 1) := by decide +kernel
theorem dX11_feed_39 : decode cX11_feed 39 = .ok (.invokevirtual 108, 3) := by decide +kernel
theorem dX11_feed_42 : decode cX11_feed 42 = .ok (.aload_n 0, 1) := by decide +kernel
theorem dX11_feed_43 : decode cX11_feed 43 = .ok (.getfield 10, 3) := by decide +kernel
theorem dX11_feed_46 : decode cX11_feed 46 = .ok (.iload 4, 2) := by decide +kernel
theorem dX11_feed_48 : decode cX11_feed 48 = .ok (.invokevirtual 108, 3) := by decide +kernel
theorem dX11_feed_51 : decode cX11_feed 51 = .ok (.aload_n 0, 1) := by decide +kernel
theorem dX11_feed_52 : decode cX11_feed 52 = .ok (.getfield 10, 3) := by decide +kernel
theorem dX11_feed_55 : decode cX11_feed 55 = .ok (.iload 5, 2) := by decide +kernel
theorem dX11_feed_57 : decode cX11_feed 57 = .ok (.invokevirtual 108, 3) := by decide +kernel
theorem dX11_feed_60 : decode cX11_feed 60 = .ok (.aload_n 0, 1) := by decide +kernel
theorem dX11_feed_61 : decode cX11_feed 61 = .ok (.getfield 10, 3) := by decide +kernel
theorem dX11_feed_64 : decode cX11_feed 64 = .ok (.getfield 104, 3) := by decide +kernel
theorem dX11_feed_67 : decode cX11_feed 67 = .ok (.ireturn, 1) := by decide +kernel
theorem dX11_end_0 : decode cX11_end 0 = .ok (.iload_n 1, 1) := by decide +kernel
theorem dX11_end_1 : decode cX11_end 1 = .ok (.ifCond .lt 14, 3) := by decide +kernel
theorem dX11_end_4 : decode cX11_end 4 = .ok (.iload_n 1, 1) := by decide +kernel
theorem dX11_end_5 : decode cX11_end 5 = .ok (.aload_n 0, 1) := by decide +kernel
theorem dX11_end_6 : decode cX11_end 6 = .ok (.getfield 10, 3) := by decide +kernel
theorem dX11_end_9 : decode cX11_end 9 = .ok (.getfield 104, 3) := by decide +kernel
theorem dX11_end_12 : decode cX11_end 12 = .ok (.if_icmp .le 5, 3) := by decide +kernel
theorem dX11_end_15 : decode cX11_end 15 = .ok (.iconst 0, 1) := by decide +kernel
theorem dX11_end_16 : decode cX11_end 16 = .ok (.ireturn, 1) := by decide +kernel
theorem dX11_end_17 : decode cX11_end 17 = .ok (.aload_n 0, 1) := by decide +kernel
theorem dX11_end_18 : decode cX11_end 18 = .ok (.getfield 10, 3) := by decide +kernel
theorem dX11_end_21 : decode cX11_end 21 = .ok (.iload_n 1, 1) := by decide +kernel
theorem dX11_end_22 : decode cX11_end 22 = .ok (.putfield 104, 3) := by decide +kernel
theorem dX11_end_25 : decode cX11_end 25 = .ok (.iconst 1, 1) := by decide +kernel
theorem dX11_end_26 : decode cX11_end 26 = .ok (.ireturn, 1) := by decide +kernel
theorem dX11_port_0 : decode cX11_port 0 = .ok (.aload_n 0, 1) := by decide +kernel
theorem dX11_port_1 : decode cX11_port 1 = .ok (.getfield 23, 3) := by decide +kernel
theorem dX11_port_4 : decode cX11_port 4 = .ok (.aload_n 0, 1) := by decide +kernel
theorem dX11_port_5 : decode cX11_port 5 = .ok (.getfield 10, 3) := by decide +kernel
theorem dX11_port_8 : decode cX11_port 8 = .ok (.invokevirtual 112, 3) := by decide +kernel
theorem dX11_port_11 : decode cX11_port 11 = .ok (.istore_n 1, 1) := by decide +kernel
theorem dX11_port_12 : decode cX11_port 12 = .ok (.aload_n 0, 1) := by decide +kernel
theorem dX11_port_13 : decode cX11_port 13 = .ok (.aload_n 0, 1) := by decide +kernel
theorem dX11_port_14 : decode cX11_port 14 = .ok (.getfield 10, 3) := by decide +kernel
theorem dX11_port_17 : decode cX11_port 17 = .ok (.getfield 116, 3) := by decide +kernel
theorem dX11_port_20 : decode cX11_port 20 = .ok (.putfield 119, 3) := by decide +kernel
theorem dX11_port_23 : decode cX11_port 23 = .ok (.aload_n 0, 1) := by decide +kernel
theorem dX11_port_24 : decode cX11_port 24 = .ok (.getfield 10, 3) := by decide +kernel
theorem dX11_port_27 : decode cX11_port 27 = .ok (.iconst 0, 1) := by decide +kernel
theorem dX11_port_28 : decode cX11_port 28 = .ok (.putfield 104, 3) := by decide +kernel
theorem dX11_port_31 : decode cX11_port 31 = .ok (.iload_n 1, 1) := by decide +kernel
theorem dX11_port_32 : decode cX11_port 32 = .ok (.ifCond .ne 13, 3) := by decide +kernel
theorem dX11_port_35 : decode cX11_port 35 = .ok (.iconst (-1), 1) := by decide +kernel
theorem dX11_port_36 : decode cX11_port 36 = .ok (.aload_n 0, 1) := by decide +kernel
theorem dX11_port_37 : decode cX11_port 37 = .ok (.getfield 10, 3) := by decide +kernel
theorem dX11_port_40 : decode cX11_port 40 = .ok (.getfield 122, 3) := by decide +kernel
theorem dX11_port_43 : decode cX11_port 43 = .ok (.isub, 1) := by decide +kernel
theorem dX11_port_44 : decode cX11_port 44 = .ok (.ireturn, 1) := by decide +kernel
theorem dX11_port_45 : decode cX11_port 45 = .ok (.aload_n 0, 1) := by decide +kernel
theorem dX11_port_46 : decode cX11_port 46 = .ok (.dup, 1) := by decide +kernel
theorem dX11_port_47 : decode cX11_port 47 = .ok (.getfield 125, 3) := by decide +kernel
theorem dX11_port_50 : decode cX11_port 50 = .ok (.iconst 1, 1) := by decide +kernel
theorem dX11_port_51 : decode cX11_port 51 = .ok (.iadd, 1) := by decide +kernel
theorem dX11_port_52 : decode cX11_port 52 = .ok (.putfield 125, 3) := by decide +kernel
theorem dX11_port_55 : decode cX11_port 55 = .ok (.aload_n 0, 1) := by decide +kernel
theorem dX11_port_56 : decode cX11_port 56 = .ok (.getfield 23, 3) := by decide +kernel
theorem dX11_port_59 : decode cX11_port 59 = .ok (.aload_n 0, 1) := by decide +kernel
theorem dX11_port_60 : decode cX11_port 60 = .ok (.getfield 125, 3) := by decide +kernel
theorem dX11_port_63 : decode cX11_port 63 = .ok (.putfield 128, 3) := by decide +kernel
theorem dX11_port_66 : decode cX11_port 66 = .ok (.aload_n 0, 1) := by decide +kernel
theorem dX11_port_67 : decode cX11_port 67 = .ok (.getfield 19, 3) := by decide +kernel
theorem dX11_port_70 : decode cX11_port 70 = .ok (.aload_n 0, 1) := by decide +kernel
theorem dX11_port_71 : decode cX11_port 71 = .ok (.getfield 23, 3) := by decide +kernel
theorem dX11_port_74 : decode cX11_port 74 = .ok (.invokevirtual 131, 3) := by decide +kernel
theorem dX11_port_77 : decode cX11_port 77 = .ok (.aload_n 0, 1) := by decide +kernel
theorem dX11_port_78 : decode cX11_port 78 = .ok (.getfield 29, 3) := by decide +kernel
theorem dX11_port_81 : decode cX11_port 81 = .ok (.iconst 0, 1) := by decide +kernel
theorem dX11_port_82 : decode cX11_port 82 = .ok (.putfield 134, 3) := by decide +kernel
theorem dX11_port_85 : decode cX11_port 85 = .ok (.aload_n 0, 1) := by decide +kernel
theorem dX11_port_86 : decode cX11_port 86 = .ok (.getfield 41, 3) := by decide +kernel
theorem dX11_port_89 : decode cX11_port 89 = .ok (.invokevirtual 137, 3) := by decide +kernel
theorem dX11_port_92 : decode cX11_port 92 = .ok (.aload_n 0, 1) := by decide +kernel
theorem dX11_port_93 : decode cX11_port 93 = .ok (.getfield 51, 3) := by decide +kernel
theorem dX11_port_96 : decode cX11_port 96 = .ok (.invokevirtual 140, 3) := by decide +kernel
theorem dX11_port_99 : decode cX11_port 99 = .ok (.aload_n 0, 1) := by decide +kernel
theorem dX11_port_100 : decode cX11_port 100 = .ok (.getfield 19, 3) := by decide +kernel
theorem dX11_port_103 : decode cX11_port 103 = .ok (.getfield 143, 3) := by decide +kernel
theorem dX11_port_106 : decode cX11_port 106 = .ok (.ireturn, 1) := by decide +kernel
theorem dX11_fault_0 : decode cX11_fault 0 = .ok (.aload_n 0, 1) := by decide +kernel
theorem dX11_fault_1 : decode cX11_fault 1 = .ok (.getfield 119, 3) := by decide +kernel
theorem dX11_fault_4 : decode cX11_fault 4 = .ok (.ireturn, 1) := by decide +kernel
theorem dX11_book_0 : decode cX11_book 0 = .ok (.aload_n 0, 1) := by decide +kernel
theorem dX11_book_1 : decode cX11_book 1 = .ok (.getfield 33, 3) := by decide +kernel
theorem dX11_book_4 : decode cX11_book 4 = .ok (.aload_n 0, 1) := by decide +kernel
theorem dX11_book_5 : decode cX11_book 5 = .ok (.getfield 10, 3) := by decide +kernel
theorem dX11_book_8 : decode cX11_book 8 = .ok (.aload_n 0, 1) := by decide +kernel
theorem dX11_book_9 : decode cX11_book 9 = .ok (.getfield 19, 3) := by decide +kernel
theorem dX11_book_12 : decode cX11_book 12 = .ok (.invokevirtual 144, 3) := by decide +kernel
theorem dX11_book_15 : decode cX11_book 15 = .ok (.istore_n 1, 1) := by decide +kernel
theorem dX11_book_16 : decode cX11_book 16 = .ok (.aload_n 0, 1) := by decide +kernel
theorem dX11_book_17 : decode cX11_book 17 = .ok (.aload_n 0, 1) := by decide +kernel
theorem dX11_book_18 : decode cX11_book 18 = .ok (.getfield 10, 3) := by decide +kernel
theorem dX11_book_21 : decode cX11_book 21 = .ok (.getfield 116, 3) := by decide +kernel
theorem dX11_book_24 : decode cX11_book 24 = .ok (.putfield 119, 3) := by decide +kernel
theorem dX11_book_27 : decode cX11_book 27 = .ok (.aload_n 0, 1) := by decide +kernel
theorem dX11_book_28 : decode cX11_book 28 = .ok (.getfield 10, 3) := by decide +kernel
theorem dX11_book_31 : decode cX11_book 31 = .ok (.iconst 0, 1) := by decide +kernel
theorem dX11_book_32 : decode cX11_book 32 = .ok (.putfield 104, 3) := by decide +kernel
theorem dX11_book_35 : decode cX11_book 35 = .ok (.iload_n 1, 1) := by decide +kernel
theorem dX11_book_36 : decode cX11_book 36 = .ok (.ifCond .ne 13, 3) := by decide +kernel
theorem dX11_book_39 : decode cX11_book 39 = .ok (.iconst (-1), 1) := by decide +kernel
theorem dX11_book_40 : decode cX11_book 40 = .ok (.aload_n 0, 1) := by decide +kernel
theorem dX11_book_41 : decode cX11_book 41 = .ok (.getfield 10, 3) := by decide +kernel
theorem dX11_book_44 : decode cX11_book 44 = .ok (.getfield 122, 3) := by decide +kernel
theorem dX11_book_47 : decode cX11_book 47 = .ok (.isub, 1) := by decide +kernel
theorem dX11_book_48 : decode cX11_book 48 = .ok (.ireturn, 1) := by decide +kernel
theorem dX11_book_49 : decode cX11_book 49 = .ok (.aload_n 0, 1) := by decide +kernel
theorem dX11_book_50 : decode cX11_book 50 = .ok (.getfield 29, 3) := by decide +kernel
theorem dX11_book_53 : decode cX11_book 53 = .ok (.aload_n 0, 1) := by decide +kernel
theorem dX11_book_54 : decode cX11_book 54 = .ok (.getfield 33, 3) := by decide +kernel
theorem dX11_book_57 : decode cX11_book 57 = .ok (.invokevirtual 147, 3) := by decide +kernel
theorem dX11_book_60 : decode cX11_book 60 = .ok (.aload_n 0, 1) := by decide +kernel
theorem dX11_book_61 : decode cX11_book 61 = .ok (.getfield 29, 3) := by decide +kernel
theorem dX11_book_64 : decode cX11_book 64 = .ok (.getfield 134, 3) := by decide +kernel
theorem dX11_book_67 : decode cX11_book 67 = .ok (.ireturn, 1) := by decide +kernel
theorem dX11_count_0 : decode cX11_count 0 = .ok (.iload_n 1, 1) := by decide +kernel
theorem dX11_count_1 : decode cX11_count 1 = .ok (.tableswitch 123 0 8 #[51, 59, 67, 75, 83, 91, 99, 107, 115], 51) := by decide +kernel
theorem dX11_count_52 : decode cX11_count 52 = .ok (.aload_n 0, 1) := by decide +kernel
theorem dX11_count_53 : decode cX11_count 53 = .ok (.getfield 19, 3) := by decide +kernel
theorem dX11_count_56 : decode cX11_count 56 = .ok (.getfield 150, 3) := by decide +kernel
theorem dX11_count_59 : decode cX11_count 59 = .ok (.ireturn, 1) := by decide +kernel
theorem dX11_count_60 : decode cX11_count 60 = .ok (.aload_n 0, 1) := by decide +kernel
theorem dX11_count_61 : decode cX11_count 61 = .ok (.getfield 19, 3) := by decide +kernel
theorem dX11_count_64 : decode cX11_count 64 = .ok (.getfield 153, 3) := by decide +kernel
theorem dX11_count_67 : decode cX11_count 67 = .ok (.ireturn, 1) := by decide +kernel
theorem dX11_count_68 : decode cX11_count 68 = .ok (.aload_n 0, 1) := by decide +kernel
theorem dX11_count_69 : decode cX11_count 69 = .ok (.getfield 19, 3) := by decide +kernel
theorem dX11_count_72 : decode cX11_count 72 = .ok (.getfield 156, 3) := by decide +kernel
theorem dX11_count_75 : decode cX11_count 75 = .ok (.ireturn, 1) := by decide +kernel
theorem dX11_count_76 : decode cX11_count 76 = .ok (.aload_n 0, 1) := by decide +kernel
theorem dX11_count_77 : decode cX11_count 77 = .ok (.getfield 19, 3) := by decide +kernel
theorem dX11_count_80 : decode cX11_count 80 = .ok (.getfield 159, 3) := by decide +kernel
theorem dX11_count_83 : decode cX11_count 83 = .ok (.ireturn, 1) := by decide +kernel
theorem dX11_count_84 : decode cX11_count 84 = .ok (.aload_n 0, 1) := by decide +kernel
theorem dX11_count_85 : decode cX11_count 85 = .ok (.getfield 41, 3) := by decide +kernel
theorem dX11_count_88 : decode cX11_count 88 = .ok (.getfield 162, 3) := by decide +kernel
theorem dX11_count_91 : decode cX11_count 91 = .ok (.ireturn, 1) := by decide +kernel
theorem dX11_count_92 : decode cX11_count 92 = .ok (.aload_n 0, 1) := by decide +kernel
theorem dX11_count_93 : decode cX11_count 93 = .ok (.getfield 41, 3) := by decide +kernel
theorem dX11_count_96 : decode cX11_count 96 = .ok (.invokevirtual 165, 3) := by decide +kernel
theorem dX11_count_99 : decode cX11_count 99 = .ok (.ireturn, 1) := by decide +kernel
theorem dX11_count_100 : decode cX11_count 100 = .ok (.aload_n 0, 1) := by decide +kernel
theorem dX11_count_101 : decode cX11_count 101 = .ok (.getfield 41, 3) := by decide +kernel
theorem dX11_count_104 : decode cX11_count 104 = .ok (.getfield 169, 3) := by decide +kernel
theorem dX11_count_107 : decode cX11_count 107 = .ok (.ireturn, 1) := by decide +kernel
theorem dX11_count_108 : decode cX11_count 108 = .ok (.aload_n 0, 1) := by decide +kernel
theorem dX11_count_109 : decode cX11_count 109 = .ok (.getfield 29, 3) := by decide +kernel
theorem dX11_count_112 : decode cX11_count 112 = .ok (.getfield 134, 3) := by decide +kernel
theorem dX11_count_115 : decode cX11_count 115 = .ok (.ireturn, 1) := by decide +kernel
theorem dX11_count_116 : decode cX11_count 116 = .ok (.aload_n 0, 1) := by decide +kernel
theorem dX11_count_117 : decode cX11_count 117 = .ok (.getfield 10, 3) := by decide +kernel
theorem dX11_count_120 : decode cX11_count 120 = .ok (.getfield 104, 3) := by decide +kernel
theorem dX11_count_123 : decode cX11_count 123 = .ok (.ireturn, 1) := by decide +kernel
theorem dX11_count_124 : decode cX11_count 124 = .ok (.iconst (-1), 1) := by decide +kernel
theorem dX11_count_125 : decode cX11_count 125 = .ok (.ireturn, 1) := by decide +kernel
theorem dX11_body_0 : decode cX11_body 0 = .ok (.aload_n 0, 1) := by decide +kernel
theorem dX11_body_1 : decode cX11_body 1 = .ok (.getfield 19, 3) := by decide +kernel
theorem dX11_body_4 : decode cX11_body 4 = .ok (.iload_n 1, 1) := by decide +kernel
theorem dX11_body_5 : decode cX11_body 5 = .ok (.invokevirtual 172, 3) := by decide +kernel
theorem dX11_body_8 : decode cX11_body 8 = .ok (.ifCond .ne 11, 3) := by decide +kernel
theorem dX11_body_11 : decode cX11_body 11 = .ok (.new 176, 3) := by decide +kernel
theorem dX11_body_14 : decode cX11_body 14 = .ok (.dup, 1) := by decide +kernel
theorem dX11_body_15 : decode cX11_body 15 = .ok (.invokespecial 178, 3) := by decide +kernel
theorem dX11_body_18 : decode cX11_body 18 = .ok (.athrow, 1) := by decide +kernel
theorem dX11_body_19 : decode cX11_body 19 = .ok (.iload_n 2, 1) := by decide +kernel
theorem dX11_body_20 : decode cX11_body 20 = .ok (.tableswitch 121 0 6 #[44, 54, 64, 81, 91, 100, 111], 44) := by decide +kernel
theorem dX11_body_64 : decode cX11_body 64 = .ok (.aload_n 0, 1) := by decide +kernel
theorem dX11_body_65 : decode cX11_body 65 = .ok (.getfield 19, 3) := by decide +kernel
theorem dX11_body_68 : decode cX11_body 68 = .ok (.getfield 179, 3) := by decide +kernel
theorem dX11_body_71 : decode cX11_body 71 = .ok (.iload_n 1, 1) := by decide +kernel
theorem dX11_body_72 : decode cX11_body 72 = .ok (.iaload, 1) := by decide +kernel
theorem dX11_body_73 : decode cX11_body 73 = .ok (.ireturn, 1) := by decide +kernel
theorem dX11_body_74 : decode cX11_body 74 = .ok (.aload_n 0, 1) := by decide +kernel
theorem dX11_body_75 : decode cX11_body 75 = .ok (.getfield 19, 3) := by decide +kernel
theorem dX11_body_78 : decode cX11_body 78 = .ok (.getfield 182, 3) := by decide +kernel
theorem dX11_body_81 : decode cX11_body 81 = .ok (.iload_n 1, 1) := by decide +kernel
theorem dX11_body_82 : decode cX11_body 82 = .ok (.iaload, 1) := by decide +kernel
theorem dX11_body_83 : decode cX11_body 83 = .ok (.ireturn, 1) := by decide +kernel
theorem dX11_body_84 : decode cX11_body 84 = .ok (.aload_n 0, 1) := by decide +kernel
theorem dX11_body_85 : decode cX11_body 85 = .ok (.getfield 41, 3) := by decide +kernel
theorem dX11_body_88 : decode cX11_body 88 = .ok (.iload_n 1, 1) := by decide +kernel
theorem dX11_body_89 : decode cX11_body 89 = .ok (.invokevirtual 185, 3) := by decide +kernel
theorem dX11_body_92 : decode cX11_body 92 = .ok (.ifCond .eq 7, 3) := by decide +kernel
theorem dX11_body_95 : decode cX11_body 95 = .ok (.iconst 1, 1) := by decide +kernel
theorem dX11_body_96 : decode cX11_body 96 = .ok (.goto 4, 3) := by decide +kernel
theorem dX11_body_99 : decode cX11_body 99 = .ok (.iconst 0, 1) := by decide +kernel
theorem dX11_body_100 : decode cX11_body 100 = .ok (.ireturn, 1) := by decide +kernel
theorem dX11_body_101 : decode cX11_body 101 = .ok (.aload_n 0, 1) := by decide +kernel
theorem dX11_body_102 : decode cX11_body 102 = .ok (.getfield 41, 3) := by decide +kernel
theorem dX11_body_105 : decode cX11_body 105 = .ok (.getfield 188, 3) := by decide +kernel
theorem dX11_body_108 : decode cX11_body 108 = .ok (.iload_n 1, 1) := by decide +kernel
theorem dX11_body_109 : decode cX11_body 109 = .ok (.iaload, 1) := by decide +kernel
theorem dX11_body_110 : decode cX11_body 110 = .ok (.ireturn, 1) := by decide +kernel
theorem dX11_body_111 : decode cX11_body 111 = .ok (.aload_n 0, 1) := by decide +kernel
theorem dX11_body_112 : decode cX11_body 112 = .ok (.getfield 41, 3) := by decide +kernel
theorem dX11_body_115 : decode cX11_body 115 = .ok (.iload_n 1, 1) := by decide +kernel
theorem dX11_body_116 : decode cX11_body 116 = .ok (.invokevirtual 191, 3) := by decide +kernel
theorem dX11_body_119 : decode cX11_body 119 = .ok (.ireturn, 1) := by decide +kernel
theorem dX11_body_120 : decode cX11_body 120 = .ok (.aload_n 0, 1) := by decide +kernel
theorem dX11_body_121 : decode cX11_body 121 = .ok (.getfield 41, 3) := by decide +kernel
theorem dX11_body_124 : decode cX11_body 124 = .ok (.iload_n 1, 1) := by decide +kernel
theorem dX11_body_125 : decode cX11_body 125 = .ok (.bipush 99, 2) := by decide +kernel
theorem dX11_body_127 : decode cX11_body 127 = .ok (.invokevirtual 195, 3) := by decide +kernel
theorem dX11_body_130 : decode cX11_body 130 = .ok (.ireturn, 1) := by decide +kernel
theorem dX11_body_131 : decode cX11_body 131 = .ok (.aload_n 0, 1) := by decide +kernel
theorem dX11_body_132 : decode cX11_body 132 = .ok (.getfield 41, 3) := by decide +kernel
theorem dX11_body_135 : decode cX11_body 135 = .ok (.getfield 199, 3) := by decide +kernel
theorem dX11_body_138 : decode cX11_body 138 = .ok (.iload_n 1, 1) := by decide +kernel
theorem dX11_body_139 : decode cX11_body 139 = .ok (.iaload, 1) := by decide +kernel
theorem dX11_body_140 : decode cX11_body 140 = .ok (.ireturn, 1) := by decide +kernel
theorem dX11_body_141 : decode cX11_body 141 = .ok (.new 176, 3) := by decide +kernel
theorem dX11_body_144 : decode cX11_body 144 = .ok (.dup, 1) := by decide +kernel
theorem dX11_body_145 : decode cX11_body 145 = .ok (.invokespecial 178, 3) := by decide +kernel
theorem dX11_body_148 : decode cX11_body 148 = .ok (.athrow, 1) := by decide +kernel
theorem dX11_kind_0 : decode cX11_kind 0 = .ok (.aload_n 0, 1) := by decide +kernel
theorem dX11_kind_1 : decode cX11_kind 1 = .ok (.getfield 19, 3) := by decide +kernel
theorem dX11_kind_4 : decode cX11_kind 4 = .ok (.iload_n 1, 1) := by decide +kernel
theorem dX11_kind_5 : decode cX11_kind 5 = .ok (.invokevirtual 202, 3) := by decide +kernel
theorem dX11_kind_8 : decode cX11_kind 8 = .ok (.ifCond .eq 12, 3) := by decide +kernel
theorem dX11_kind_11 : decode cX11_kind 11 = .ok (.iload_n 2, 1) := by decide +kernel
theorem dX11_kind_12 : decode cX11_kind 12 = .ok (.ifCond .lt 8, 3) := by decide +kernel
theorem dX11_kind_15 : decode cX11_kind 15 = .ok (.iload_n 2, 1) := by decide +kernel
theorem dX11_kind_16 : decode cX11_kind 16 = .ok (.iconst 1, 1) := by decide +kernel
theorem dX11_kind_17 : decode cX11_kind 17 = .ok (.if_icmp .le 11, 3) := by decide +kernel
theorem dX11_kind_20 : decode cX11_kind 20 = .ok (.new 176, 3) := by decide +kernel
theorem dX11_kind_23 : decode cX11_kind 23 = .ok (.dup, 1) := by decide +kernel
theorem dX11_kind_24 : decode cX11_kind 24 = .ok (.invokespecial 178, 3) := by decide +kernel
theorem dX11_kind_27 : decode cX11_kind 27 = .ok (.athrow, 1) := by decide +kernel
theorem dX11_kind_28 : decode cX11_kind 28 = .ok (.iload_n 2, 1) := by decide +kernel
theorem dX11_kind_29 : decode cX11_kind 29 = .ok (.ifCond .ne 15, 3) := by decide +kernel
theorem dX11_kind_32 : decode cX11_kind 32 = .ok (.aload_n 0, 1) := by decide +kernel
theorem dX11_kind_33 : decode cX11_kind 33 = .ok (.getfield 19, 3) := by decide +kernel
theorem dX11_kind_36 : decode cX11_kind 36 = .ok (.getfield 205, 3) := by decide +kernel
theorem dX11_kind_39 : decode cX11_kind 39 = .ok (.iload_n 1, 1) := by decide +kernel
theorem dX11_kind_40 : decode cX11_kind 40 = .ok (.iaload, 1) := by decide +kernel
theorem dX11_kind_41 : decode cX11_kind 41 = .ok (.goto 12, 3) := by decide +kernel
theorem dX11_kind_44 : decode cX11_kind 44 = .ok (.aload_n 0, 1) := by decide +kernel
theorem dX11_kind_45 : decode cX11_kind 45 = .ok (.getfield 19, 3) := by decide +kernel
theorem dX11_kind_48 : decode cX11_kind 48 = .ok (.getfield 208, 3) := by decide +kernel
theorem dX11_kind_51 : decode cX11_kind 51 = .ok (.iload_n 1, 1) := by decide +kernel
theorem dX11_kind_52 : decode cX11_kind 52 = .ok (.iaload, 1) := by decide +kernel
theorem dX11_kind_53 : decode cX11_kind 53 = .ok (.ireturn, 1) := by decide +kernel
theorem dX11_deal_0 : decode cX11_deal 0 = .ok (.aload_n 0, 1) := by decide +kernel
theorem dX11_deal_1 : decode cX11_deal 1 = .ok (.getfield 41, 3) := by decide +kernel
theorem dX11_deal_4 : decode cX11_deal 4 = .ok (.iload_n 1, 1) := by decide +kernel
theorem dX11_deal_5 : decode cX11_deal 5 = .ok (.invokevirtual 211, 3) := by decide +kernel
theorem dX11_deal_8 : decode cX11_deal 8 = .ok (.ifCond .ne 11, 3) := by decide +kernel
theorem dX11_deal_11 : decode cX11_deal 11 = .ok (.new 176, 3) := by decide +kernel
theorem dX11_deal_14 : decode cX11_deal 14 = .ok (.dup, 1) := by decide +kernel
theorem dX11_deal_15 : decode cX11_deal 15 = .ok (.invokespecial 178, 3) := by decide +kernel
theorem dX11_deal_18 : decode cX11_deal 18 = .ok (.athrow, 1) := by decide +kernel
theorem dX11_deal_19 : decode cX11_deal 19 = .ok (.iload_n 2, 1) := by decide +kernel
theorem dX11_deal_20 : decode cX11_deal 20 = .ok (.tableswitch 162 0 9 #[56, 66, 76, 86, 96, 106, 116, 126, 136, 153], 56) := by decide +kernel
theorem dX11_deal_76 : decode cX11_deal 76 = .ok (.aload_n 0, 1) := by decide +kernel
theorem dX11_deal_77 : decode cX11_deal 77 = .ok (.getfield 41, 3) := by decide +kernel
theorem dX11_deal_80 : decode cX11_deal 80 = .ok (.getfield 214, 3) := by decide +kernel
theorem dX11_deal_83 : decode cX11_deal 83 = .ok (.iload_n 1, 1) := by decide +kernel
theorem dX11_deal_84 : decode cX11_deal 84 = .ok (.iaload, 1) := by decide +kernel
theorem dX11_deal_85 : decode cX11_deal 85 = .ok (.ireturn, 1) := by decide +kernel
theorem dX11_deal_86 : decode cX11_deal 86 = .ok (.aload_n 0, 1) := by decide +kernel
theorem dX11_deal_87 : decode cX11_deal 87 = .ok (.getfield 41, 3) := by decide +kernel
theorem dX11_deal_90 : decode cX11_deal 90 = .ok (.getfield 217, 3) := by decide +kernel
theorem dX11_deal_93 : decode cX11_deal 93 = .ok (.iload_n 1, 1) := by decide +kernel
theorem dX11_deal_94 : decode cX11_deal 94 = .ok (.iaload, 1) := by decide +kernel
theorem dX11_deal_95 : decode cX11_deal 95 = .ok (.ireturn, 1) := by decide +kernel
theorem dX11_deal_96 : decode cX11_deal 96 = .ok (.aload_n 0, 1) := by decide +kernel
theorem dX11_deal_97 : decode cX11_deal 97 = .ok (.getfield 41, 3) := by decide +kernel
theorem dX11_deal_100 : decode cX11_deal 100 = .ok (.getfield 220, 3) := by decide +kernel
theorem dX11_deal_103 : decode cX11_deal 103 = .ok (.iload_n 1, 1) := by decide +kernel
theorem dX11_deal_104 : decode cX11_deal 104 = .ok (.iaload, 1) := by decide +kernel
theorem dX11_deal_105 : decode cX11_deal 105 = .ok (.ireturn, 1) := by decide +kernel
theorem dX11_deal_106 : decode cX11_deal 106 = .ok (.aload_n 0, 1) := by decide +kernel
theorem dX11_deal_107 : decode cX11_deal 107 = .ok (.getfield 41, 3) := by decide +kernel
theorem dX11_deal_110 : decode cX11_deal 110 = .ok (.getfield 223, 3) := by decide +kernel
theorem dX11_deal_113 : decode cX11_deal 113 = .ok (.iload_n 1, 1) := by decide +kernel
theorem dX11_deal_114 : decode cX11_deal 114 = .ok (.iaload, 1) := by decide +kernel
theorem dX11_deal_115 : decode cX11_deal 115 = .ok (.ireturn, 1) := by decide +kernel
theorem dX11_deal_116 : decode cX11_deal 116 = .ok (.aload_n 0, 1) := by decide +kernel
theorem dX11_deal_117 : decode cX11_deal 117 = .ok (.getfield 41, 3) := by decide +kernel
theorem dX11_deal_120 : decode cX11_deal 120 = .ok (.getfield 226, 3) := by decide +kernel
theorem dX11_deal_123 : decode cX11_deal 123 = .ok (.iload_n 1, 1) := by decide +kernel
theorem dX11_deal_124 : decode cX11_deal 124 = .ok (.iaload, 1) := by decide +kernel
theorem dX11_deal_125 : decode cX11_deal 125 = .ok (.ireturn, 1) := by decide +kernel
theorem dX11_deal_126 : decode cX11_deal 126 = .ok (.aload_n 0, 1) := by decide +kernel
theorem dX11_deal_127 : decode cX11_deal 127 = .ok (.getfield 41, 3) := by decide +kernel
theorem dX11_deal_130 : decode cX11_deal 130 = .ok (.getfield 229, 3) := by decide +kernel
theorem dX11_deal_133 : decode cX11_deal 133 = .ok (.iload_n 1, 1) := by decide +kernel
theorem dX11_deal_134 : decode cX11_deal 134 = .ok (.iaload, 1) := by decide +kernel
theorem dX11_deal_135 : decode cX11_deal 135 = .ok (.ireturn, 1) := by decide +kernel
theorem dX11_deal_136 : decode cX11_deal 136 = .ok (.aload_n 0, 1) := by decide +kernel
theorem dX11_deal_137 : decode cX11_deal 137 = .ok (.getfield 41, 3) := by decide +kernel
theorem dX11_deal_140 : decode cX11_deal 140 = .ok (.iload_n 1, 1) := by decide +kernel
theorem dX11_deal_141 : decode cX11_deal 141 = .ok (.iconst 0, 1) := by decide +kernel
theorem dX11_deal_142 : decode cX11_deal 142 = .ok (.invokevirtual 232, 3) := by decide +kernel
theorem dX11_deal_145 : decode cX11_deal 145 = .ok (.ireturn, 1) := by decide +kernel
theorem dX11_deal_146 : decode cX11_deal 146 = .ok (.aload_n 0, 1) := by decide +kernel
theorem dX11_deal_147 : decode cX11_deal 147 = .ok (.getfield 41, 3) := by decide +kernel
theorem dX11_deal_150 : decode cX11_deal 150 = .ok (.iload_n 1, 1) := by decide +kernel
theorem dX11_deal_151 : decode cX11_deal 151 = .ok (.iconst 1, 1) := by decide +kernel
theorem dX11_deal_152 : decode cX11_deal 152 = .ok (.invokevirtual 232, 3) := by decide +kernel
theorem dX11_deal_155 : decode cX11_deal 155 = .ok (.ireturn, 1) := by decide +kernel
theorem dX11_deal_156 : decode cX11_deal 156 = .ok (.aload_n 0, 1) := by decide +kernel
theorem dX11_deal_157 : decode cX11_deal 157 = .ok (.getfield 41, 3) := by decide +kernel
theorem dX11_deal_160 : decode cX11_deal 160 = .ok (.iload_n 1, 1) := by decide +kernel
theorem dX11_deal_161 : decode cX11_deal 161 = .ok (.invokevirtual 235, 3) := by decide +kernel
theorem dX11_deal_164 : decode cX11_deal 164 = .ok (.ifCond .eq 7, 3) := by decide +kernel
theorem dX11_deal_167 : decode cX11_deal 167 = .ok (.iconst 1, 1) := by decide +kernel
theorem dX11_deal_168 : decode cX11_deal 168 = .ok (.goto 4, 3) := by decide +kernel
theorem dX11_deal_171 : decode cX11_deal 171 = .ok (.iconst 0, 1) := by decide +kernel
theorem dX11_deal_172 : decode cX11_deal 172 = .ok (.ireturn, 1) := by decide +kernel
theorem dX11_deal_173 : decode cX11_deal 173 = .ok (.aload_n 0, 1) := by decide +kernel
theorem dX11_deal_174 : decode cX11_deal 174 = .ok (.getfield 41, 3) := by decide +kernel
theorem dX11_deal_177 : decode cX11_deal 177 = .ok (.iload_n 1, 1) := by decide +kernel
theorem dX11_deal_178 : decode cX11_deal 178 = .ok (.invokevirtual 238, 3) := by decide +kernel
theorem dX11_deal_181 : decode cX11_deal 181 = .ok (.ireturn, 1) := by decide +kernel
theorem dX11_deal_182 : decode cX11_deal 182 = .ok (.new 176, 3) := by decide +kernel
theorem dX11_deal_185 : decode cX11_deal 185 = .ok (.dup, 1) := by decide +kernel
theorem dX11_deal_186 : decode cX11_deal 186 = .ok (.invokespecial 178, 3) := by decide +kernel
theorem dX11_deal_189 : decode cX11_deal 189 = .ok (.athrow, 1) := by decide +kernel
theorem dX11_read_0 : decode cX11_read 0 = .ok (.aload_n 0, 1) := by decide +kernel
theorem dX11_read_1 : decode cX11_read 1 = .ok (.getfield 41, 3) := by decide +kernel
theorem dX11_read_4 : decode cX11_read 4 = .ok (.iload_n 1, 1) := by decide +kernel
theorem dX11_read_5 : decode cX11_read 5 = .ok (.invokevirtual 211, 3) := by decide +kernel
theorem dX11_read_8 : decode cX11_read 8 = .ok (.ifCond .eq 23, 3) := by decide +kernel
theorem dX11_read_11 : decode cX11_read 11 = .ok (.iload_n 2, 1) := by decide +kernel
theorem dX11_read_12 : decode cX11_read 12 = .ok (.invokestatic 241, 3) := by decide +kernel
theorem dX11_read_15 : decode cX11_read 15 = .ok (.ifCond .eq 16, 3) := by decide +kernel
theorem dX11_read_18 : decode cX11_read 18 = .ok (.aload_n 0, 1) := by decide +kernel
theorem dX11_read_19 : decode cX11_read 19 = .ok (.getfield 41, 3) := by decide +kernel
theorem dX11_read_22 : decode cX11_read 22 = .ok (.iload_n 1, 1) := by decide +kernel
theorem dX11_read_23 : decode cX11_read 23 = .ok (.iload_n 2, 1) := by decide +kernel
theorem dX11_read_24 : decode cX11_read 24 = .ok (.invokevirtual 232, 3) := by decide +kernel
theorem dX11_read_27 : decode cX11_read 27 = .ok (.iconst (-1), 1) := by decide +kernel
theorem dX11_read_28 : decode cX11_read 28 = .ok (.if_icmp .ne 5, 3) := by decide +kernel
theorem dX11_read_31 : decode cX11_read 31 = .ok (.iconst (-1), 1) := by decide +kernel
theorem dX11_read_32 : decode cX11_read 32 = .ok (.ireturn, 1) := by decide +kernel
theorem dX11_read_33 : decode cX11_read 33 = .ok (.aload_n 0, 1) := by decide +kernel
theorem dX11_read_34 : decode cX11_read 34 = .ok (.getfield 41, 3) := by decide +kernel
theorem dX11_read_37 : decode cX11_read 37 = .ok (.iload_n 1, 1) := by decide +kernel
theorem dX11_read_38 : decode cX11_read 38 = .ok (.iload_n 2, 1) := by decide +kernel
theorem dX11_read_39 : decode cX11_read 39 = .ok (.invokevirtual 244, 3) := by decide +kernel
theorem dX11_read_42 : decode cX11_read 42 = .ok (.ifCond .eq 7, 3) := by decide +kernel
theorem dX11_read_45 : decode cX11_read 45 = .ok (.iconst 1, 1) := by decide +kernel
theorem dX11_read_46 : decode cX11_read 46 = .ok (.goto 4, 3) := by decide +kernel
theorem dX11_read_49 : decode cX11_read 49 = .ok (.iconst 0, 1) := by decide +kernel
theorem dX11_read_50 : decode cX11_read 50 = .ok (.ireturn, 1) := by decide +kernel
theorem dX11_mark_0 : decode cX11_mark 0 = .ok (.aload_n 0, 1) := by decide +kernel
theorem dX11_mark_1 : decode cX11_mark 1 = .ok (.getfield 19, 3) := by decide +kernel
theorem dX11_mark_4 : decode cX11_mark 4 = .ok (.iload_n 1, 1) := by decide +kernel
theorem dX11_mark_5 : decode cX11_mark 5 = .ok (.invokevirtual 172, 3) := by decide +kernel
theorem dX11_mark_8 : decode cX11_mark 8 = .ok (.ifCond .ne 5, 3) := by decide +kernel
theorem dX11_mark_11 : decode cX11_mark 11 = .ok (.iconst (-1), 1) := by decide +kernel
theorem dX11_mark_12 : decode cX11_mark 12 = .ok (.ireturn, 1) := by decide +kernel
theorem dX11_mark_13 : decode cX11_mark 13 = .ok (.iload_n 2, 1) := by decide +kernel
theorem dX11_mark_14 : decode cX11_mark 14 = .ok (.iconst (-1), 1) := by decide +kernel
theorem dX11_mark_15 : decode cX11_mark 15 = .ok (.if_icmp .ne 14, 3) := by decide +kernel
theorem dX11_mark_18 : decode cX11_mark 18 = .ok (.aload_n 0, 1) := by decide +kernel
theorem dX11_mark_19 : decode cX11_mark 19 = .ok (.getfield 41, 3) := by decide +kernel
theorem dX11_mark_22 : decode cX11_mark 22 = .ok (.iload_n 1, 1) := by decide +kernel
theorem dX11_mark_23 : decode cX11_mark 23 = .ok (.bipush 99, 2) := by decide +kernel
theorem dX11_mark_25 : decode cX11_mark 25 = .ok (.invokevirtual 195, 3) := by decide +kernel
theorem dX11_mark_28 : decode cX11_mark 28 = .ok (.ireturn, 1) := by decide +kernel
theorem dX11_mark_29 : decode cX11_mark 29 = .ok (.iconst 0, 1) := by decide +kernel
theorem dX11_mark_30 : decode cX11_mark 30 = .ok (.istore_n 3, 1) := by decide +kernel
theorem dX11_mark_31 : decode cX11_mark 31 = .ok (.iconst 0, 1) := by decide +kernel
theorem dX11_mark_32 : decode cX11_mark 32 = .ok (.istore 4, 2) := by decide +kernel
theorem dX11_mark_34 : decode cX11_mark 34 = .ok (.iload 4, 2) := by decide +kernel
theorem dX11_mark_36 : decode cX11_mark 36 = .ok (.aload_n 0, 1) := by decide +kernel
theorem dX11_mark_37 : decode cX11_mark 37 = .ok (.getfield 41, 3) := by decide +kernel
theorem dX11_mark_40 : decode cX11_mark 40 = .ok (.getfield 162, 3) := by decide +kernel
theorem dX11_mark_43 : decode cX11_mark 43 = .ok (.if_icmp .ge 55, 3) := by decide +kernel
theorem dX11_mark_46 : decode cX11_mark 46 = .ok (.iconst 0, 1) := by decide +kernel
theorem dX11_mark_47 : decode cX11_mark 47 = .ok (.istore 5, 2) := by decide +kernel
theorem dX11_mark_49 : decode cX11_mark 49 = .ok (.iload 5, 2) := by decide +kernel
theorem dX11_mark_51 : decode cX11_mark 51 = .ok (.iconst 1, 1) := by decide +kernel
theorem dX11_mark_52 : decode cX11_mark 52 = .ok (.if_icmp .gt 40, 3) := by decide +kernel
theorem dX11_mark_55 : decode cX11_mark 55 = .ok (.aload_n 0, 1) := by decide +kernel
theorem dX11_mark_56 : decode cX11_mark 56 = .ok (.getfield 41, 3) := by decide +kernel
theorem dX11_mark_59 : decode cX11_mark 59 = .ok (.iload 4, 2) := by decide +kernel
theorem dX11_mark_61 : decode cX11_mark 61 = .ok (.iload 5, 2) := by decide +kernel
theorem dX11_mark_63 : decode cX11_mark 63 = .ok (.invokevirtual 232, 3) := by decide +kernel
theorem dX11_mark_66 : decode cX11_mark 66 = .ok (.iload_n 1, 1) := by decide +kernel
theorem dX11_mark_67 : decode cX11_mark 67 = .ok (.if_icmp .ne 19, 3) := by decide +kernel
theorem dX11_mark_70 : decode cX11_mark 70 = .ok (.iload_n 3, 1) := by decide +kernel
theorem dX11_mark_71 : decode cX11_mark 71 = .ok (.iload_n 2, 1) := by decide +kernel
theorem dX11_mark_72 : decode cX11_mark 72 = .ok (.if_icmp .ne 11, 3) := by decide +kernel
theorem dX11_mark_75 : decode cX11_mark 75 = .ok (.iconst 2, 1) := by decide +kernel
theorem dX11_mark_76 : decode cX11_mark 76 = .ok (.iload 4, 2) := by decide +kernel
theorem dX11_mark_78 : decode cX11_mark 78 = .ok (.imul, 1) := by decide +kernel
theorem dX11_mark_79 : decode cX11_mark 79 = .ok (.iload 5, 2) := by decide +kernel
theorem dX11_mark_81 : decode cX11_mark 81 = .ok (.iadd, 1) := by decide +kernel
theorem dX11_mark_82 : decode cX11_mark 82 = .ok (.ireturn, 1) := by decide +kernel
theorem dX11_mark_83 : decode cX11_mark 83 = .ok (.iinc 3 1, 3) := by decide +kernel
theorem dX11_mark_86 : decode cX11_mark 86 = .ok (.iinc 5 1, 3) := by decide +kernel
theorem dX11_mark_89 : decode cX11_mark 89 = .ok (.goto (-40), 3) := by decide +kernel
theorem dX11_mark_92 : decode cX11_mark 92 = .ok (.iinc 4 1, 3) := by decide +kernel
theorem dX11_mark_95 : decode cX11_mark 95 = .ok (.goto (-61), 3) := by decide +kernel
theorem dX11_mark_98 : decode cX11_mark 98 = .ok (.iconst (-1), 1) := by decide +kernel
theorem dX11_mark_99 : decode cX11_mark 99 = .ok (.ireturn, 1) := by decide +kernel
theorem dX11_aged_0 : decode cX11_aged 0 = .ok (.aload_n 0, 1) := by decide +kernel
theorem dX11_aged_1 : decode cX11_aged 1 = .ok (.getfield 19, 3) := by decide +kernel
theorem dX11_aged_4 : decode cX11_aged 4 = .ok (.iload_n 1, 1) := by decide +kernel
theorem dX11_aged_5 : decode cX11_aged 5 = .ok (.invokevirtual 172, 3) := by decide +kernel
theorem dX11_aged_8 : decode cX11_aged 8 = .ok (.ifCond .eq 22, 3) := by decide +kernel
theorem dX11_aged_11 : decode cX11_aged 11 = .ok (.iload_n 2, 1) := by decide +kernel
theorem dX11_aged_12 : decode cX11_aged 12 = .ok (.invokestatic 248, 3) := by decide +kernel
theorem dX11_aged_15 : decode cX11_aged 15 = .ok (.ifCond .eq 15, 3) := by decide +kernel
theorem dX11_aged_18 : decode cX11_aged 18 = .ok (.aload_n 0, 1) := by decide +kernel
theorem dX11_aged_19 : decode cX11_aged 19 = .ok (.getfield 41, 3) := by decide +kernel
theorem dX11_aged_22 : decode cX11_aged 22 = .ok (.iload_n 1, 1) := by decide +kernel
theorem dX11_aged_23 : decode cX11_aged 23 = .ok (.iload_n 2, 1) := by decide +kernel
theorem dX11_aged_24 : decode cX11_aged 24 = .ok (.invokevirtual 195, 3) := by decide +kernel
theorem dX11_aged_27 : decode cX11_aged 27 = .ok (.goto 4, 3) := by decide +kernel
theorem dX11_aged_30 : decode cX11_aged 30 = .ok (.iconst (-1), 1) := by decide +kernel
theorem dX11_aged_31 : decode cX11_aged 31 = .ok (.ireturn, 1) := by decide +kernel
theorem dX11_owes_0 : decode cX11_owes 0 = .ok (.aload_n 0, 1) := by decide +kernel
theorem dX11_owes_1 : decode cX11_owes 1 = .ok (.getfield 19, 3) := by decide +kernel
theorem dX11_owes_4 : decode cX11_owes 4 = .ok (.iload_n 1, 1) := by decide +kernel
theorem dX11_owes_5 : decode cX11_owes 5 = .ok (.invokevirtual 172, 3) := by decide +kernel
theorem dX11_owes_8 : decode cX11_owes 8 = .ok (.ifCond .eq 12, 3) := by decide +kernel
theorem dX11_owes_11 : decode cX11_owes 11 = .ok (.iload_n 2, 1) := by decide +kernel
theorem dX11_owes_12 : decode cX11_owes 12 = .ok (.ifCond .lt 8, 3) := by decide +kernel
theorem dX11_owes_15 : decode cX11_owes 15 = .ok (.iload_n 2, 1) := by decide +kernel
theorem dX11_owes_16 : decode cX11_owes 16 = .ok (.iconst 1, 1) := by decide +kernel
theorem dX11_owes_17 : decode cX11_owes 17 = .ok (.if_icmp .le 5, 3) := by decide +kernel
theorem dX11_owes_20 : decode cX11_owes 20 = .ok (.iconst (-1), 1) := by decide +kernel
theorem dX11_owes_21 : decode cX11_owes 21 = .ok (.ireturn, 1) := by decide +kernel
theorem dX11_owes_22 : decode cX11_owes 22 = .ok (.iconst 0, 1) := by decide +kernel
theorem dX11_owes_23 : decode cX11_owes 23 = .ok (.istore_n 3, 1) := by decide +kernel
theorem dX11_owes_24 : decode cX11_owes 24 = .ok (.iconst 0, 1) := by decide +kernel
theorem dX11_owes_25 : decode cX11_owes 25 = .ok (.istore 4, 2) := by decide +kernel
theorem dX11_owes_27 : decode cX11_owes 27 = .ok (.iload 4, 2) := by decide +kernel
theorem dX11_owes_29 : decode cX11_owes 29 = .ok (.aload_n 0, 1) := by decide +kernel
theorem dX11_owes_30 : decode cX11_owes 30 = .ok (.getfield 41, 3) := by decide +kernel
theorem dX11_owes_33 : decode cX11_owes 33 = .ok (.getfield 162, 3) := by decide +kernel
theorem dX11_owes_36 : decode cX11_owes 36 = .ok (.if_icmp .ge 96, 3) := by decide +kernel
theorem dX11_owes_39 : decode cX11_owes 39 = .ok (.aload_n 0, 1) := by decide +kernel
theorem dX11_owes_40 : decode cX11_owes 40 = .ok (.getfield 41, 3) := by decide +kernel
theorem dX11_owes_43 : decode cX11_owes 43 = .ok (.iload 4, 2) := by decide +kernel
theorem dX11_owes_45 : decode cX11_owes 45 = .ok (.invokevirtual 251, 3) := by decide +kernel
theorem dX11_owes_48 : decode cX11_owes 48 = .ok (.ifCond .eq 78, 3) := by decide +kernel
theorem dX11_owes_51 : decode cX11_owes 51 = .ok (.iload_n 2, 1) := by decide +kernel
theorem dX11_owes_52 : decode cX11_owes 52 = .ok (.ifCond .ne 16, 3) := by decide +kernel
theorem dX11_owes_55 : decode cX11_owes 55 = .ok (.aload_n 0, 1) := by decide +kernel
theorem dX11_owes_56 : decode cX11_owes 56 = .ok (.getfield 41, 3) := by decide +kernel
theorem dX11_owes_59 : decode cX11_owes 59 = .ok (.getfield 214, 3) := by decide +kernel
theorem dX11_owes_62 : decode cX11_owes 62 = .ok (.iload 4, 2) := by decide +kernel
theorem dX11_owes_64 : decode cX11_owes 64 = .ok (.iaload, 1) := by decide +kernel
theorem dX11_owes_65 : decode cX11_owes 65 = .ok (.goto 13, 3) := by decide +kernel
theorem dX11_owes_68 : decode cX11_owes 68 = .ok (.aload_n 0, 1) := by decide +kernel
theorem dX11_owes_69 : decode cX11_owes 69 = .ok (.getfield 41, 3) := by decide +kernel
theorem dX11_owes_72 : decode cX11_owes 72 = .ok (.getfield 217, 3) := by decide +kernel
theorem dX11_owes_75 : decode cX11_owes 75 = .ok (.iload 4, 2) := by decide +kernel
theorem dX11_owes_77 : decode cX11_owes 77 = .ok (.iaload, 1) := by decide +kernel
theorem dX11_owes_78 : decode cX11_owes 78 = .ok (.istore 5, 2) := by decide +kernel
theorem dX11_owes_80 : decode cX11_owes 80 = .ok (.iload_n 2, 1) := by decide +kernel
theorem dX11_owes_81 : decode cX11_owes 81 = .ok (.ifCond .ne 16, 3) := by decide +kernel
theorem dX11_owes_84 : decode cX11_owes 84 = .ok (.aload_n 0, 1) := by decide +kernel
theorem dX11_owes_85 : decode cX11_owes 85 = .ok (.getfield 41, 3) := by decide +kernel
theorem dX11_owes_88 : decode cX11_owes 88 = .ok (.getfield 217, 3) := by decide +kernel
theorem dX11_owes_91 : decode cX11_owes 91 = .ok (.iload 4, 2) := by decide +kernel
theorem dX11_owes_93 : decode cX11_owes 93 = .ok (.iaload, 1) := by decide +kernel
theorem dX11_owes_94 : decode cX11_owes 94 = .ok (.goto 13, 3) := by decide +kernel
theorem dX11_owes_97 : decode cX11_owes 97 = .ok (.aload_n 0, 1) := by decide +kernel
theorem dX11_owes_98 : decode cX11_owes 98 = .ok (.getfield 41, 3) := by decide +kernel
theorem dX11_owes_101 : decode cX11_owes 101 = .ok (.getfield 214, 3) := by decide +kernel
theorem dX11_owes_104 : decode cX11_owes 104 = .ok (.iload 4, 2) := by decide +kernel
theorem dX11_owes_106 : decode cX11_owes 106 = .ok (.iaload, 1) := by decide +kernel
theorem dX11_owes_107 : decode cX11_owes 107 = .ok (.istore 6, 2) := by decide +kernel
theorem dX11_owes_109 : decode cX11_owes 109 = .ok (.iload_n 3, 1) := by decide +kernel
theorem dX11_owes_110 : decode cX11_owes 110 = .ok (.iload 5, 2) := by decide +kernel
theorem dX11_owes_112 : decode cX11_owes 112 = .ok (.iload_n 1, 1) := by decide +kernel
theorem dX11_owes_113 : decode cX11_owes 113 = .ok (.if_icmp .ne 10, 3) := by decide +kernel
theorem dX11_owes_116 : decode cX11_owes 116 = .ok (.iconst 1, 1) := by decide +kernel
theorem dX11_owes_117 : decode cX11_owes 117 = .ok (.iload 6, 2) := by decide +kernel
theorem dX11_owes_119 : decode cX11_owes 119 = .ok (.ishl, 1) := by decide +kernel
theorem dX11_owes_120 : decode cX11_owes 120 = .ok (.goto 4, 3) := by decide +kernel
theorem dX11_owes_123 : decode cX11_owes 123 = .ok (.iconst 0, 1) := by decide +kernel
theorem dX11_owes_124 : decode cX11_owes 124 = .ok (.ior, 1) := by decide +kernel
theorem dX11_owes_125 : decode cX11_owes 125 = .ok (.istore_n 3, 1) := by decide +kernel
theorem dX11_owes_126 : decode cX11_owes 126 = .ok (.iinc 4 1, 3) := by decide +kernel
theorem dX11_owes_129 : decode cX11_owes 129 = .ok (.goto (-102), 3) := by decide +kernel
theorem dX11_owes_132 : decode cX11_owes 132 = .ok (.iload_n 3, 1) := by decide +kernel
theorem dX11_owes_133 : decode cX11_owes 133 = .ok (.ireturn, 1) := by decide +kernel
theorem dX11_chain_0 : decode cX11_chain 0 = .ok (.aload_n 0, 1) := by decide +kernel
theorem dX11_chain_1 : decode cX11_chain 1 = .ok (.getfield 19, 3) := by decide +kernel
theorem dX11_chain_4 : decode cX11_chain 4 = .ok (.iload_n 1, 1) := by decide +kernel
theorem dX11_chain_5 : decode cX11_chain 5 = .ok (.invokevirtual 172, 3) := by decide +kernel
theorem dX11_chain_8 : decode cX11_chain 8 = .ok (.ifCond .eq 14, 3) := by decide +kernel
theorem dX11_chain_11 : decode cX11_chain 11 = .ok (.aload_n 0, 1) := by decide +kernel
theorem dX11_chain_12 : decode cX11_chain 12 = .ok (.getfield 19, 3) := by decide +kernel
theorem dX11_chain_15 : decode cX11_chain 15 = .ok (.iload_n 2, 1) := by decide +kernel
theorem dX11_chain_16 : decode cX11_chain 16 = .ok (.invokevirtual 172, 3) := by decide +kernel
theorem dX11_chain_19 : decode cX11_chain 19 = .ok (.ifCond .ne 5, 3) := by decide +kernel
theorem dX11_chain_22 : decode cX11_chain 22 = .ok (.iconst (-1), 1) := by decide +kernel
theorem dX11_chain_23 : decode cX11_chain 23 = .ok (.ireturn, 1) := by decide +kernel
theorem dX11_chain_24 : decode cX11_chain 24 = .ok (.iconst 1, 1) := by decide +kernel
theorem dX11_chain_25 : decode cX11_chain 25 = .ok (.iload_n 1, 1) := by decide +kernel
theorem dX11_chain_26 : decode cX11_chain 26 = .ok (.ishl, 1) := by decide +kernel
theorem dX11_chain_27 : decode cX11_chain 27 = .ok (.istore_n 3, 1) := by decide +kernel
theorem dX11_chain_28 : decode cX11_chain 28 = .ok (.iconst 0, 1) := by decide +kernel
theorem dX11_chain_29 : decode cX11_chain 29 = .ok (.istore 4, 2) := by decide +kernel
theorem dX11_chain_31 : decode cX11_chain 31 = .ok (.iload 4, 2) := by decide +kernel
theorem dX11_chain_33 : decode cX11_chain 33 = .ok (.bipush 9, 2) := by decide +kernel
theorem dX11_chain_35 : decode cX11_chain 35 = .ok (.if_icmp .ge 31, 3) := by decide +kernel
theorem dX11_chain_38 : decode cX11_chain 38 = .ok (.iload_n 2, 1) := by decide +kernel
theorem dX11_chain_39 : decode cX11_chain 39 = .ok (.iload_n 3, 1) := by decide +kernel
theorem dX11_chain_40 : decode cX11_chain 40 = .ok (.invokestatic 254, 3) := by decide +kernel
theorem dX11_chain_43 : decode cX11_chain 43 = .ok (.ifCond .eq 6, 3) := by decide +kernel
theorem dX11_chain_46 : decode cX11_chain 46 = .ok (.iload 4, 2) := by decide +kernel
theorem dX11_chain_48 : decode cX11_chain 48 = .ok (.ireturn, 1) := by decide +kernel
theorem dX11_chain_49 : decode cX11_chain 49 = .ok (.iload_n 3, 1) := by decide +kernel
theorem dX11_chain_50 : decode cX11_chain 50 = .ok (.aload_n 0, 1) := by decide +kernel
theorem dX11_chain_51 : decode cX11_chain 51 = .ok (.getfield 41, 3) := by decide +kernel
theorem dX11_chain_54 : decode cX11_chain 54 = .ok (.iload_n 3, 1) := by decide +kernel
theorem dX11_chain_55 : decode cX11_chain 55 = .ok (.invokevirtual 257, 3) := by decide +kernel
theorem dX11_chain_58 : decode cX11_chain 58 = .ok (.ior, 1) := by decide +kernel
theorem dX11_chain_59 : decode cX11_chain 59 = .ok (.istore_n 3, 1) := by decide +kernel
theorem dX11_chain_60 : decode cX11_chain 60 = .ok (.iinc 4 1, 3) := by decide +kernel
theorem dX11_chain_63 : decode cX11_chain 63 = .ok (.goto (-32), 3) := by decide +kernel
theorem dX11_chain_66 : decode cX11_chain 66 = .ok (.iconst (-1), 1) := by decide +kernel
theorem dX11_chain_67 : decode cX11_chain 67 = .ok (.ireturn, 1) := by decide +kernel
theorem dX11_fullest_0 : decode cX11_fullest 0 = .ok (.iconst 0, 1) := by decide +kernel
theorem dX11_fullest_1 : decode cX11_fullest 1 = .ok (.istore_n 2, 1) := by decide +kernel
theorem dX11_fullest_2 : decode cX11_fullest 2 = .ok (.iconst (-1), 1) := by decide +kernel
theorem dX11_fullest_3 : decode cX11_fullest 3 = .ok (.istore_n 3, 1) := by decide +kernel
theorem dX11_fullest_4 : decode cX11_fullest 4 = .ok (.iconst 0, 1) := by decide +kernel
theorem dX11_fullest_5 : decode cX11_fullest 5 = .ok (.istore 4, 2) := by decide +kernel
theorem dX11_fullest_7 : decode cX11_fullest 7 = .ok (.iload 4, 2) := by decide +kernel
theorem dX11_fullest_9 : decode cX11_fullest 9 = .ok (.iload_n 1, 1) := by decide +kernel
theorem dX11_fullest_10 : decode cX11_fullest 10 = .ok (.if_icmp .gt 40, 3) := by decide +kernel
theorem dX11_fullest_13 : decode cX11_fullest 13 = .ok (.iload 4, 2) := by decide +kernel
theorem dX11_fullest_15 : decode cX11_fullest 15 = .ok (.bipush 9, 2) := by decide +kernel
theorem dX11_fullest_17 : decode cX11_fullest 17 = .ok (.if_icmp .ge 33, 3) := by decide +kernel
theorem dX11_fullest_20 : decode cX11_fullest 20 = .ok (.aload_n 0, 1) := by decide +kernel
theorem dX11_fullest_21 : decode cX11_fullest 21 = .ok (.getfield 41, 3) := by decide +kernel
theorem dX11_fullest_24 : decode cX11_fullest 24 = .ok (.iload_n 2, 1) := by decide +kernel
theorem dX11_fullest_25 : decode cX11_fullest 25 = .ok (.invokevirtual 260, 3) := by decide +kernel
theorem dX11_fullest_28 : decode cX11_fullest 28 = .ok (.istore_n 3, 1) := by decide +kernel
theorem dX11_fullest_29 : decode cX11_fullest 29 = .ok (.iload_n 2, 1) := by decide +kernel
theorem dX11_fullest_30 : decode cX11_fullest 30 = .ok (.iload_n 3, 1) := by decide +kernel
theorem dX11_fullest_31 : decode cX11_fullest 31 = .ok (.iconst (-1), 1) := by decide +kernel
theorem dX11_fullest_32 : decode cX11_fullest 32 = .ok (.if_icmp .ne 7, 3) := by decide +kernel
theorem dX11_fullest_35 : decode cX11_fullest 35 = .ok (.iconst 0, 1) := by decide +kernel
theorem dX11_fullest_36 : decode cX11_fullest 36 = .ok (.goto 6, 3) := by decide +kernel
theorem dX11_fullest_39 : decode cX11_fullest 39 = .ok (.iconst 1, 1) := by decide +kernel
theorem dX11_fullest_40 : decode cX11_fullest 40 = .ok (.iload_n 3, 1) := by decide +kernel
theorem dX11_fullest_41 : decode cX11_fullest 41 = .ok (.ishl, 1) := by decide +kernel
theorem dX11_fullest_42 : decode cX11_fullest 42 = .ok (.ior, 1) := by decide +kernel
theorem dX11_fullest_43 : decode cX11_fullest 43 = .ok (.istore_n 2, 1) := by decide +kernel
theorem dX11_fullest_44 : decode cX11_fullest 44 = .ok (.iinc 4 1, 3) := by decide +kernel
theorem dX11_fullest_47 : decode cX11_fullest 47 = .ok (.goto (-40), 3) := by decide +kernel
theorem dX11_fullest_50 : decode cX11_fullest 50 = .ok (.iload_n 1, 1) := by decide +kernel
theorem dX11_fullest_51 : decode cX11_fullest 51 = .ok (.bipush 9, 2) := by decide +kernel
theorem dX11_fullest_53 : decode cX11_fullest 53 = .ok (.if_icmp .ge 7, 3) := by decide +kernel
theorem dX11_fullest_56 : decode cX11_fullest 56 = .ok (.iload_n 3, 1) := by decide +kernel
theorem dX11_fullest_57 : decode cX11_fullest 57 = .ok (.goto 4, 3) := by decide +kernel
theorem dX11_fullest_60 : decode cX11_fullest 60 = .ok (.iconst (-1), 1) := by decide +kernel
theorem dX11_fullest_61 : decode cX11_fullest 61 = .ok (.ireturn, 1) := by decide +kernel
theorem dX11_trade_0 : decode cX11_trade 0 = .ok (.iload_n 1, 1) := by decide +kernel
theorem dX11_trade_1 : decode cX11_trade 1 = .ok (.invokestatic 248, 3) := by decide +kernel
theorem dX11_trade_4 : decode cX11_trade 4 = .ok (.ifCond .eq 12, 3) := by decide +kernel
theorem dX11_trade_7 : decode cX11_trade 7 = .ok (.iload_n 2, 1) := by decide +kernel
theorem dX11_trade_8 : decode cX11_trade 8 = .ok (.ifCond .lt 8, 3) := by decide +kernel
theorem dX11_trade_11 : decode cX11_trade 11 = .ok (.iload_n 2, 1) := by decide +kernel
theorem dX11_trade_12 : decode cX11_trade 12 = .ok (.iconst 3, 1) := by decide +kernel
theorem dX11_trade_13 : decode cX11_trade 13 = .ok (.if_icmp .le 5, 3) := by decide +kernel
theorem dX11_trade_16 : decode cX11_trade 16 = .ok (.iconst (-1), 1) := by decide +kernel
theorem dX11_trade_17 : decode cX11_trade 17 = .ok (.ireturn, 1) := by decide +kernel
theorem dX11_trade_18 : decode cX11_trade 18 = .ok (.iconst 0, 1) := by decide +kernel
theorem dX11_trade_19 : decode cX11_trade 19 = .ok (.istore_n 3, 1) := by decide +kernel
theorem dX11_trade_20 : decode cX11_trade 20 = .ok (.iconst 0, 1) := by decide +kernel
theorem dX11_trade_21 : decode cX11_trade 21 = .ok (.istore 4, 2) := by decide +kernel
theorem dX11_trade_23 : decode cX11_trade 23 = .ok (.iload 4, 2) := by decide +kernel
theorem dX11_trade_25 : decode cX11_trade 25 = .ok (.aload_n 0, 1) := by decide +kernel
theorem dX11_trade_26 : decode cX11_trade 26 = .ok (.getfield 41, 3) := by decide +kernel
theorem dX11_trade_29 : decode cX11_trade 29 = .ok (.getfield 162, 3) := by decide +kernel
theorem dX11_trade_32 : decode cX11_trade 32 = .ok (.if_icmp .ge 55, 3) := by decide +kernel
theorem dX11_trade_35 : decode cX11_trade 35 = .ok (.aload_n 0, 1) := by decide +kernel
theorem dX11_trade_36 : decode cX11_trade 36 = .ok (.getfield 41, 3) := by decide +kernel
theorem dX11_trade_39 : decode cX11_trade 39 = .ok (.getfield 226, 3) := by decide +kernel
theorem dX11_trade_42 : decode cX11_trade 42 = .ok (.iload 4, 2) := by decide +kernel
theorem dX11_trade_44 : decode cX11_trade 44 = .ok (.iaload, 1) := by decide +kernel
theorem dX11_trade_45 : decode cX11_trade 45 = .ok (.iload_n 1, 1) := by decide +kernel
theorem dX11_trade_46 : decode cX11_trade 46 = .ok (.if_icmp .ne 35, 3) := by decide +kernel
theorem dX11_trade_49 : decode cX11_trade 49 = .ok (.iload_n 2, 1) := by decide +kernel
theorem dX11_trade_50 : decode cX11_trade 50 = .ok (.ifCond .eq 19, 3) := by decide +kernel
theorem dX11_trade_53 : decode cX11_trade 53 = .ok (.aload_n 0, 1) := by decide +kernel
theorem dX11_trade_54 : decode cX11_trade 54 = .ok (.getfield 41, 3) := by decide +kernel
theorem dX11_trade_57 : decode cX11_trade 57 = .ok (.getfield 229, 3) := by decide +kernel
theorem dX11_trade_60 : decode cX11_trade 60 = .ok (.iload 4, 2) := by decide +kernel
theorem dX11_trade_62 : decode cX11_trade 62 = .ok (.iaload, 1) := by decide +kernel
theorem dX11_trade_63 : decode cX11_trade 63 = .ok (.iload_n 2, 1) := by decide +kernel
theorem dX11_trade_64 : decode cX11_trade 64 = .ok (.iconst 1, 1) := by decide +kernel
theorem dX11_trade_65 : decode cX11_trade 65 = .ok (.isub, 1) := by decide +kernel
theorem dX11_trade_66 : decode cX11_trade 66 = .ok (.if_icmp .ne 15, 3) := by decide +kernel
theorem dX11_trade_69 : decode cX11_trade 69 = .ok (.iload_n 3, 1) := by decide +kernel
theorem dX11_trade_70 : decode cX11_trade 70 = .ok (.aload_n 0, 1) := by decide +kernel
theorem dX11_trade_71 : decode cX11_trade 71 = .ok (.getfield 41, 3) := by decide +kernel
theorem dX11_trade_74 : decode cX11_trade 74 = .ok (.iload 4, 2) := by decide +kernel
theorem dX11_trade_76 : decode cX11_trade 76 = .ok (.invokevirtual 238, 3) := by decide +kernel
theorem dX11_trade_79 : decode cX11_trade 79 = .ok (.iadd, 1) := by decide +kernel
theorem dX11_trade_80 : decode cX11_trade 80 = .ok (.istore_n 3, 1) := by decide +kernel
theorem dX11_trade_81 : decode cX11_trade 81 = .ok (.iinc 4 1, 3) := by decide +kernel
theorem dX11_trade_84 : decode cX11_trade 84 = .ok (.goto (-61), 3) := by decide +kernel
theorem dX11_trade_87 : decode cX11_trade 87 = .ok (.iload_n 3, 1) := by decide +kernel
theorem dX11_trade_88 : decode cX11_trade 88 = .ok (.ireturn, 1) := by decide +kernel
theorem dX11_settled_0 : decode cX11_settled 0 = .ok (.aload_n 0, 1) := by decide +kernel
theorem dX11_settled_1 : decode cX11_settled 1 = .ok (.getfield 86, 3) := by decide +kernel
theorem dX11_settled_4 : decode cX11_settled 4 = .ok (.aload_n 0, 1) := by decide +kernel
theorem dX11_settled_5 : decode cX11_settled 5 = .ok (.getfield 41, 3) := by decide +kernel
theorem dX11_settled_8 : decode cX11_settled 8 = .ok (.invokevirtual 263, 3) := by decide +kernel
theorem dX11_settled_11 : decode cX11_settled 11 = .ok (.ireturn, 1) := by decide +kernel
theorem dX11_between_0 : decode cX11_between 0 = .ok (.aload_n 0, 1) := by decide +kernel
theorem dX11_between_1 : decode cX11_between 1 = .ok (.getfield 19, 3) := by decide +kernel
theorem dX11_between_4 : decode cX11_between 4 = .ok (.iload_n 1, 1) := by decide +kernel
theorem dX11_between_5 : decode cX11_between 5 = .ok (.invokevirtual 172, 3) := by decide +kernel
theorem dX11_between_8 : decode cX11_between 8 = .ok (.ifCond .eq 14, 3) := by decide +kernel
theorem dX11_between_11 : decode cX11_between 11 = .ok (.aload_n 0, 1) := by decide +kernel
theorem dX11_between_12 : decode cX11_between 12 = .ok (.getfield 19, 3) := by decide +kernel
theorem dX11_between_15 : decode cX11_between 15 = .ok (.iload_n 2, 1) := by decide +kernel
theorem dX11_between_16 : decode cX11_between 16 = .ok (.invokevirtual 172, 3) := by decide +kernel
theorem dX11_between_19 : decode cX11_between 19 = .ok (.ifCond .ne 5, 3) := by decide +kernel
theorem dX11_between_22 : decode cX11_between 22 = .ok (.iconst (-1), 1) := by decide +kernel
theorem dX11_between_23 : decode cX11_between 23 = .ok (.ireturn, 1) := by decide +kernel
theorem dX11_between_24 : decode cX11_between 24 = .ok (.iconst 0, 1) := by decide +kernel
theorem dX11_between_25 : decode cX11_between 25 = .ok (.istore 4, 2) := by decide +kernel
theorem dX11_between_27 : decode cX11_between 27 = .ok (.iconst 0, 1) := by decide +kernel
theorem dX11_between_28 : decode cX11_between 28 = .ok (.istore 5, 2) := by decide +kernel
theorem dX11_between_30 : decode cX11_between 30 = .ok (.iload 5, 2) := by decide +kernel
theorem dX11_between_32 : decode cX11_between 32 = .ok (.aload_n 0, 1) := by decide +kernel
theorem dX11_between_33 : decode cX11_between 33 = .ok (.getfield 41, 3) := by decide +kernel
theorem dX11_between_36 : decode cX11_between 36 = .ok (.getfield 162, 3) := by decide +kernel
theorem dX11_between_39 : decode cX11_between 39 = .ok (.if_icmp .ge 61, 3) := by decide +kernel
theorem dX11_between_42 : decode cX11_between 42 = .ok (.aload_n 0, 1) := by decide +kernel
theorem dX11_between_43 : decode cX11_between 43 = .ok (.getfield 41, 3) := by decide +kernel
theorem dX11_between_46 : decode cX11_between 46 = .ok (.iload 5, 2) := by decide +kernel
theorem dX11_between_48 : decode cX11_between 48 = .ok (.invokevirtual 251, 3) := by decide +kernel
theorem dX11_between_51 : decode cX11_between 51 = .ok (.ifCond .eq 43, 3) := by decide +kernel
theorem dX11_between_54 : decode cX11_between 54 = .ok (.aload_n 0, 1) := by decide +kernel
theorem dX11_between_55 : decode cX11_between 55 = .ok (.getfield 41, 3) := by decide +kernel
theorem dX11_between_58 : decode cX11_between 58 = .ok (.getfield 214, 3) := by decide +kernel
theorem dX11_between_61 : decode cX11_between 61 = .ok (.iload 5, 2) := by decide +kernel
theorem dX11_between_63 : decode cX11_between 63 = .ok (.iaload, 1) := by decide +kernel
theorem dX11_between_64 : decode cX11_between 64 = .ok (.iload_n 1, 1) := by decide +kernel
theorem dX11_between_65 : decode cX11_between 65 = .ok (.if_icmp .ne 29, 3) := by decide +kernel
theorem dX11_between_68 : decode cX11_between 68 = .ok (.aload_n 0, 1) := by decide +kernel
theorem dX11_between_69 : decode cX11_between 69 = .ok (.getfield 41, 3) := by decide +kernel
theorem dX11_between_72 : decode cX11_between 72 = .ok (.getfield 217, 3) := by decide +kernel
theorem dX11_between_75 : decode cX11_between 75 = .ok (.iload 5, 2) := by decide +kernel
theorem dX11_between_77 : decode cX11_between 77 = .ok (.iaload, 1) := by decide +kernel
theorem dX11_between_78 : decode cX11_between 78 = .ok (.iload_n 2, 1) := by decide +kernel
theorem dX11_between_79 : decode cX11_between 79 = .ok (.if_icmp .ne 15, 3) := by decide +kernel
theorem dX11_between_82 : decode cX11_between 82 = .ok (.iload 4, 2) := by decide +kernel
theorem dX11_between_84 : decode cX11_between 84 = .ok (.iload_n 3, 1) := by decide +kernel
theorem dX11_between_85 : decode cX11_between 85 = .ok (.if_icmp .ne 6, 3) := by decide +kernel
theorem dX11_between_88 : decode cX11_between 88 = .ok (.iload 5, 2) := by decide +kernel
theorem dX11_between_90 : decode cX11_between 90 = .ok (.ireturn, 1) := by decide +kernel
theorem dX11_between_91 : decode cX11_between 91 = .ok (.iinc 4 1, 3) := by decide +kernel
theorem dX11_between_94 : decode cX11_between 94 = .ok (.iinc 5 1, 3) := by decide +kernel
theorem dX11_between_97 : decode cX11_between 97 = .ok (.goto (-67), 3) := by decide +kernel
theorem dX11_between_100 : decode cX11_between 100 = .ok (.iload_n 3, 1) := by decide +kernel
theorem dX11_between_101 : decode cX11_between 101 = .ok (.iconst (-1), 1) := by decide +kernel
theorem dX11_between_102 : decode cX11_between 102 = .ok (.if_icmp .ne 8, 3) := by decide +kernel
theorem dX11_between_105 : decode cX11_between 105 = .ok (.iload 4, 2) := by decide +kernel
theorem dX11_between_107 : decode cX11_between 107 = .ok (.goto 4, 3) := by decide +kernel
theorem dX11_between_110 : decode cX11_between 110 = .ok (.iconst (-1), 1) := by decide +kernel
theorem dX11_between_111 : decode cX11_between 111 = .ok (.ireturn, 1) := by decide +kernel
theorem dX11_greatest_0 : decode cX11_greatest 0 = .ok (.iload_n 1, 1) := by decide +kernel
theorem dX11_greatest_1 : decode cX11_greatest 1 = .ok (.ifCond .ge 5, 3) := by decide +kernel
theorem dX11_greatest_4 : decode cX11_greatest 4 = .ok (.iconst (-1), 1) := by decide +kernel
theorem dX11_greatest_5 : decode cX11_greatest 5 = .ok (.ireturn, 1) := by decide +kernel
theorem dX11_greatest_6 : decode cX11_greatest 6 = .ok (.iconst 0, 1) := by decide +kernel
theorem dX11_greatest_7 : decode cX11_greatest 7 = .ok (.istore_n 2, 1) := by decide +kernel
theorem dX11_greatest_8 : decode cX11_greatest 8 = .ok (.iload_n 2, 1) := by decide +kernel
theorem dX11_greatest_9 : decode cX11_greatest 9 = .ok (.aload_n 0, 1) := by decide +kernel
theorem dX11_greatest_10 : decode cX11_greatest 10 = .ok (.getfield 41, 3) := by decide +kernel
theorem dX11_greatest_13 : decode cX11_greatest 13 = .ok (.getfield 162, 3) := by decide +kernel
theorem dX11_greatest_16 : decode cX11_greatest 16 = .ok (.if_icmp .ge 34, 3) := by decide +kernel
theorem dX11_greatest_19 : decode cX11_greatest 19 = .ok (.aload_n 0, 1) := by decide +kernel
theorem dX11_greatest_20 : decode cX11_greatest 20 = .ok (.getfield 41, 3) := by decide +kernel
theorem dX11_greatest_23 : decode cX11_greatest 23 = .ok (.iload_n 2, 1) := by decide +kernel
theorem dX11_greatest_24 : decode cX11_greatest 24 = .ok (.invokevirtual 251, 3) := by decide +kernel
theorem dX11_greatest_27 : decode cX11_greatest 27 = .ok (.ifCond .eq 17, 3) := by decide +kernel
theorem dX11_greatest_30 : decode cX11_greatest 30 = .ok (.aload_n 0, 1) := by decide +kernel
theorem dX11_greatest_31 : decode cX11_greatest 31 = .ok (.getfield 41, 3) := by decide +kernel
theorem dX11_greatest_34 : decode cX11_greatest 34 = .ok (.iload_n 2, 1) := by decide +kernel
theorem dX11_greatest_35 : decode cX11_greatest 35 = .ok (.invokevirtual 267, 3) := by decide +kernel
theorem dX11_greatest_38 : decode cX11_greatest 38 = .ok (.iload_n 1, 1) := by decide +kernel
theorem dX11_greatest_39 : decode cX11_greatest 39 = .ok (.if_icmp .ne 5, 3) := by decide +kernel
theorem dX11_greatest_42 : decode cX11_greatest 42 = .ok (.iload_n 2, 1) := by decide +kernel
theorem dX11_greatest_43 : decode cX11_greatest 43 = .ok (.ireturn, 1) := by decide +kernel
theorem dX11_greatest_44 : decode cX11_greatest 44 = .ok (.iinc 2 1, 3) := by decide +kernel
theorem dX11_greatest_47 : decode cX11_greatest 47 = .ok (.goto (-39), 3) := by decide +kernel
theorem dX11_greatest_50 : decode cX11_greatest 50 = .ok (.iconst (-1), 1) := by decide +kernel
theorem dX11_greatest_51 : decode cX11_greatest 51 = .ok (.ireturn, 1) := by decide +kernel
theorem dX11_skin_0 : decode cX11_skin 0 = .ok (.aload_n 0, 1) := by decide +kernel
theorem dX11_skin_1 : decode cX11_skin 1 = .ok (.getfield 19, 3) := by decide +kernel
theorem dX11_skin_4 : decode cX11_skin 4 = .ok (.iload_n 1, 1) := by decide +kernel
theorem dX11_skin_5 : decode cX11_skin 5 = .ok (.invokevirtual 172, 3) := by decide +kernel
theorem dX11_skin_8 : decode cX11_skin 8 = .ok (.ifCond .ne 5, 3) := by decide +kernel
theorem dX11_skin_11 : decode cX11_skin 11 = .ok (.iconst (-1), 1) := by decide +kernel
theorem dX11_skin_12 : decode cX11_skin 12 = .ok (.ireturn, 1) := by decide +kernel
theorem dX11_skin_13 : decode cX11_skin 13 = .ok (.aload_n 0, 1) := by decide +kernel
theorem dX11_skin_14 : decode cX11_skin 14 = .ok (.getfield 93, 3) := by decide +kernel
theorem dX11_skin_17 : decode cX11_skin 17 = .ok (.iconst 0, 1) := by decide +kernel
theorem dX11_skin_18 : decode cX11_skin 18 = .ok (.putfield 270, 3) := by decide +kernel
theorem dX11_skin_21 : decode cX11_skin 21 = .ok (.iconst 0, 1) := by decide +kernel
theorem dX11_skin_22 : decode cX11_skin 22 = .ok (.istore_n 2, 1) := by decide +kernel
theorem dX11_skin_23 : decode cX11_skin 23 = .ok (.iload_n 2, 1) := by decide +kernel
theorem dX11_skin_24 : decode cX11_skin 24 = .ok (.aload_n 0, 1) := by decide +kernel
theorem dX11_skin_25 : decode cX11_skin 25 = .ok (.getfield 41, 3) := by decide +kernel
theorem dX11_skin_28 : decode cX11_skin 28 = .ok (.getfield 162, 3) := by decide +kernel
theorem dX11_skin_31 : decode cX11_skin 31 = .ok (.if_icmp .ge 41, 3) := by decide +kernel
theorem dX11_skin_34 : decode cX11_skin 34 = .ok (.iconst 0, 1) := by decide +kernel
theorem dX11_skin_35 : decode cX11_skin 35 = .ok (.istore_n 3, 1) := by decide +kernel
theorem dX11_skin_36 : decode cX11_skin 36 = .ok (.iload_n 3, 1) := by decide +kernel
theorem dX11_skin_37 : decode cX11_skin 37 = .ok (.iconst 1, 1) := by decide +kernel
theorem dX11_skin_38 : decode cX11_skin 38 = .ok (.if_icmp .gt 28, 3) := by decide +kernel
theorem dX11_skin_41 : decode cX11_skin 41 = .ok (.aload_n 0, 1) := by decide +kernel
theorem dX11_skin_42 : decode cX11_skin 42 = .ok (.getfield 41, 3) := by decide +kernel
theorem dX11_skin_45 : decode cX11_skin 45 = .ok (.iload_n 2, 1) := by decide +kernel
theorem dX11_skin_46 : decode cX11_skin 46 = .ok (.iload_n 3, 1) := by decide +kernel
theorem dX11_skin_47 : decode cX11_skin 47 = .ok (.invokevirtual 232, 3) := by decide +kernel
theorem dX11_skin_50 : decode cX11_skin 50 = .ok (.iload_n 1, 1) := by decide +kernel
theorem dX11_skin_51 : decode cX11_skin 51 = .ok (.if_icmp .ne 9, 3) := by decide +kernel
theorem dX11_skin_54 : decode cX11_skin 54 = .ok (.aload_n 0, 1) := by decide +kernel
theorem dX11_skin_55 : decode cX11_skin 55 = .ok (.iload_n 2, 1) := by decide +kernel
theorem dX11_skin_56 : decode cX11_skin 56 = .ok (.iload_n 3, 1) := by decide +kernel
theorem dX11_skin_57 : decode cX11_skin 57 = .ok (.invokevirtual 271, 3) := by decide +kernel
theorem dX11_skin_60 : decode cX11_skin 60 = .ok (.iinc 3 1, 3) := by decide +kernel
theorem dX11_skin_63 : decode cX11_skin 63 = .ok (.goto (-27), 3) := by decide +kernel
theorem dX11_skin_66 : decode cX11_skin 66 = .ok (.iinc 2 1, 3) := by decide +kernel
theorem dX11_skin_69 : decode cX11_skin 69 = .ok (.goto (-46), 3) := by decide +kernel
theorem dX11_skin_72 : decode cX11_skin 72 = .ok (.aload_n 0, 1) := by decide +kernel
theorem dX11_skin_73 : decode cX11_skin 73 = .ok (.getfield 93, 3) := by decide +kernel
theorem dX11_skin_76 : decode cX11_skin 76 = .ok (.getfield 270, 3) := by decide +kernel
theorem dX11_skin_79 : decode cX11_skin 79 = .ok (.ireturn, 1) := by decide +kernel
theorem dX11_addMark_0 : decode cX11_addMark 0 = .ok (.iload_n 2, 1) := by decide +kernel
theorem dX11_addMark_1 : decode cX11_addMark 1 = .ok (.ifCond .ne 15, 3) := by decide +kernel
theorem dX11_addMark_4 : decode cX11_addMark 4 = .ok (.aload_n 0, 1) := by decide +kernel
theorem dX11_addMark_5 : decode cX11_addMark 5 = .ok (.getfield 41, 3) := by decide +kernel
theorem dX11_addMark_8 : decode cX11_addMark 8 = .ok (.getfield 217, 3) := by decide +kernel
theorem dX11_addMark_11 : decode cX11_addMark 11 = .ok (.iload_n 1, 1) := by decide +kernel
theorem dX11_addMark_12 : decode cX11_addMark 12 = .ok (.iaload, 1) := by decide +kernel
theorem dX11_addMark_13 : decode cX11_addMark 13 = .ok (.goto 12, 3) := by decide +kernel
theorem dX11_addMark_16 : decode cX11_addMark 16 = .ok (.aload_n 0, 1) := by decide +kernel
theorem dX11_addMark_17 : decode cX11_addMark 17 = .ok (.getfield 41, 3) := by decide +kernel
theorem dX11_addMark_20 : decode cX11_addMark 20 = .ok (.getfield 214, 3) := by decide +kernel
theorem dX11_addMark_23 : decode cX11_addMark 23 = .ok (.iload_n 1, 1) := by decide +kernel
theorem dX11_addMark_24 : decode cX11_addMark 24 = .ok (.iaload, 1) := by decide +kernel
theorem dX11_addMark_25 : decode cX11_addMark 25 = .ok (.istore_n 3, 1) := by decide +kernel
theorem dX11_addMark_26 : decode cX11_addMark 26 = .ok (.aload_n 0, 1) := by decide +kernel
theorem dX11_addMark_27 : decode cX11_addMark 27 = .ok (.getfield 93, 3) := by decide +kernel
theorem dX11_addMark_30 : decode cX11_addMark 30 = .ok (.iload_n 2, 1) := by decide +kernel
theorem dX11_addMark_31 : decode cX11_addMark 31 = .ok (.ifCond .ne 8, 3) := by decide +kernel
theorem dX11_addMark_34 : decode cX11_addMark 34 = .ok (.bipush 43, 2) := by decide +kernel
theorem dX11_addMark_36 : decode cX11_addMark 36 = .ok (.goto 5, 3) := by decide +kernel
theorem dX11_addMark_39 : decode cX11_addMark 39 = .ok (.bipush 45, 2) := by decide +kernel
theorem dX11_addMark_41 : decode cX11_addMark 41 = .ok (.invokevirtual 275, 3) := by decide +kernel
theorem dX11_addMark_44 : decode cX11_addMark 44 = .ok (.aload_n 0, 1) := by decide +kernel
theorem dX11_addMark_45 : decode cX11_addMark 45 = .ok (.getfield 93, 3) := by decide +kernel
theorem dX11_addMark_48 : decode cX11_addMark 48 = .ok (.bipush 32, 2) := by decide +kernel
theorem dX11_addMark_50 : decode cX11_addMark 50 = .ok (.invokevirtual 275, 3) := by decide +kernel
theorem dX11_addMark_53 : decode cX11_addMark 53 = .ok (.aload_n 0, 1) := by decide +kernel
theorem dX11_addMark_54 : decode cX11_addMark 54 = .ok (.getfield 93, 3) := by decide +kernel
theorem dX11_addMark_57 : decode cX11_addMark 57 = .ok (.aload_n 0, 1) := by decide +kernel
theorem dX11_addMark_58 : decode cX11_addMark 58 = .ok (.getfield 19, 3) := by decide +kernel
theorem dX11_addMark_61 : decode cX11_addMark 61 = .ok (.getfield 276, 3) := by decide +kernel
theorem dX11_addMark_64 : decode cX11_addMark 64 = .ok (.iload_n 3, 1) := by decide +kernel
theorem dX11_addMark_65 : decode cX11_addMark 65 = .ok (.laload, 1) := by decide +kernel
theorem dX11_addMark_66 : decode cX11_addMark 66 = .ok (.invokevirtual 280, 3) := by decide +kernel
theorem dX11_addMark_69 : decode cX11_addMark 69 = .ok (.aload_n 0, 1) := by decide +kernel
theorem dX11_addMark_70 : decode cX11_addMark 70 = .ok (.getfield 93, 3) := by decide +kernel
theorem dX11_addMark_73 : decode cX11_addMark 73 = .ok (.bipush 32, 2) := by decide +kernel
theorem dX11_addMark_75 : decode cX11_addMark 75 = .ok (.invokevirtual 275, 3) := by decide +kernel
theorem dX11_addMark_78 : decode cX11_addMark 78 = .ok (.aload_n 0, 1) := by decide +kernel
theorem dX11_addMark_79 : decode cX11_addMark 79 = .ok (.getfield 41, 3) := by decide +kernel
theorem dX11_addMark_82 : decode cX11_addMark 82 = .ok (.iload_n 1, 1) := by decide +kernel
theorem dX11_addMark_83 : decode cX11_addMark 83 = .ok (.iload_n 2, 1) := by decide +kernel
theorem dX11_addMark_84 : decode cX11_addMark 84 = .ok (.invokevirtual 284, 3) := by decide +kernel
theorem dX11_addMark_87 : decode cX11_addMark 87 = .ok (.ifCond .eq 15, 3) := by decide +kernel
theorem dX11_addMark_90 : decode cX11_addMark 90 = .ok (.aload_n 0, 1) := by decide +kernel
theorem dX11_addMark_91 : decode cX11_addMark 91 = .ok (.getfield 93, 3) := by decide +kernel
theorem dX11_addMark_94 : decode cX11_addMark 94 = .ok (.bipush 63, 2) := by decide +kernel
theorem dX11_addMark_96 : decode cX11_addMark 96 = .ok (.invokevirtual 275, 3) := by decide +kernel
theorem dX11_addMark_99 : decode cX11_addMark 99 = .ok (.goto 19, 3) := by decide +kernel
theorem dX11_addMark_102 : decode cX11_addMark 102 = .ok (.aload_n 0, 1) := by decide +kernel
theorem dX11_addMark_103 : decode cX11_addMark 103 = .ok (.getfield 93, 3) := by decide +kernel
theorem dX11_addMark_106 : decode cX11_addMark 106 = .ok (.aload_n 0, 1) := by decide +kernel
theorem dX11_addMark_107 : decode cX11_addMark 107 = .ok (.getfield 41, 3) := by decide +kernel
theorem dX11_addMark_110 : decode cX11_addMark 110 = .ok (.getfield 220, 3) := by decide +kernel
theorem dX11_addMark_113 : decode cX11_addMark 113 = .ok (.iload_n 1, 1) := by decide +kernel
theorem dX11_addMark_114 : decode cX11_addMark 114 = .ok (.iaload, 1) := by decide +kernel
theorem dX11_addMark_115 : decode cX11_addMark 115 = .ok (.invokevirtual 287, 3) := by decide +kernel
theorem dX11_addMark_118 : decode cX11_addMark 118 = .ok (.aload_n 0, 1) := by decide +kernel
theorem dX11_addMark_119 : decode cX11_addMark 119 = .ok (.getfield 93, 3) := by decide +kernel
theorem dX11_addMark_122 : decode cX11_addMark 122 = .ok (.bipush 32, 2) := by decide +kernel
theorem dX11_addMark_124 : decode cX11_addMark 124 = .ok (.invokevirtual 275, 3) := by decide +kernel
theorem dX11_addMark_127 : decode cX11_addMark 127 = .ok (.aload_n 0, 1) := by decide +kernel
theorem dX11_addMark_128 : decode cX11_addMark 128 = .ok (.getfield 93, 3) := by decide +kernel
theorem dX11_addMark_131 : decode cX11_addMark 131 = .ok (.aload_n 0, 1) := by decide +kernel
theorem dX11_addMark_132 : decode cX11_addMark 132 = .ok (.getfield 19, 3) := by decide +kernel
theorem dX11_addMark_135 : decode cX11_addMark 135 = .ok (.getfield 290, 3) := by decide +kernel
theorem dX11_addMark_138 : decode cX11_addMark 138 = .ok (.aload_n 0, 1) := by decide +kernel
theorem dX11_addMark_139 : decode cX11_addMark 139 = .ok (.getfield 41, 3) := by decide +kernel
theorem dX11_addMark_142 : decode cX11_addMark 142 = .ok (.getfield 223, 3) := by decide +kernel
theorem dX11_addMark_145 : decode cX11_addMark 145 = .ok (.iload_n 1, 1) := by decide +kernel
theorem dX11_addMark_146 : decode cX11_addMark 146 = .ok (.iaload, 1) := by decide +kernel
theorem dX11_addMark_147 : decode cX11_addMark 147 = .ok (.laload, 1) := by decide +kernel
theorem dX11_addMark_148 : decode cX11_addMark 148 = .ok (.invokevirtual 280, 3) := by decide +kernel
theorem dX11_addMark_151 : decode cX11_addMark 151 = .ok (.aload_n 0, 1) := by decide +kernel
theorem dX11_addMark_152 : decode cX11_addMark 152 = .ok (.getfield 41, 3) := by decide +kernel
theorem dX11_addMark_155 : decode cX11_addMark 155 = .ok (.getfield 229, 3) := by decide +kernel
theorem dX11_addMark_158 : decode cX11_addMark 158 = .ok (.iload_n 1, 1) := by decide +kernel
theorem dX11_addMark_159 : decode cX11_addMark 159 = .ok (.iaload, 1) := by decide +kernel
theorem dX11_addMark_160 : decode cX11_addMark 160 = .ok (.iconst 1, 1) := by decide +kernel
theorem dX11_addMark_161 : decode cX11_addMark 161 = .ok (.if_icmp .ne 12, 3) := by decide +kernel
theorem dX11_addMark_164 : decode cX11_addMark 164 = .ok (.aload_n 0, 1) := by decide +kernel
theorem dX11_addMark_165 : decode cX11_addMark 165 = .ok (.getfield 93, 3) := by decide +kernel
theorem dX11_addMark_168 : decode cX11_addMark 168 = .ok (.bipush 120, 2) := by decide +kernel
theorem dX11_addMark_170 : decode cX11_addMark 170 = .ok (.invokevirtual 275, 3) := by decide +kernel
theorem dX11_addMark_173 : decode cX11_addMark 173 = .ok (.aload_n 0, 1) := by decide +kernel
theorem dX11_addMark_174 : decode cX11_addMark 174 = .ok (.getfield 41, 3) := by decide +kernel
theorem dX11_addMark_177 : decode cX11_addMark 177 = .ok (.getfield 229, 3) := by decide +kernel
theorem dX11_addMark_180 : decode cX11_addMark 180 = .ok (.iload_n 1, 1) := by decide +kernel
theorem dX11_addMark_181 : decode cX11_addMark 181 = .ok (.iaload, 1) := by decide +kernel
theorem dX11_addMark_182 : decode cX11_addMark 182 = .ok (.iconst 2, 1) := by decide +kernel
theorem dX11_addMark_183 : decode cX11_addMark 183 = .ok (.if_icmp .ne 12, 3) := by decide +kernel
theorem dX11_addMark_186 : decode cX11_addMark 186 = .ok (.aload_n 0, 1) := by decide +kernel
theorem dX11_addMark_187 : decode cX11_addMark 187 = .ok (.getfield 93, 3) := by decide +kernel
theorem dX11_addMark_190 : decode cX11_addMark 190 = .ok (.bipush 111, 2) := by decide +kernel
theorem dX11_addMark_192 : decode cX11_addMark 192 = .ok (.invokevirtual 275, 3) := by decide +kernel
theorem dX11_addMark_195 : decode cX11_addMark 195 = .ok (.aload_n 0, 1) := by decide +kernel
theorem dX11_addMark_196 : decode cX11_addMark 196 = .ok (.getfield 93, 3) := by decide +kernel
theorem dX11_addMark_199 : decode cX11_addMark 199 = .ok (.bipush 59, 2) := by decide +kernel
theorem dX11_addMark_201 : decode cX11_addMark 201 = .ok (.invokevirtual 275, 3) := by decide +kernel
theorem dX11_addMark_204 : decode cX11_addMark 204 = .ok (.return_, 1) := by decide +kernel
theorem dX11_byteAt_0 : decode cX11_byteAt 0 = .ok (.aload_n 0, 1) := by decide +kernel
theorem dX11_byteAt_1 : decode cX11_byteAt 1 = .ok (.getfield 93, 3) := by decide +kernel
theorem dX11_byteAt_4 : decode cX11_byteAt 4 = .ok (.iload_n 1, 1) := by decide +kernel
theorem dX11_byteAt_5 : decode cX11_byteAt 5 = .ok (.invokevirtual 293, 3) := by decide +kernel
theorem dX11_byteAt_8 : decode cX11_byteAt 8 = .ok (.ireturn, 1) := by decide +kernel
theorem dX11_write_0 : decode cX11_write 0 = .ok (.aload_n 0, 1) := by decide +kernel
theorem dX11_write_1 : decode cX11_write 1 = .ok (.getfield 19, 3) := by decide +kernel
theorem dX11_write_4 : decode cX11_write 4 = .ok (.iload_n 1, 1) := by decide +kernel
theorem dX11_write_5 : decode cX11_write 5 = .ok (.iload_n 2, 1) := by decide +kernel
theorem dX11_write_6 : decode cX11_write 6 = .ok (.iload 4, 2) := by decide +kernel
theorem dX11_write_8 : decode cX11_write 8 = .ok (.invokevirtual 296, 3) := by decide +kernel
theorem dX11_write_11 : decode cX11_write 11 = .ok (.ifCond .eq 14, 3) := by decide +kernel
theorem dX11_write_14 : decode cX11_write 14 = .ok (.iload_n 3, 1) := by decide +kernel
theorem dX11_write_15 : decode cX11_write 15 = .ok (.iconst 1, 1) := by decide +kernel
theorem dX11_write_16 : decode cX11_write 16 = .ok (.if_icmp .lt 9, 3) := by decide +kernel
theorem dX11_write_19 : decode cX11_write 19 = .ok (.iload_n 3, 1) := by decide +kernel
theorem dX11_write_20 : decode cX11_write 20 = .ok (.bipush 99, 2) := by decide +kernel
theorem dX11_write_22 : decode cX11_write 22 = .ok (.if_icmp .le 5, 3) := by decide +kernel
theorem dX11_write_25 : decode cX11_write 25 = .ok (.iconst (-1), 1) := by decide +kernel
theorem dX11_write_26 : decode cX11_write 26 = .ok (.ireturn, 1) := by decide +kernel
theorem dX11_write_27 : decode cX11_write 27 = .ok (.aload_n 0, 1) := by decide +kernel
theorem dX11_write_28 : decode cX11_write 28 = .ok (.getfield 51, 3) := by decide +kernel
theorem dX11_write_31 : decode cX11_write 31 = .ok (.aload_n 0, 1) := by decide +kernel
theorem dX11_write_32 : decode cX11_write 32 = .ok (.getfield 41, 3) := by decide +kernel
theorem dX11_write_35 : decode cX11_write 35 = .ok (.invokevirtual 300, 3) := by decide +kernel
theorem dX11_write_38 : decode cX11_write 38 = .ok (.aload_n 0, 1) := by decide +kernel
theorem dX11_write_39 : decode cX11_write 39 = .ok (.getfield 41, 3) := by decide +kernel
theorem dX11_write_42 : decode cX11_write 42 = .ok (.iload_n 1, 1) := by decide +kernel
theorem dX11_write_43 : decode cX11_write 43 = .ok (.iload_n 2, 1) := by decide +kernel
theorem dX11_write_44 : decode cX11_write 44 = .ok (.iload_n 3, 1) := by decide +kernel
theorem dX11_write_45 : decode cX11_write 45 = .ok (.iload 4, 2) := by decide +kernel
theorem dX11_write_47 : decode cX11_write 47 = .ok (.invokevirtual 304, 3) := by decide +kernel
theorem dX11_write_50 : decode cX11_write 50 = .ok (.istore 5, 2) := by decide +kernel
theorem dX11_write_52 : decode cX11_write 52 = .ok (.iload 5, 2) := by decide +kernel
theorem dX11_write_54 : decode cX11_write 54 = .ok (.ifCond .eq 9, 3) := by decide +kernel
theorem dX11_write_57 : decode cX11_write 57 = .ok (.bipush (-10), 2) := by decide +kernel
theorem dX11_write_59 : decode cX11_write 59 = .ok (.iload 5, 2) := by decide +kernel
theorem dX11_write_61 : decode cX11_write 61 = .ok (.isub, 1) := by decide +kernel
theorem dX11_write_62 : decode cX11_write 62 = .ok (.ireturn, 1) := by decide +kernel
theorem dX11_write_63 : decode cX11_write 63 = .ok (.aload_n 0, 1) := by decide +kernel
theorem dX11_write_64 : decode cX11_write 64 = .ok (.getfield 51, 3) := by decide +kernel
theorem dX11_write_67 : decode cX11_write 67 = .ok (.invokevirtual 308, 3) := by decide +kernel
theorem dX11_write_70 : decode cX11_write 70 = .ok (.aload_n 0, 1) := by decide +kernel
theorem dX11_write_71 : decode cX11_write 71 = .ok (.getfield 41, 3) := by decide +kernel
theorem dX11_write_74 : decode cX11_write 74 = .ok (.getfield 162, 3) := by decide +kernel
theorem dX11_write_77 : decode cX11_write 77 = .ok (.iconst 1, 1) := by decide +kernel
theorem dX11_write_78 : decode cX11_write 78 = .ok (.isub, 1) := by decide +kernel
theorem dX11_write_79 : decode cX11_write 79 = .ok (.ireturn, 1) := by decide +kernel
theorem dX11_strike_0 : decode cX11_strike 0 = .ok (.aload_n 0, 1) := by decide +kernel
theorem dX11_strike_1 : decode cX11_strike 1 = .ok (.getfield 51, 3) := by decide +kernel
theorem dX11_strike_4 : decode cX11_strike 4 = .ok (.aload_n 0, 1) := by decide +kernel
theorem dX11_strike_5 : decode cX11_strike 5 = .ok (.getfield 41, 3) := by decide +kernel
theorem dX11_strike_8 : decode cX11_strike 8 = .ok (.invokevirtual 300, 3) := by decide +kernel
theorem dX11_strike_11 : decode cX11_strike 11 = .ok (.aload_n 0, 1) := by decide +kernel
theorem dX11_strike_12 : decode cX11_strike 12 = .ok (.getfield 41, 3) := by decide +kernel
theorem dX11_strike_15 : decode cX11_strike 15 = .ok (.iload_n 1, 1) := by decide +kernel
theorem dX11_strike_16 : decode cX11_strike 16 = .ok (.invokevirtual 311, 3) := by decide +kernel
theorem dX11_strike_19 : decode cX11_strike 19 = .ok (.istore_n 2, 1) := by decide +kernel
theorem dX11_strike_20 : decode cX11_strike 20 = .ok (.iload_n 2, 1) := by decide +kernel
theorem dX11_strike_21 : decode cX11_strike 21 = .ok (.ifCond .ne 10, 3) := by decide +kernel
theorem dX11_strike_24 : decode cX11_strike 24 = .ok (.aload_n 0, 1) := by decide +kernel
theorem dX11_strike_25 : decode cX11_strike 25 = .ok (.getfield 51, 3) := by decide +kernel
theorem dX11_strike_28 : decode cX11_strike 28 = .ok (.invokevirtual 308, 3) := by decide +kernel
theorem dX11_strike_31 : decode cX11_strike 31 = .ok (.iload_n 2, 1) := by decide +kernel
theorem dX11_strike_32 : decode cX11_strike 32 = .ok (.ireturn, 1) := by decide +kernel
theorem dX11_scar_0 : decode cX11_scar 0 = .ok (.iload_n 2, 1) := by decide +kernel
theorem dX11_scar_1 : decode cX11_scar 1 = .ok (.invokestatic 241, 3) := by decide +kernel
theorem dX11_scar_4 : decode cX11_scar 4 = .ok (.ifCond .ne 5, 3) := by decide +kernel
theorem dX11_scar_7 : decode cX11_scar 7 = .ok (.iconst (-1), 1) := by decide +kernel
theorem dX11_scar_8 : decode cX11_scar 8 = .ok (.ireturn, 1) := by decide +kernel
theorem dX11_scar_9 : decode cX11_scar 9 = .ok (.aload_n 0, 1) := by decide +kernel
theorem dX11_scar_10 : decode cX11_scar 10 = .ok (.getfield 51, 3) := by decide +kernel
theorem dX11_scar_13 : decode cX11_scar 13 = .ok (.aload_n 0, 1) := by decide +kernel
theorem dX11_scar_14 : decode cX11_scar 14 = .ok (.getfield 41, 3) := by decide +kernel
theorem dX11_scar_17 : decode cX11_scar 17 = .ok (.invokevirtual 300, 3) := by decide +kernel
theorem dX11_scar_20 : decode cX11_scar 20 = .ok (.aload_n 0, 1) := by decide +kernel
theorem dX11_scar_21 : decode cX11_scar 21 = .ok (.getfield 41, 3) := by decide +kernel
theorem dX11_scar_24 : decode cX11_scar 24 = .ok (.iload_n 1, 1) := by decide +kernel
theorem dX11_scar_25 : decode cX11_scar 25 = .ok (.iload_n 2, 1) := by decide +kernel
theorem dX11_scar_26 : decode cX11_scar 26 = .ok (.invokevirtual 314, 3) := by decide +kernel
theorem dX11_scar_29 : decode cX11_scar 29 = .ok (.istore_n 3, 1) := by decide +kernel
theorem dX11_scar_30 : decode cX11_scar 30 = .ok (.iload_n 3, 1) := by decide +kernel
theorem dX11_scar_31 : decode cX11_scar 31 = .ok (.ifCond .ne 10, 3) := by decide +kernel
theorem dX11_scar_34 : decode cX11_scar 34 = .ok (.aload_n 0, 1) := by decide +kernel
theorem dX11_scar_35 : decode cX11_scar 35 = .ok (.getfield 51, 3) := by decide +kernel
theorem dX11_scar_38 : decode cX11_scar 38 = .ok (.invokevirtual 308, 3) := by decide +kernel
theorem dX11_scar_41 : decode cX11_scar 41 = .ok (.iload_n 3, 1) := by decide +kernel
theorem dX11_scar_42 : decode cX11_scar 42 = .ok (.ireturn, 1) := by decide +kernel
theorem dX11_cut_0 : decode cX11_cut 0 = .ok (.aload_n 0, 1) := by decide +kernel
theorem dX11_cut_1 : decode cX11_cut 1 = .ok (.getfield 51, 3) := by decide +kernel
theorem dX11_cut_4 : decode cX11_cut 4 = .ok (.aload_n 0, 1) := by decide +kernel
theorem dX11_cut_5 : decode cX11_cut 5 = .ok (.getfield 41, 3) := by decide +kernel
theorem dX11_cut_8 : decode cX11_cut 8 = .ok (.invokevirtual 300, 3) := by decide +kernel
theorem dX11_cut_11 : decode cX11_cut 11 = .ok (.aload_n 0, 1) := by decide +kernel
theorem dX11_cut_12 : decode cX11_cut 12 = .ok (.getfield 41, 3) := by decide +kernel
theorem dX11_cut_15 : decode cX11_cut 15 = .ok (.aload_n 0, 1) := by decide +kernel
theorem dX11_cut_16 : decode cX11_cut 16 = .ok (.getfield 65, 3) := by decide +kernel
theorem dX11_cut_19 : decode cX11_cut 19 = .ok (.invokevirtual 317, 3) := by decide +kernel
theorem dX11_cut_22 : decode cX11_cut 22 = .ok (.ifCond .eq 5, 3) := by decide +kernel
theorem dX11_cut_25 : decode cX11_cut 25 = .ok (.iconst (-1), 1) := by decide +kernel
theorem dX11_cut_26 : decode cX11_cut 26 = .ok (.ireturn, 1) := by decide +kernel
theorem dX11_cut_27 : decode cX11_cut 27 = .ok (.aload_n 0, 1) := by decide +kernel
theorem dX11_cut_28 : decode cX11_cut 28 = .ok (.getfield 51, 3) := by decide +kernel
theorem dX11_cut_31 : decode cX11_cut 31 = .ok (.invokevirtual 308, 3) := by decide +kernel
theorem dX11_cut_34 : decode cX11_cut 34 = .ok (.aload_n 0, 1) := by decide +kernel
theorem dX11_cut_35 : decode cX11_cut 35 = .ok (.getfield 65, 3) := by decide +kernel
theorem dX11_cut_38 : decode cX11_cut 38 = .ok (.getfield 321, 3) := by decide +kernel
theorem dX11_cut_41 : decode cX11_cut 41 = .ok (.ireturn, 1) := by decide +kernel
theorem dX11_dies_0 : decode cX11_dies 0 = .ok (.aload_n 0, 1) := by decide +kernel
theorem dX11_dies_1 : decode cX11_dies 1 = .ok (.getfield 19, 3) := by decide +kernel
theorem dX11_dies_4 : decode cX11_dies 4 = .ok (.iload_n 1, 1) := by decide +kernel
theorem dX11_dies_5 : decode cX11_dies 5 = .ok (.invokevirtual 172, 3) := by decide +kernel
theorem dX11_dies_8 : decode cX11_dies 8 = .ok (.ifCond .eq 14, 3) := by decide +kernel
theorem dX11_dies_11 : decode cX11_dies 11 = .ok (.aload_n 0, 1) := by decide +kernel
theorem dX11_dies_12 : decode cX11_dies 12 = .ok (.getfield 19, 3) := by decide +kernel
theorem dX11_dies_15 : decode cX11_dies 15 = .ok (.iload_n 2, 1) := by decide +kernel
theorem dX11_dies_16 : decode cX11_dies 16 = .ok (.invokevirtual 172, 3) := by decide +kernel
theorem dX11_dies_19 : decode cX11_dies 19 = .ok (.ifCond .ne 5, 3) := by decide +kernel
theorem dX11_dies_22 : decode cX11_dies 22 = .ok (.iconst (-1), 1) := by decide +kernel
theorem dX11_dies_23 : decode cX11_dies 23 = .ok (.ireturn, 1) := by decide +kernel
theorem dX11_dies_24 : decode cX11_dies 24 = .ok (.aload_n 0, 1) := by decide +kernel
theorem dX11_dies_25 : decode cX11_dies 25 = .ok (.getfield 51, 3) := by decide +kernel
theorem dX11_dies_28 : decode cX11_dies 28 = .ok (.aload_n 0, 1) := by decide +kernel
theorem dX11_dies_29 : decode cX11_dies 29 = .ok (.getfield 41, 3) := by decide +kernel
theorem dX11_dies_32 : decode cX11_dies 32 = .ok (.invokevirtual 300, 3) := by decide +kernel
theorem dX11_dies_35 : decode cX11_dies 35 = .ok (.aload_n 0, 1) := by decide +kernel
theorem dX11_dies_36 : decode cX11_dies 36 = .ok (.getfield 41, 3) := by decide +kernel
theorem dX11_dies_39 : decode cX11_dies 39 = .ok (.iload_n 1, 1) := by decide +kernel
theorem dX11_dies_40 : decode cX11_dies 40 = .ok (.iload_n 2, 1) := by decide +kernel
theorem dX11_dies_41 : decode cX11_dies 41 = .ok (.invokevirtual 324, 3) := by decide +kernel
theorem dX11_dies_44 : decode cX11_dies 44 = .ok (.istore_n 3, 1) := by decide +kernel
theorem dX11_dies_45 : decode cX11_dies 45 = .ok (.aload_n 0, 1) := by decide +kernel
theorem dX11_dies_46 : decode cX11_dies 46 = .ok (.getfield 41, 3) := by decide +kernel
theorem dX11_dies_49 : decode cX11_dies 49 = .ok (.iload_n 1, 1) := by decide +kernel
theorem dX11_dies_50 : decode cX11_dies 50 = .ok (.iload_n 2, 1) := by decide +kernel
theorem dX11_dies_51 : decode cX11_dies 51 = .ok (.invokevirtual 327, 3) := by decide +kernel
theorem dX11_dies_54 : decode cX11_dies 54 = .ok (.istore 4, 2) := by decide +kernel
theorem dX11_dies_56 : decode cX11_dies 56 = .ok (.iload 4, 2) := by decide +kernel
theorem dX11_dies_58 : decode cX11_dies 58 = .ok (.ifCond .eq 9, 3) := by decide +kernel
theorem dX11_dies_61 : decode cX11_dies 61 = .ok (.bipush (-10), 2) := by decide +kernel
theorem dX11_dies_63 : decode cX11_dies 63 = .ok (.iload 4, 2) := by decide +kernel
theorem dX11_dies_65 : decode cX11_dies 65 = .ok (.isub, 1) := by decide +kernel
theorem dX11_dies_66 : decode cX11_dies 66 = .ok (.ireturn, 1) := by decide +kernel
theorem dX11_dies_67 : decode cX11_dies 67 = .ok (.aload_n 0, 1) := by decide +kernel
theorem dX11_dies_68 : decode cX11_dies 68 = .ok (.getfield 51, 3) := by decide +kernel
theorem dX11_dies_71 : decode cX11_dies 71 = .ok (.invokevirtual 308, 3) := by decide +kernel
theorem dX11_dies_74 : decode cX11_dies 74 = .ok (.iload_n 3, 1) := by decide +kernel
theorem dX11_dies_75 : decode cX11_dies 75 = .ok (.ireturn, 1) := by decide +kernel
theorem dX11_year_0 : decode cX11_year 0 = .ok (.aload_n 0, 1) := by decide +kernel
theorem dX11_year_1 : decode cX11_year 1 = .ok (.getfield 51, 3) := by decide +kernel
theorem dX11_year_4 : decode cX11_year 4 = .ok (.aload_n 0, 1) := by decide +kernel
theorem dX11_year_5 : decode cX11_year 5 = .ok (.getfield 41, 3) := by decide +kernel
theorem dX11_year_8 : decode cX11_year 8 = .ok (.invokevirtual 300, 3) := by decide +kernel
theorem dX11_year_11 : decode cX11_year 11 = .ok (.aload_n 0, 1) := by decide +kernel
theorem dX11_year_12 : decode cX11_year 12 = .ok (.getfield 41, 3) := by decide +kernel
theorem dX11_year_15 : decode cX11_year 15 = .ok (.invokevirtual 330, 3) := by decide +kernel
theorem dX11_year_18 : decode cX11_year 18 = .ok (.ifCond .eq 5, 3) := by decide +kernel
theorem dX11_year_21 : decode cX11_year 21 = .ok (.iconst (-1), 1) := by decide +kernel
theorem dX11_year_22 : decode cX11_year 22 = .ok (.ireturn, 1) := by decide +kernel
theorem dX11_year_23 : decode cX11_year 23 = .ok (.aload_n 0, 1) := by decide +kernel
theorem dX11_year_24 : decode cX11_year 24 = .ok (.getfield 51, 3) := by decide +kernel
theorem dX11_year_27 : decode cX11_year 27 = .ok (.invokevirtual 308, 3) := by decide +kernel
theorem dX11_year_30 : decode cX11_year 30 = .ok (.aload_n 0, 1) := by decide +kernel
theorem dX11_year_31 : decode cX11_year 31 = .ok (.getfield 41, 3) := by decide +kernel
theorem dX11_year_34 : decode cX11_year 34 = .ok (.getfield 169, 3) := by decide +kernel
theorem dX11_year_37 : decode cX11_year 37 = .ok (.ireturn, 1) := by decide +kernel
theorem dX11_undo_0 : decode cX11_undo 0 = .ok (.aload_n 0, 1) := by decide +kernel
theorem dX11_undo_1 : decode cX11_undo 1 = .ok (.getfield 51, 3) := by decide +kernel
theorem dX11_undo_4 : decode cX11_undo 4 = .ok (.aload_n 0, 1) := by decide +kernel
theorem dX11_undo_5 : decode cX11_undo 5 = .ok (.getfield 41, 3) := by decide +kernel
theorem dX11_undo_8 : decode cX11_undo 8 = .ok (.invokevirtual 333, 3) := by decide +kernel
theorem dX11_undo_11 : decode cX11_undo 11 = .ok (.ireturn, 1) := by decide +kernel
theorem dX11_ring_0 : decode cX11_ring 0 = .ok (.aload_n 0, 1) := by decide +kernel
theorem dX11_ring_1 : decode cX11_ring 1 = .ok (.getfield 65, 3) := by decide +kernel
theorem dX11_ring_4 : decode cX11_ring 4 = .ok (.aload_n 0, 1) := by decide +kernel
theorem dX11_ring_5 : decode cX11_ring 5 = .ok (.getfield 41, 3) := by decide +kernel
theorem dX11_ring_8 : decode cX11_ring 8 = .ok (.invokevirtual 336, 3) := by decide +kernel
theorem dX11_ring_11 : decode cX11_ring 11 = .ok (.ifCond .ne 5, 3) := by decide +kernel
theorem dX11_ring_14 : decode cX11_ring 14 = .ok (.iconst (-1), 1) := by decide +kernel
theorem dX11_ring_15 : decode cX11_ring 15 = .ok (.ireturn, 1) := by decide +kernel
theorem dX11_ring_16 : decode cX11_ring 16 = .ok (.aload_n 0, 1) := by decide +kernel
theorem dX11_ring_17 : decode cX11_ring 17 = .ok (.aload_n 0, 1) := by decide +kernel
theorem dX11_ring_18 : decode cX11_ring 18 = .ok (.getfield 65, 3) := by decide +kernel
theorem dX11_ring_21 : decode cX11_ring 21 = .ok (.getfield 340, 3) := by decide +kernel
theorem dX11_ring_24 : decode cX11_ring 24 = .ok (.putfield 341, 3) := by decide +kernel
theorem dX11_ring_27 : decode cX11_ring 27 = .ok (.iconst 0, 1) := by decide +kernel
theorem dX11_ring_28 : decode cX11_ring 28 = .ok (.istore_n 1, 1) := by decide +kernel
theorem dX11_ring_29 : decode cX11_ring 29 = .ok (.iload_n 1, 1) := by decide +kernel
theorem dX11_ring_30 : decode cX11_ring 30 = .ok (.iconst 5, 1) := by decide +kernel
theorem dX11_ring_31 : decode cX11_ring 31 = .ok (.if_icmp .ge 24, 3) := by decide +kernel
theorem dX11_ring_34 : decode cX11_ring 34 = .ok (.aload_n 0, 1) := by decide +kernel
theorem dX11_ring_35 : decode cX11_ring 35 = .ok (.getfield 97, 3) := by decide +kernel
theorem dX11_ring_38 : decode cX11_ring 38 = .ok (.iload_n 1, 1) := by decide +kernel
theorem dX11_ring_39 : decode cX11_ring 39 = .ok (.aload_n 0, 1) := by decide +kernel
theorem dX11_ring_40 : decode cX11_ring 40 = .ok (.getfield 65, 3) := by decide +kernel
theorem dX11_ring_43 : decode cX11_ring 43 = .ok (.getfield 344, 3) := by decide +kernel
theorem dX11_ring_46 : decode cX11_ring 46 = .ok (.iload_n 1, 1) := by decide +kernel
theorem dX11_ring_47 : decode cX11_ring 47 = .ok (.iaload, 1) := by decide +kernel
theorem dX11_ring_48 : decode cX11_ring 48 = .ok (.iastore, 1) := by decide +kernel
theorem dX11_ring_49 : decode cX11_ring 49 = .ok (.iinc 1 1, 3) := by decide +kernel
theorem dX11_ring_52 : decode cX11_ring 52 = .ok (.goto (-23), 3) := by decide +kernel
theorem dX11_ring_55 : decode cX11_ring 55 = .ok (.aload_n 0, 1) := by decide +kernel
theorem dX11_ring_56 : decode cX11_ring 56 = .ok (.getfield 65, 3) := by decide +kernel
theorem dX11_ring_59 : decode cX11_ring 59 = .ok (.getfield 347, 3) := by decide +kernel
theorem dX11_ring_62 : decode cX11_ring 62 = .ok (.ireturn, 1) := by decide +kernel
theorem dX11_ringAt_0 : decode cX11_ringAt 0 = .ok (.iload_n 1, 1) := by decide +kernel
theorem dX11_ringAt_1 : decode cX11_ringAt 1 = .ok (.ifCond .lt 25, 3) := by decide +kernel
theorem dX11_ringAt_4 : decode cX11_ringAt 4 = .ok (.iload_n 1, 1) := by decide +kernel
theorem dX11_ringAt_5 : decode cX11_ringAt 5 = .ok (.aload_n 0, 1) := by decide +kernel
theorem dX11_ringAt_6 : decode cX11_ringAt 6 = .ok (.getfield 341, 3) := by decide +kernel
theorem dX11_ringAt_9 : decode cX11_ringAt 9 = .ok (.if_icmp .ge 17, 3) := by decide +kernel
theorem dX11_ringAt_12 : decode cX11_ringAt 12 = .ok (.iload_n 1, 1) := by decide +kernel
theorem dX11_ringAt_13 : decode cX11_ringAt 13 = .ok (.iconst 5, 1) := by decide +kernel
theorem dX11_ringAt_14 : decode cX11_ringAt 14 = .ok (.if_icmp .ge 12, 3) := by decide +kernel
theorem dX11_ringAt_17 : decode cX11_ringAt 17 = .ok (.aload_n 0, 1) := by decide +kernel
theorem dX11_ringAt_18 : decode cX11_ringAt 18 = .ok (.getfield 97, 3) := by decide +kernel
theorem dX11_ringAt_21 : decode cX11_ringAt 21 = .ok (.iload_n 1, 1) := by decide +kernel
theorem dX11_ringAt_22 : decode cX11_ringAt 22 = .ok (.iaload, 1) := by decide +kernel
theorem dX11_ringAt_23 : decode cX11_ringAt 23 = .ok (.goto 4, 3) := by decide +kernel
theorem dX11_ringAt_26 : decode cX11_ringAt 26 = .ok (.iconst (-1), 1) := by decide +kernel
theorem dX11_ringAt_27 : decode cX11_ringAt 27 = .ok (.ireturn, 1) := by decide +kernel
theorem dX11_ringOf_0 : decode cX11_ringOf 0 = .ok (.aload_n 0, 1) := by decide +kernel
theorem dX11_ringOf_1 : decode cX11_ringOf 1 = .ok (.getfield 41, 3) := by decide +kernel
theorem dX11_ringOf_4 : decode cX11_ringOf 4 = .ok (.iload_n 1, 1) := by decide +kernel
theorem dX11_ringOf_5 : decode cX11_ringOf 5 = .ok (.invokevirtual 211, 3) := by decide +kernel
theorem dX11_ringOf_8 : decode cX11_ringOf 8 = .ok (.ifCond .eq 28, 3) := by decide +kernel
theorem dX11_ringOf_11 : decode cX11_ringOf 11 = .ok (.aload_n 0, 1) := by decide +kernel
theorem dX11_ringOf_12 : decode cX11_ringOf 12 = .ok (.getfield 65, 3) := by decide +kernel
theorem dX11_ringOf_15 : decode cX11_ringOf 15 = .ok (.aload_n 0, 1) := by decide +kernel
theorem dX11_ringOf_16 : decode cX11_ringOf 16 = .ok (.getfield 41, 3) := by decide +kernel
theorem dX11_ringOf_19 : decode cX11_ringOf 19 = .ok (.iload_n 1, 1) := by decide +kernel
theorem dX11_ringOf_20 : decode cX11_ringOf 20 = .ok (.invokevirtual 350, 3) := by decide +kernel
theorem dX11_ringOf_23 : decode cX11_ringOf 23 = .ok (.ifCond .eq 13, 3) := by decide +kernel
theorem dX11_ringOf_26 : decode cX11_ringOf 26 = .ok (.aload_n 0, 1) := by decide +kernel
theorem dX11_ringOf_27 : decode cX11_ringOf 27 = .ok (.getfield 65, 3) := by decide +kernel
theorem dX11_ringOf_30 : decode cX11_ringOf 30 = .ok (.getfield 347, 3) := by decide +kernel
theorem dX11_ringOf_33 : decode cX11_ringOf 33 = .ok (.goto 4, 3) := by decide +kernel
theorem dX11_ringOf_36 : decode cX11_ringOf 36 = .ok (.iconst (-1), 1) := by decide +kernel
theorem dX11_ringOf_37 : decode cX11_ringOf 37 = .ok (.ireturn, 1) := by decide +kernel
theorem dX11_can_0 : decode cX11_can 0 = .ok (.aload_n 0, 1) := by decide +kernel
theorem dX11_can_1 : decode cX11_can 1 = .ok (.getfield 19, 3) := by decide +kernel
theorem dX11_can_4 : decode cX11_can 4 = .ok (.iload_n 1, 1) := by decide +kernel
theorem dX11_can_5 : decode cX11_can 5 = .ok (.invokevirtual 172, 3) := by decide +kernel
theorem dX11_can_8 : decode cX11_can 8 = .ok (.ifCond .eq 14, 3) := by decide +kernel
theorem dX11_can_11 : decode cX11_can 11 = .ok (.aload_n 0, 1) := by decide +kernel
theorem dX11_can_12 : decode cX11_can 12 = .ok (.getfield 19, 3) := by decide +kernel
theorem dX11_can_15 : decode cX11_can 15 = .ok (.iload_n 2, 1) := by decide +kernel
theorem dX11_can_16 : decode cX11_can 16 = .ok (.invokevirtual 202, 3) := by decide +kernel
theorem dX11_can_19 : decode cX11_can 19 = .ok (.ifCond .ne 5, 3) := by decide +kernel
theorem dX11_can_22 : decode cX11_can 22 = .ok (.iconst (-1), 1) := by decide +kernel
theorem dX11_can_23 : decode cX11_can 23 = .ok (.ireturn, 1) := by decide +kernel
theorem dX11_can_24 : decode cX11_can 24 = .ok (.iconst 0, 1) := by decide +kernel
theorem dX11_can_25 : decode cX11_can 25 = .ok (.istore_n 3, 1) := by decide +kernel
theorem dX11_can_26 : decode cX11_can 26 = .ok (.iconst 0, 1) := by decide +kernel
theorem dX11_can_27 : decode cX11_can 27 = .ok (.istore 4, 2) := by decide +kernel
theorem dX11_can_29 : decode cX11_can 29 = .ok (.iload 4, 2) := by decide +kernel
theorem dX11_can_31 : decode cX11_can 31 = .ok (.aload_n 0, 1) := by decide +kernel
theorem dX11_can_32 : decode cX11_can 32 = .ok (.getfield 19, 3) := by decide +kernel
theorem dX11_can_35 : decode cX11_can 35 = .ok (.getfield 150, 3) := by decide +kernel
theorem dX11_can_38 : decode cX11_can 38 = .ok (.if_icmp .ge 30, 3) := by decide +kernel
theorem dX11_can_41 : decode cX11_can 41 = .ok (.aload_n 0, 1) := by decide +kernel
theorem dX11_can_42 : decode cX11_can 42 = .ok (.getfield 41, 3) := by decide +kernel
theorem dX11_can_45 : decode cX11_can 45 = .ok (.iload_n 1, 1) := by decide +kernel
theorem dX11_can_46 : decode cX11_can 46 = .ok (.iload 4, 2) := by decide +kernel
theorem dX11_can_48 : decode cX11_can 48 = .ok (.iload_n 2, 1) := by decide +kernel
theorem dX11_can_49 : decode cX11_can 49 = .ok (.invokevirtual 354, 3) := by decide +kernel
theorem dX11_can_52 : decode cX11_can 52 = .ok (.ifCond .ne 10, 3) := by decide +kernel
theorem dX11_can_55 : decode cX11_can 55 = .ok (.iload_n 3, 1) := by decide +kernel
theorem dX11_can_56 : decode cX11_can 56 = .ok (.iconst 1, 1) := by decide +kernel
theorem dX11_can_57 : decode cX11_can 57 = .ok (.iload 4, 2) := by decide +kernel
theorem dX11_can_59 : decode cX11_can 59 = .ok (.ishl, 1) := by decide +kernel
theorem dX11_can_60 : decode cX11_can 60 = .ok (.ior, 1) := by decide +kernel
theorem dX11_can_61 : decode cX11_can 61 = .ok (.istore_n 3, 1) := by decide +kernel
theorem dX11_can_62 : decode cX11_can 62 = .ok (.iinc 4 1, 3) := by decide +kernel
theorem dX11_can_65 : decode cX11_can 65 = .ok (.goto (-36), 3) := by decide +kernel
theorem dX11_can_68 : decode cX11_can 68 = .ok (.iload_n 3, 1) := by decide +kernel
theorem dX11_can_69 : decode cX11_can 69 = .ok (.ireturn, 1) := by decide +kernel
theorem dX11_ringsFor_0 : decode cX11_ringsFor 0 = .ok (.aload_n 0, 1) := by decide +kernel
theorem dX11_ringsFor_1 : decode cX11_ringsFor 1 = .ok (.getfield 19, 3) := by decide +kernel
theorem dX11_ringsFor_4 : decode cX11_ringsFor 4 = .ok (.iload_n 1, 1) := by decide +kernel
theorem dX11_ringsFor_5 : decode cX11_ringsFor 5 = .ok (.iload_n 2, 1) := by decide +kernel
theorem dX11_ringsFor_6 : decode cX11_ringsFor 6 = .ok (.iload_n 3, 1) := by decide +kernel
theorem dX11_ringsFor_7 : decode cX11_ringsFor 7 = .ok (.invokevirtual 296, 3) := by decide +kernel
theorem dX11_ringsFor_10 : decode cX11_ringsFor 10 = .ok (.ifCond .ne 5, 3) := by decide +kernel
theorem dX11_ringsFor_13 : decode cX11_ringsFor 13 = .ok (.iconst (-1), 1) := by decide +kernel
theorem dX11_ringsFor_14 : decode cX11_ringsFor 14 = .ok (.ireturn, 1) := by decide +kernel
theorem dX11_ringsFor_15 : decode cX11_ringsFor 15 = .ok (.aload_n 0, 1) := by decide +kernel
theorem dX11_ringsFor_16 : decode cX11_ringsFor 16 = .ok (.getfield 45, 3) := by decide +kernel
theorem dX11_ringsFor_19 : decode cX11_ringsFor 19 = .ok (.aload_n 0, 1) := by decide +kernel
theorem dX11_ringsFor_20 : decode cX11_ringsFor 20 = .ok (.getfield 41, 3) := by decide +kernel
theorem dX11_ringsFor_23 : decode cX11_ringsFor 23 = .ok (.invokevirtual 358, 3) := by decide +kernel
theorem dX11_ringsFor_26 : decode cX11_ringsFor 26 = .ok (.iconst 0, 1) := by decide +kernel
theorem dX11_ringsFor_27 : decode cX11_ringsFor 27 = .ok (.istore 4, 2) := by decide +kernel
theorem dX11_ringsFor_29 : decode cX11_ringsFor 29 = .ok (.iload 4, 2) := by decide +kernel
theorem dX11_ringsFor_31 : decode cX11_ringsFor 31 = .ok (.bipush 60, 2) := by decide +kernel
theorem dX11_ringsFor_33 : decode cX11_ringsFor 33 = .ok (.if_icmp .gt 51, 3) := by decide +kernel
theorem dX11_ringsFor_36 : decode cX11_ringsFor 36 = .ok (.aload_n 0, 1) := by decide +kernel
theorem dX11_ringsFor_37 : decode cX11_ringsFor 37 = .ok (.getfield 45, 3) := by decide +kernel
theorem dX11_ringsFor_40 : decode cX11_ringsFor 40 = .ok (.iload_n 1, 1) := by decide +kernel
theorem dX11_ringsFor_41 : decode cX11_ringsFor 41 = .ok (.iload_n 2, 1) := by decide +kernel
theorem dX11_ringsFor_42 : decode cX11_ringsFor 42 = .ok (.iload_n 3, 1) := by decide +kernel
theorem dX11_ringsFor_43 : decode cX11_ringsFor 43 = .ok (.invokevirtual 354, 3) := by decide +kernel
theorem dX11_ringsFor_46 : decode cX11_ringsFor 46 = .ok (.istore 5, 2) := by decide +kernel
theorem dX11_ringsFor_48 : decode cX11_ringsFor 48 = .ok (.iload 5, 2) := by decide +kernel
theorem dX11_ringsFor_50 : decode cX11_ringsFor 50 = .ok (.ifCond .ne 6, 3) := by decide +kernel
theorem dX11_ringsFor_53 : decode cX11_ringsFor 53 = .ok (.iload 4, 2) := by decide +kernel
theorem dX11_ringsFor_55 : decode cX11_ringsFor 55 = .ok (.ireturn, 1) := by decide +kernel
theorem dX11_ringsFor_56 : decode cX11_ringsFor 56 = .ok (.iload 5, 2) := by decide +kernel
theorem dX11_ringsFor_58 : decode cX11_ringsFor 58 = .ok (.iconst 1, 1) := by decide +kernel
theorem dX11_ringsFor_59 : decode cX11_ringsFor 59 = .ok (.if_icmp .eq 17, 3) := by decide +kernel
theorem dX11_ringsFor_62 : decode cX11_ringsFor 62 = .ok (.aload_n 0, 1) := by decide +kernel
theorem dX11_ringsFor_63 : decode cX11_ringsFor 63 = .ok (.getfield 45, 3) := by decide +kernel
theorem dX11_ringsFor_66 : decode cX11_ringsFor 66 = .ok (.aload_n 0, 1) := by decide +kernel
theorem dX11_ringsFor_67 : decode cX11_ringsFor 67 = .ok (.getfield 65, 3) := by decide +kernel
theorem dX11_ringsFor_70 : decode cX11_ringsFor 70 = .ok (.invokevirtual 317, 3) := by decide +kernel
theorem dX11_ringsFor_73 : decode cX11_ringsFor 73 = .ok (.ifCond .eq 5, 3) := by decide +kernel
theorem dX11_ringsFor_76 : decode cX11_ringsFor 76 = .ok (.iconst (-1), 1) := by decide +kernel
theorem dX11_ringsFor_77 : decode cX11_ringsFor 77 = .ok (.ireturn, 1) := by decide +kernel
theorem dX11_ringsFor_78 : decode cX11_ringsFor 78 = .ok (.iinc 4 1, 3) := by decide +kernel
theorem dX11_ringsFor_81 : decode cX11_ringsFor 81 = .ok (.goto (-52), 3) := by decide +kernel
theorem dX11_ringsFor_84 : decode cX11_ringsFor 84 = .ok (.iconst (-1), 1) := by decide +kernel
theorem dX11_ringsFor_85 : decode cX11_ringsFor 85 = .ok (.ireturn, 1) := by decide +kernel
theorem dX11_judge_0 : decode cX11_judge 0 = .ok (.iload_n 1, 1) := by decide +kernel
theorem dX11_judge_1 : decode cX11_judge 1 = .ok (.ifCond .lt 8, 3) := by decide +kernel
theorem dX11_judge_4 : decode cX11_judge 4 = .ok (.iload_n 1, 1) := by decide +kernel
theorem dX11_judge_5 : decode cX11_judge 5 = .ok (.iconst 1, 1) := by decide +kernel
theorem dX11_judge_6 : decode cX11_judge 6 = .ok (.if_icmp .le 6, 3) := by decide +kernel
theorem dX11_judge_9 : decode cX11_judge 9 = .ok (.bipush (-2), 2) := by decide +kernel
theorem dX11_judge_11 : decode cX11_judge 11 = .ok (.ireturn, 1) := by decide +kernel
theorem dX11_judge_12 : decode cX11_judge 12 = .ok (.iload_n 1, 1) := by decide +kernel
theorem dX11_judge_13 : decode cX11_judge 13 = .ok (.iconst 1, 1) := by decide +kernel
theorem dX11_judge_14 : decode cX11_judge 14 = .ok (.if_icmp .ne 10, 3) := by decide +kernel
theorem dX11_judge_17 : decode cX11_judge 17 = .ok (.aload_n 0, 1) := by decide +kernel
theorem dX11_judge_18 : decode cX11_judge 18 = .ok (.getfield 41, 3) := by decide +kernel
theorem dX11_judge_21 : decode cX11_judge 21 = .ok (.goto 7, 3) := by decide +kernel
theorem dX11_judge_24 : decode cX11_judge 24 = .ok (.aload_n 0, 1) := by decide +kernel
theorem dX11_judge_25 : decode cX11_judge 25 = .ok (.getfield 45, 3) := by decide +kernel
theorem dX11_judge_28 : decode cX11_judge 28 = .ok (.astore_n 2, 1) := by decide +kernel
theorem dX11_judge_29 : decode cX11_judge 29 = .ok (.iload_n 1, 1) := by decide +kernel
theorem dX11_judge_30 : decode cX11_judge 30 = .ok (.iconst 1, 1) := by decide +kernel
theorem dX11_judge_31 : decode cX11_judge 31 = .ok (.if_icmp .ne 17, 3) := by decide +kernel
theorem dX11_judge_34 : decode cX11_judge 34 = .ok (.aload_n 0, 1) := by decide +kernel
theorem dX11_judge_35 : decode cX11_judge 35 = .ok (.getfield 51, 3) := by decide +kernel
theorem dX11_judge_38 : decode cX11_judge 38 = .ok (.aload_n 0, 1) := by decide +kernel
theorem dX11_judge_39 : decode cX11_judge 39 = .ok (.getfield 41, 3) := by decide +kernel
theorem dX11_judge_42 : decode cX11_judge 42 = .ok (.invokevirtual 300, 3) := by decide +kernel
theorem dX11_judge_45 : decode cX11_judge 45 = .ok (.goto 14, 3) := by decide +kernel
theorem dX11_judge_48 : decode cX11_judge 48 = .ok (.aload_n 0, 1) := by decide +kernel
theorem dX11_judge_49 : decode cX11_judge 49 = .ok (.getfield 45, 3) := by decide +kernel
theorem dX11_judge_52 : decode cX11_judge 52 = .ok (.aload_n 0, 1) := by decide +kernel
theorem dX11_judge_53 : decode cX11_judge 53 = .ok (.getfield 41, 3) := by decide +kernel
theorem dX11_judge_56 : decode cX11_judge 56 = .ok (.invokevirtual 358, 3) := by decide +kernel
theorem dX11_judge_59 : decode cX11_judge 59 = .ok (.iconst 0, 1) := by decide +kernel
theorem dX11_judge_60 : decode cX11_judge 60 = .ok (.istore_n 3, 1) := by decide +kernel
theorem dX11_judge_61 : decode cX11_judge 61 = .ok (.iconst 0, 1) := by decide +kernel
theorem dX11_judge_62 : decode cX11_judge 62 = .ok (.istore 4, 2) := by decide +kernel
theorem dX11_judge_64 : decode cX11_judge 64 = .ok (.iload 4, 2) := by decide +kernel
theorem dX11_judge_66 : decode cX11_judge 66 = .ok (.aload_n 0, 1) := by decide +kernel
theorem dX11_judge_67 : decode cX11_judge 67 = .ok (.getfield 29, 3) := by decide +kernel
theorem dX11_judge_70 : decode cX11_judge 70 = .ok (.getfield 134, 3) := by decide +kernel
theorem dX11_judge_73 : decode cX11_judge 73 = .ok (.if_icmp .ge 39, 3) := by decide +kernel
theorem dX11_judge_76 : decode cX11_judge 76 = .ok (.iload_n 3, 1) := by decide +kernel
theorem dX11_judge_77 : decode cX11_judge 77 = .ok (.ifCond .ne 35, 3) := by decide +kernel
theorem dX11_judge_80 : decode cX11_judge 80 = .ok (.aload_n 0, 1) := by decide +kernel
theorem dX11_judge_81 : decode cX11_judge 81 = .ok (.getfield 29, 3) := by decide +kernel
theorem dX11_judge_84 : decode cX11_judge 84 = .ok (.iload 4, 2) := by decide +kernel
theorem dX11_judge_86 : decode cX11_judge 86 = .ok (.aload_n 2, 1) := by decide +kernel
theorem dX11_judge_87 : decode cX11_judge 87 = .ok (.aload_n 0, 1) := by decide +kernel
theorem dX11_judge_88 : decode cX11_judge 88 = .ok (.getfield 65, 3) := by decide +kernel
theorem dX11_judge_91 : decode cX11_judge 91 = .ok (.invokevirtual 360, 3) := by decide +kernel
theorem dX11_judge_94 : decode cX11_judge 94 = .ok (.istore_n 3, 1) := by decide +kernel
theorem dX11_judge_95 : decode cX11_judge 95 = .ok (.iload 4, 2) := by decide +kernel
theorem dX11_judge_97 : decode cX11_judge 97 = .ok (.iload_n 3, 1) := by decide +kernel
theorem dX11_judge_98 : decode cX11_judge 98 = .ok (.ifCond .ne 7, 3) := by decide +kernel
theorem dX11_judge_101 : decode cX11_judge 101 = .ok (.iconst 1, 1) := by decide +kernel
theorem dX11_judge_102 : decode cX11_judge 102 = .ok (.goto 4, 3) := by decide +kernel
theorem dX11_judge_105 : decode cX11_judge 105 = .ok (.iconst 0, 1) := by decide +kernel
theorem dX11_judge_106 : decode cX11_judge 106 = .ok (.iadd, 1) := by decide +kernel
theorem dX11_judge_107 : decode cX11_judge 107 = .ok (.istore 4, 2) := by decide +kernel
theorem dX11_judge_109 : decode cX11_judge 109 = .ok (.goto (-45), 3) := by decide +kernel
theorem dX11_judge_112 : decode cX11_judge 112 = .ok (.iload_n 1, 1) := by decide +kernel
theorem dX11_judge_113 : decode cX11_judge 113 = .ok (.iconst 1, 1) := by decide +kernel
theorem dX11_judge_114 : decode cX11_judge 114 = .ok (.if_icmp .ne 15, 3) := by decide +kernel
theorem dX11_judge_117 : decode cX11_judge 117 = .ok (.iload 4, 2) := by decide +kernel
theorem dX11_judge_119 : decode cX11_judge 119 = .ok (.ifCond .le 10, 3) := by decide +kernel
theorem dX11_judge_122 : decode cX11_judge 122 = .ok (.aload_n 0, 1) := by decide +kernel
theorem dX11_judge_123 : decode cX11_judge 123 = .ok (.getfield 51, 3) := by decide +kernel
theorem dX11_judge_126 : decode cX11_judge 126 = .ok (.invokevirtual 308, 3) := by decide +kernel
theorem dX11_judge_129 : decode cX11_judge 129 = .ok (.aload_n 0, 1) := by decide +kernel
theorem dX11_judge_130 : decode cX11_judge 130 = .ok (.iconst 1, 1) := by decide +kernel
theorem dX11_judge_131 : decode cX11_judge 131 = .ok (.putfield 364, 3) := by decide +kernel
theorem dX11_judge_134 : decode cX11_judge 134 = .ok (.aload_n 0, 1) := by decide +kernel
theorem dX11_judge_135 : decode cX11_judge 135 = .ok (.getfield 101, 3) := by decide +kernel
theorem dX11_judge_138 : decode cX11_judge 138 = .ok (.iconst 0, 1) := by decide +kernel
theorem dX11_judge_139 : decode cX11_judge 139 = .ok (.iload_n 3, 1) := by decide +kernel
theorem dX11_judge_140 : decode cX11_judge 140 = .ok (.iastore, 1) := by decide +kernel
theorem dX11_judge_141 : decode cX11_judge 141 = .ok (.aload_n 0, 1) := by decide +kernel
theorem dX11_judge_142 : decode cX11_judge 142 = .ok (.getfield 101, 3) := by decide +kernel
theorem dX11_judge_145 : decode cX11_judge 145 = .ok (.iconst 1, 1) := by decide +kernel
theorem dX11_judge_146 : decode cX11_judge 146 = .ok (.iload 4, 2) := by decide +kernel
theorem dX11_judge_148 : decode cX11_judge 148 = .ok (.iastore, 1) := by decide +kernel
theorem dX11_judge_149 : decode cX11_judge 149 = .ok (.aload_n 0, 1) := by decide +kernel
theorem dX11_judge_150 : decode cX11_judge 150 = .ok (.getfield 101, 3) := by decide +kernel
theorem dX11_judge_153 : decode cX11_judge 153 = .ok (.iconst 2, 1) := by decide +kernel
theorem dX11_judge_154 : decode cX11_judge 154 = .ok (.aload_n 2, 1) := by decide +kernel
theorem dX11_judge_155 : decode cX11_judge 155 = .ok (.invokevirtual 165, 3) := by decide +kernel
theorem dX11_judge_158 : decode cX11_judge 158 = .ok (.iastore, 1) := by decide +kernel
theorem dX11_judge_159 : decode cX11_judge 159 = .ok (.aload_n 0, 1) := by decide +kernel
theorem dX11_judge_160 : decode cX11_judge 160 = .ok (.getfield 101, 3) := by decide +kernel
theorem dX11_judge_163 : decode cX11_judge 163 = .ok (.iconst 3, 1) := by decide +kernel
theorem dX11_judge_164 : decode cX11_judge 164 = .ok (.aload_n 2, 1) := by decide +kernel
theorem dX11_judge_165 : decode cX11_judge 165 = .ok (.invokevirtual 368, 3) := by decide +kernel
theorem dX11_judge_168 : decode cX11_judge 168 = .ok (.iastore, 1) := by decide +kernel
theorem dX11_judge_169 : decode cX11_judge 169 = .ok (.aload_n 0, 1) := by decide +kernel
theorem dX11_judge_170 : decode cX11_judge 170 = .ok (.getfield 101, 3) := by decide +kernel
theorem dX11_judge_173 : decode cX11_judge 173 = .ok (.iconst 4, 1) := by decide +kernel
theorem dX11_judge_174 : decode cX11_judge 174 = .ok (.aload_n 2, 1) := by decide +kernel
theorem dX11_judge_175 : decode cX11_judge 175 = .ok (.getfield 169, 3) := by decide +kernel
theorem dX11_judge_178 : decode cX11_judge 178 = .ok (.iastore, 1) := by decide +kernel
theorem dX11_judge_179 : decode cX11_judge 179 = .ok (.iload_n 3, 1) := by decide +kernel
theorem dX11_judge_180 : decode cX11_judge 180 = .ok (.ifCond .ne 7, 3) := by decide +kernel
theorem dX11_judge_183 : decode cX11_judge 183 = .ok (.iconst (-1), 1) := by decide +kernel
theorem dX11_judge_184 : decode cX11_judge 184 = .ok (.goto 5, 3) := by decide +kernel
theorem dX11_judge_187 : decode cX11_judge 187 = .ok (.iload 4, 2) := by decide +kernel
theorem dX11_judge_189 : decode cX11_judge 189 = .ok (.ireturn, 1) := by decide +kernel
theorem dX11_judged_0 : decode cX11_judged 0 = .ok (.aload_n 0, 1) := by decide +kernel
theorem dX11_judged_1 : decode cX11_judged 1 = .ok (.getfield 364, 3) := by decide +kernel
theorem dX11_judged_4 : decode cX11_judged 4 = .ok (.ifCond .eq 25, 3) := by decide +kernel
theorem dX11_judged_7 : decode cX11_judged 7 = .ok (.iload_n 1, 1) := by decide +kernel
theorem dX11_judged_8 : decode cX11_judged 8 = .ok (.ifCond .lt 21, 3) := by decide +kernel
theorem dX11_judged_11 : decode cX11_judged 11 = .ok (.iload_n 1, 1) := by decide +kernel
theorem dX11_judged_12 : decode cX11_judged 12 = .ok (.aload_n 0, 1) := by decide +kernel
theorem dX11_judged_13 : decode cX11_judged 13 = .ok (.getfield 101, 3) := by decide +kernel
theorem dX11_judged_16 : decode cX11_judged 16 = .ok (.arraylength, 1) := by decide +kernel
theorem dX11_judged_17 : decode cX11_judged 17 = .ok (.if_icmp .ge 12, 3) := by decide +kernel
theorem dX11_judged_20 : decode cX11_judged 20 = .ok (.aload_n 0, 1) := by decide +kernel
theorem dX11_judged_21 : decode cX11_judged 21 = .ok (.getfield 101, 3) := by decide +kernel
theorem dX11_judged_24 : decode cX11_judged 24 = .ok (.iload_n 1, 1) := by decide +kernel
theorem dX11_judged_25 : decode cX11_judged 25 = .ok (.iaload, 1) := by decide +kernel
theorem dX11_judged_26 : decode cX11_judged 26 = .ok (.goto 4, 3) := by decide +kernel
theorem dX11_judged_29 : decode cX11_judged 29 = .ok (.iconst (-1), 1) := by decide +kernel
theorem dX11_judged_30 : decode cX11_judged 30 = .ok (.ireturn, 1) := by decide +kernel
theorem dX11_lasts_0 : decode cX11_lasts 0 = .ok (.iload_n 1, 1) := by decide +kernel
theorem dX11_lasts_1 : decode cX11_lasts 1 = .ok (.ifCond .lt 28, 3) := by decide +kernel
theorem dX11_lasts_4 : decode cX11_lasts 4 = .ok (.iload_n 1, 1) := by decide +kernel
theorem dX11_lasts_5 : decode cX11_lasts 5 = .ok (.iconst 2, 1) := by decide +kernel
theorem dX11_lasts_6 : decode cX11_lasts 6 = .ok (.if_icmp .gt 23, 3) := by decide +kernel
theorem dX11_lasts_9 : decode cX11_lasts 9 = .ok (.aload_n 0, 1) := by decide +kernel
theorem dX11_lasts_10 : decode cX11_lasts 10 = .ok (.getfield 19, 3) := by decide +kernel
theorem dX11_lasts_13 : decode cX11_lasts 13 = .ok (.getfield 150, 3) := by decide +kernel
theorem dX11_lasts_16 : decode cX11_lasts 16 = .ok (.ifCond .eq 13, 3) := by decide +kernel
theorem dX11_lasts_19 : decode cX11_lasts 19 = .ok (.aload_n 0, 1) := by decide +kernel
theorem dX11_lasts_20 : decode cX11_lasts 20 = .ok (.getfield 19, 3) := by decide +kernel
theorem dX11_lasts_23 : decode cX11_lasts 23 = .ok (.getfield 153, 3) := by decide +kernel
theorem dX11_lasts_26 : decode cX11_lasts 26 = .ok (.ifCond .ne 5, 3) := by decide +kernel
theorem dX11_lasts_29 : decode cX11_lasts 29 = .ok (.iconst (-1), 1) := by decide +kernel
theorem dX11_lasts_30 : decode cX11_lasts 30 = .ok (.ireturn, 1) := by decide +kernel
theorem dX11_lasts_31 : decode cX11_lasts 31 = .ok (.aload_n 0, 1) := by decide +kernel
theorem dX11_lasts_32 : decode cX11_lasts 32 = .ok (.getfield 45, 3) := by decide +kernel
theorem dX11_lasts_35 : decode cX11_lasts 35 = .ok (.aload_n 0, 1) := by decide +kernel
theorem dX11_lasts_36 : decode cX11_lasts 36 = .ok (.getfield 41, 3) := by decide +kernel
theorem dX11_lasts_39 : decode cX11_lasts 39 = .ok (.invokevirtual 358, 3) := by decide +kernel
theorem dX11_lasts_42 : decode cX11_lasts 42 = .ok (.aload_n 0, 1) := by decide +kernel
theorem dX11_lasts_43 : decode cX11_lasts 43 = .ok (.getfield 45, 3) := by decide +kernel
theorem dX11_lasts_46 : decode cX11_lasts 46 = .ok (.getfield 162, 3) := by decide +kernel
theorem dX11_lasts_49 : decode cX11_lasts 49 = .ok (.istore_n 3, 1) := by decide +kernel
theorem dX11_lasts_50 : decode cX11_lasts 50 = .ok (.iconst 0, 1) := by decide +kernel
theorem dX11_lasts_51 : decode cX11_lasts 51 = .ok (.istore 4, 2) := by decide +kernel
theorem dX11_lasts_53 : decode cX11_lasts 53 = .ok (.iload_n 2, 1) := by decide +kernel
theorem dX11_lasts_54 : decode cX11_lasts 54 = .ok (.istore 5, 2) := by decide +kernel
theorem dX11_lasts_56 : decode cX11_lasts 56 = .ok (.iconst 0, 1) := by decide +kernel
theorem dX11_lasts_57 : decode cX11_lasts 57 = .ok (.istore 6, 2) := by decide +kernel
theorem dX11_lasts_59 : decode cX11_lasts 59 = .ok (.iload 6, 2) := by decide +kernel
theorem dX11_lasts_61 : decode cX11_lasts 61 = .ok (.sipush 200, 3) := by decide +kernel
theorem dX11_lasts_64 : decode cX11_lasts 64 = .ok (.if_icmp .ge 173, 3) := by decide +kernel
theorem dX11_lasts_67 : decode cX11_lasts 67 = .ok (.iload 4, 2) := by decide +kernel
theorem dX11_lasts_69 : decode cX11_lasts 69 = .ok (.bipush 10, 2) := by decide +kernel
theorem dX11_lasts_71 : decode cX11_lasts 71 = .ok (.if_icmp .ge 166, 3) := by decide +kernel
theorem dX11_lasts_74 : decode cX11_lasts 74 = .ok (.iload 5, 2) := by decide +kernel
theorem dX11_lasts_76 : decode cX11_lasts 76 = .ok (.invokestatic 371, 3) := by decide +kernel
theorem dX11_lasts_79 : decode cX11_lasts 79 = .ok (.istore 5, 2) := by decide +kernel
theorem dX11_lasts_81 : decode cX11_lasts 81 = .ok (.iload 5, 2) := by decide +kernel
theorem dX11_lasts_83 : decode cX11_lasts 83 = .ok (.aload_n 0, 1) := by decide +kernel
theorem dX11_lasts_84 : decode cX11_lasts 84 = .ok (.getfield 19, 3) := by decide +kernel
theorem dX11_lasts_87 : decode cX11_lasts 87 = .ok (.getfield 150, 3) := by decide +kernel
theorem dX11_lasts_90 : decode cX11_lasts 90 = .ok (.invokestatic 374, 3) := by decide +kernel
theorem dX11_lasts_93 : decode cX11_lasts 93 = .ok (.istore 7, 2) := by decide +kernel
theorem dX11_lasts_95 : decode cX11_lasts 95 = .ok (.iload 5, 2) := by decide +kernel
theorem dX11_lasts_97 : decode cX11_lasts 97 = .ok (.invokestatic 371, 3) := by decide +kernel
theorem dX11_lasts_100 : decode cX11_lasts 100 = .ok (.istore 5, 2) := by decide +kernel
theorem dX11_lasts_102 : decode cX11_lasts 102 = .ok (.iload 5, 2) := by decide +kernel
theorem dX11_lasts_104 : decode cX11_lasts 104 = .ok (.aload_n 0, 1) := by decide +kernel
theorem dX11_lasts_105 : decode cX11_lasts 105 = .ok (.getfield 19, 3) := by decide +kernel
theorem dX11_lasts_108 : decode cX11_lasts 108 = .ok (.getfield 150, 3) := by decide +kernel
theorem dX11_lasts_111 : decode cX11_lasts 111 = .ok (.invokestatic 374, 3) := by decide +kernel
theorem dX11_lasts_114 : decode cX11_lasts 114 = .ok (.istore 8, 2) := by decide +kernel
theorem dX11_lasts_116 : decode cX11_lasts 116 = .ok (.iload 5, 2) := by decide +kernel
theorem dX11_lasts_118 : decode cX11_lasts 118 = .ok (.invokestatic 371, 3) := by decide +kernel
theorem dX11_lasts_121 : decode cX11_lasts 121 = .ok (.istore 5, 2) := by decide +kernel
theorem dX11_lasts_123 : decode cX11_lasts 123 = .ok (.iload 5, 2) := by decide +kernel
theorem dX11_lasts_125 : decode cX11_lasts 125 = .ok (.aload_n 0, 1) := by decide +kernel
theorem dX11_lasts_126 : decode cX11_lasts 126 = .ok (.getfield 19, 3) := by decide +kernel
theorem dX11_lasts_129 : decode cX11_lasts 129 = .ok (.getfield 153, 3) := by decide +kernel
theorem dX11_lasts_132 : decode cX11_lasts 132 = .ok (.invokestatic 374, 3) := by decide +kernel
theorem dX11_lasts_135 : decode cX11_lasts 135 = .ok (.istore 9, 2) := by decide +kernel
theorem dX11_lasts_137 : decode cX11_lasts 137 = .ok (.iload 5, 2) := by decide +kernel
theorem dX11_lasts_139 : decode cX11_lasts 139 = .ok (.invokestatic 371, 3) := by decide +kernel
theorem dX11_lasts_142 : decode cX11_lasts 142 = .ok (.istore 5, 2) := by decide +kernel
theorem dX11_lasts_144 : decode cX11_lasts 144 = .ok (.iload 5, 2) := by decide +kernel
theorem dX11_lasts_146 : decode cX11_lasts 146 = .ok (.bipush 99, 2) := by decide +kernel
theorem dX11_lasts_148 : decode cX11_lasts 148 = .ok (.invokestatic 374, 3) := by decide +kernel
theorem dX11_lasts_151 : decode cX11_lasts 151 = .ok (.iconst 1, 1) := by decide +kernel
theorem dX11_lasts_152 : decode cX11_lasts 152 = .ok (.iadd, 1) := by decide +kernel
theorem dX11_lasts_153 : decode cX11_lasts 153 = .ok (.istore 10, 2) := by decide +kernel
theorem dX11_lasts_155 : decode cX11_lasts 155 = .ok (.iload_n 1, 1) := by decide +kernel
theorem dX11_lasts_156 : decode cX11_lasts 156 = .ok (.iconst 1, 1) := by decide +kernel
theorem dX11_lasts_157 : decode cX11_lasts 157 = .ok (.if_icmp .ne 19, 3) := by decide +kernel
theorem dX11_lasts_160 : decode cX11_lasts 160 = .ok (.aload_n 0, 1) := by decide +kernel
theorem dX11_lasts_161 : decode cX11_lasts 161 = .ok (.getfield 45, 3) := by decide +kernel
theorem dX11_lasts_164 : decode cX11_lasts 164 = .ok (.aload_n 0, 1) := by decide +kernel
theorem dX11_lasts_165 : decode cX11_lasts 165 = .ok (.getfield 45, 3) := by decide +kernel
theorem dX11_lasts_168 : decode cX11_lasts 168 = .ok (.iload_n 3, 1) := by decide +kernel
theorem dX11_lasts_169 : decode cX11_lasts 169 = .ok (.invokevirtual 377, 3) := by decide +kernel
theorem dX11_lasts_172 : decode cX11_lasts 172 = .ok (.invokevirtual 311, 3) := by decide +kernel
theorem dX11_lasts_175 : decode cX11_lasts 175 = .ok (.pop, 1) := by decide +kernel
theorem dX11_lasts_176 : decode cX11_lasts 176 = .ok (.aload_n 0, 1) := by decide +kernel
theorem dX11_lasts_177 : decode cX11_lasts 177 = .ok (.getfield 45, 3) := by decide +kernel
theorem dX11_lasts_180 : decode cX11_lasts 180 = .ok (.iload 7, 2) := by decide +kernel
theorem dX11_lasts_182 : decode cX11_lasts 182 = .ok (.iload 8, 2) := by decide +kernel
theorem dX11_lasts_184 : decode cX11_lasts 184 = .ok (.iload 10, 2) := by decide +kernel
theorem dX11_lasts_186 : decode cX11_lasts 186 = .ok (.iload 9, 2) := by decide +kernel
theorem dX11_lasts_188 : decode cX11_lasts 188 = .ok (.invokevirtual 304, 3) := by decide +kernel
theorem dX11_lasts_191 : decode cX11_lasts 191 = .ok (.istore 11, 2) := by decide +kernel
theorem dX11_lasts_193 : decode cX11_lasts 193 = .ok (.iload 11, 2) := by decide +kernel
theorem dX11_lasts_195 : decode cX11_lasts 195 = .ok (.ifCond .ne 20, 3) := by decide +kernel
theorem dX11_lasts_198 : decode cX11_lasts 198 = .ok (.iload_n 1, 1) := by decide +kernel
theorem dX11_lasts_199 : decode cX11_lasts 199 = .ok (.iconst 2, 1) := by decide +kernel
theorem dX11_lasts_200 : decode cX11_lasts 200 = .ok (.if_icmp .ne 15, 3) := by decide +kernel
theorem dX11_lasts_203 : decode cX11_lasts 203 = .ok (.aload_n 0, 1) := by decide +kernel
theorem dX11_lasts_204 : decode cX11_lasts 204 = .ok (.getfield 45, 3) := by decide +kernel
theorem dX11_lasts_207 : decode cX11_lasts 207 = .ok (.aload_n 0, 1) := by decide +kernel
theorem dX11_lasts_208 : decode cX11_lasts 208 = .ok (.getfield 65, 3) := by decide +kernel
theorem dX11_lasts_211 : decode cX11_lasts 211 = .ok (.invokevirtual 317, 3) := by decide +kernel
theorem dX11_lasts_214 : decode cX11_lasts 214 = .ok (.pop, 1) := by decide +kernel
theorem dX11_lasts_215 : decode cX11_lasts 215 = .ok (.iload 4, 2) := by decide +kernel
theorem dX11_lasts_217 : decode cX11_lasts 217 = .ok (.iload 11, 2) := by decide +kernel
theorem dX11_lasts_219 : decode cX11_lasts 219 = .ok (.iconst 1, 1) := by decide +kernel
theorem dX11_lasts_220 : decode cX11_lasts 220 = .ok (.if_icmp .le 7, 3) := by decide +kernel
theorem dX11_lasts_223 : decode cX11_lasts 223 = .ok (.iconst 1, 1) := by decide +kernel
theorem dX11_lasts_224 : decode cX11_lasts 224 = .ok (.goto 4, 3) := by decide +kernel
theorem dX11_lasts_227 : decode cX11_lasts 227 = .ok (.iconst 0, 1) := by decide +kernel
theorem dX11_lasts_228 : decode cX11_lasts 228 = .ok (.iadd, 1) := by decide +kernel
theorem dX11_lasts_229 : decode cX11_lasts 229 = .ok (.istore 4, 2) := by decide +kernel
theorem dX11_lasts_231 : decode cX11_lasts 231 = .ok (.iinc 6 1, 3) := by decide +kernel
theorem dX11_lasts_234 : decode cX11_lasts 234 = .ok (.goto (-175), 3) := by decide +kernel
theorem dX11_lasts_237 : decode cX11_lasts 237 = .ok (.aload_n 0, 1) := by decide +kernel
theorem dX11_lasts_238 : decode cX11_lasts 238 = .ok (.getfield 45, 3) := by decide +kernel
theorem dX11_lasts_241 : decode cX11_lasts 241 = .ok (.getfield 162, 3) := by decide +kernel
theorem dX11_lasts_244 : decode cX11_lasts 244 = .ok (.iload_n 3, 1) := by decide +kernel
theorem dX11_lasts_245 : decode cX11_lasts 245 = .ok (.isub, 1) := by decide +kernel
theorem dX11_lasts_246 : decode cX11_lasts 246 = .ok (.ireturn, 1) := by decide +kernel
theorem dX11_nextSeed_0 : decode cX11_nextSeed 0 = .ok (.iload_n 0, 1) := by decide +kernel
theorem dX11_nextSeed_1 : decode cX11_nextSeed 1 = .ok (.ldc_w 380, 3) := by decide +kernel
theorem dX11_nextSeed_4 : decode cX11_nextSeed 4 = .ok (.imul, 1) := by decide +kernel
theorem dX11_nextSeed_5 : decode cX11_nextSeed 5 = .ok (.sipush 12345, 3) := by decide +kernel
theorem dX11_nextSeed_8 : decode cX11_nextSeed 8 = .ok (.iadd, 1) := by decide +kernel
theorem dX11_nextSeed_9 : decode cX11_nextSeed 9 = .ok (.ireturn, 1) := by decide +kernel
theorem dX11_drawn_0 : decode cX11_drawn 0 = .ok (.iload_n 1, 1) := by decide +kernel
theorem dX11_drawn_1 : decode cX11_drawn 1 = .ok (.iconst 1, 1) := by decide +kernel
theorem dX11_drawn_2 : decode cX11_drawn 2 = .ok (.if_icmp .ge 7, 3) := by decide +kernel
theorem dX11_drawn_5 : decode cX11_drawn 5 = .ok (.iconst 0, 1) := by decide +kernel
theorem dX11_drawn_6 : decode cX11_drawn 6 = .ok (.goto 9, 3) := by decide +kernel
theorem dX11_drawn_9 : decode cX11_drawn 9 = .ok (.iload_n 0, 1) := by decide +kernel
theorem dX11_drawn_10 : decode cX11_drawn 10 = .ok (.bipush 8, 2) := by decide +kernel
theorem dX11_drawn_12 : decode cX11_drawn 12 = .ok (.iushr, 1) := by decide +kernel
theorem dX11_drawn_13 : decode cX11_drawn 13 = .ok (.iload_n 1, 1) := by decide +kernel
theorem dX11_drawn_14 : decode cX11_drawn 14 = .ok (.irem, 1) := by decide +kernel
theorem dX11_drawn_15 : decode cX11_drawn 15 = .ok (.ireturn, 1) := by decide +kernel
theorem dX11_pack_0 : decode cX11_pack 0 = .ok (.aload_n 0, 1) := by decide +kernel
theorem dX11_pack_1 : decode cX11_pack 1 = .ok (.getfield 72, 3) := by decide +kernel
theorem dX11_pack_4 : decode cX11_pack 4 = .ok (.aload_n 0, 1) := by decide +kernel
theorem dX11_pack_5 : decode cX11_pack 5 = .ok (.getfield 10, 3) := by decide +kernel
theorem dX11_pack_8 : decode cX11_pack 8 = .ok (.aload_n 0, 1) := by decide +kernel
theorem dX11_pack_9 : decode cX11_pack 9 = .ok (.getfield 19, 3) := by decide +kernel
theorem dX11_pack_12 : decode cX11_pack 12 = .ok (.invokevirtual 381, 3) := by decide +kernel
theorem dX11_pack_15 : decode cX11_pack 15 = .ok (.istore_n 1, 1) := by decide +kernel
theorem dX11_pack_16 : decode cX11_pack 16 = .ok (.aload_n 0, 1) := by decide +kernel
theorem dX11_pack_17 : decode cX11_pack 17 = .ok (.getfield 10, 3) := by decide +kernel
theorem dX11_pack_20 : decode cX11_pack 20 = .ok (.iconst 0, 1) := by decide +kernel
theorem dX11_pack_21 : decode cX11_pack 21 = .ok (.putfield 104, 3) := by decide +kernel
theorem dX11_pack_24 : decode cX11_pack 24 = .ok (.iload_n 1, 1) := by decide +kernel
theorem dX11_pack_25 : decode cX11_pack 25 = .ok (.ifCond .ne 5, 3) := by decide +kernel
theorem dX11_pack_28 : decode cX11_pack 28 = .ok (.iconst (-1), 1) := by decide +kernel
theorem dX11_pack_29 : decode cX11_pack 29 = .ok (.ireturn, 1) := by decide +kernel
theorem dX11_pack_30 : decode cX11_pack 30 = .ok (.aload_n 0, 1) := by decide +kernel
theorem dX11_pack_31 : decode cX11_pack 31 = .ok (.getfield 72, 3) := by decide +kernel
theorem dX11_pack_34 : decode cX11_pack 34 = .ok (.aload_n 0, 1) := by decide +kernel
theorem dX11_pack_35 : decode cX11_pack 35 = .ok (.getfield 41, 3) := by decide +kernel
theorem dX11_pack_38 : decode cX11_pack 38 = .ok (.iconst (-1), 1) := by decide +kernel
theorem dX11_pack_39 : decode cX11_pack 39 = .ok (.iconst 0, 1) := by decide +kernel
theorem dX11_pack_40 : decode cX11_pack 40 = .ok (.invokevirtual 384, 3) := by decide +kernel
theorem dX11_pack_43 : decode cX11_pack 43 = .ok (.istore_n 2, 1) := by decide +kernel
theorem dX11_pack_44 : decode cX11_pack 44 = .ok (.aload_n 0, 1) := by decide +kernel
theorem dX11_pack_45 : decode cX11_pack 45 = .ok (.getfield 72, 3) := by decide +kernel
theorem dX11_pack_48 : decode cX11_pack 48 = .ok (.invokevirtual 388, 3) := by decide +kernel
theorem dX11_pack_51 : decode cX11_pack 51 = .ok (.iload_n 2, 1) := by decide +kernel
theorem dX11_pack_52 : decode cX11_pack 52 = .ok (.ireturn, 1) := by decide +kernel
theorem dX11_packed_0 : decode cX11_packed 0 = .ok (.aload_n 0, 1) := by decide +kernel
theorem dX11_packed_1 : decode cX11_packed 1 = .ok (.getfield 72, 3) := by decide +kernel
theorem dX11_packed_4 : decode cX11_packed 4 = .ok (.iload_n 1, 1) := by decide +kernel
theorem dX11_packed_5 : decode cX11_packed 5 = .ok (.invokevirtual 391, 3) := by decide +kernel
theorem dX11_packed_8 : decode cX11_packed 8 = .ok (.ireturn, 1) := by decide +kernel
theorem dX11_price_0 : decode cX11_price 0 = .ok (.aload_n 0, 1) := by decide +kernel
theorem dX11_price_1 : decode cX11_price 1 = .ok (.getfield 19, 3) := by decide +kernel
theorem dX11_price_4 : decode cX11_price 4 = .ok (.iload_n 1, 1) := by decide +kernel
theorem dX11_price_5 : decode cX11_price 5 = .ok (.invokevirtual 172, 3) := by decide +kernel
theorem dX11_price_8 : decode cX11_price 8 = .ok (.ifCond .eq 28, 3) := by decide +kernel
theorem dX11_price_11 : decode cX11_price 11 = .ok (.iload_n 2, 1) := by decide +kernel
theorem dX11_price_12 : decode cX11_price 12 = .ok (.iconst 1, 1) := by decide +kernel
theorem dX11_price_13 : decode cX11_price 13 = .ok (.if_icmp .lt 23, 3) := by decide +kernel
theorem dX11_price_16 : decode cX11_price 16 = .ok (.iload_n 2, 1) := by decide +kernel
theorem dX11_price_17 : decode cX11_price 17 = .ok (.bipush 99, 2) := by decide +kernel
theorem dX11_price_19 : decode cX11_price 19 = .ok (.if_icmp .gt 17, 3) := by decide +kernel
theorem dX11_price_22 : decode cX11_price 22 = .ok (.aload_n 0, 1) := by decide +kernel
theorem dX11_price_23 : decode cX11_price 23 = .ok (.getfield 72, 3) := by decide +kernel
theorem dX11_price_26 : decode cX11_price 26 = .ok (.aload_n 0, 1) := by decide +kernel
theorem dX11_price_27 : decode cX11_price 27 = .ok (.getfield 19, 3) := by decide +kernel
theorem dX11_price_30 : decode cX11_price 30 = .ok (.invokevirtual 394, 3) := by decide +kernel
theorem dX11_price_33 : decode cX11_price 33 = .ok (.ifCond .ne 5, 3) := by decide +kernel
theorem dX11_price_36 : decode cX11_price 36 = .ok (.iconst (-1), 1) := by decide +kernel
theorem dX11_price_37 : decode cX11_price 37 = .ok (.ireturn, 1) := by decide +kernel
theorem dX11_price_38 : decode cX11_price 38 = .ok (.aload_n 0, 1) := by decide +kernel
theorem dX11_price_39 : decode cX11_price 39 = .ok (.getfield 72, 3) := by decide +kernel
theorem dX11_price_42 : decode cX11_price 42 = .ok (.aload_n 0, 1) := by decide +kernel
theorem dX11_price_43 : decode cX11_price 43 = .ok (.getfield 41, 3) := by decide +kernel
theorem dX11_price_46 : decode cX11_price 46 = .ok (.iload_n 1, 1) := by decide +kernel
theorem dX11_price_47 : decode cX11_price 47 = .ok (.iload_n 2, 1) := by decide +kernel
theorem dX11_price_48 : decode cX11_price 48 = .ok (.invokevirtual 384, 3) := by decide +kernel
theorem dX11_price_51 : decode cX11_price 51 = .ok (.aload_n 0, 1) := by decide +kernel
theorem dX11_price_52 : decode cX11_price 52 = .ok (.getfield 72, 3) := by decide +kernel
theorem dX11_price_55 : decode cX11_price 55 = .ok (.aload_n 0, 1) := by decide +kernel
theorem dX11_price_56 : decode cX11_price 56 = .ok (.getfield 41, 3) := by decide +kernel
theorem dX11_price_59 : decode cX11_price 59 = .ok (.iconst (-1), 1) := by decide +kernel
theorem dX11_price_60 : decode cX11_price 60 = .ok (.iconst 0, 1) := by decide +kernel
theorem dX11_price_61 : decode cX11_price 61 = .ok (.invokevirtual 384, 3) := by decide +kernel
theorem dX11_price_64 : decode cX11_price 64 = .ok (.isub, 1) := by decide +kernel
theorem dX11_price_65 : decode cX11_price 65 = .ok (.ireturn, 1) := by decide +kernel
theorem dX11_lost_0 : decode cX11_lost 0 = .ok (.iconst 0, 1) := by decide +kernel
theorem dX11_lost_1 : decode cX11_lost 1 = .ok (.istore_n 2, 1) := by decide +kernel
theorem dX11_lost_2 : decode cX11_lost 2 = .ok (.iconst 0, 1) := by decide +kernel
theorem dX11_lost_3 : decode cX11_lost 3 = .ok (.istore_n 3, 1) := by decide +kernel
theorem dX11_lost_4 : decode cX11_lost 4 = .ok (.iload_n 3, 1) := by decide +kernel
theorem dX11_lost_5 : decode cX11_lost 5 = .ok (.aload_n 0, 1) := by decide +kernel
theorem dX11_lost_6 : decode cX11_lost 6 = .ok (.getfield 41, 3) := by decide +kernel
theorem dX11_lost_9 : decode cX11_lost 9 = .ok (.getfield 162, 3) := by decide +kernel
theorem dX11_lost_12 : decode cX11_lost 12 = .ok (.if_icmp .ge 30, 3) := by decide +kernel
theorem dX11_lost_15 : decode cX11_lost 15 = .ok (.aload_n 0, 1) := by decide +kernel
theorem dX11_lost_16 : decode cX11_lost 16 = .ok (.getfield 41, 3) := by decide +kernel
theorem dX11_lost_19 : decode cX11_lost 19 = .ok (.iload_n 3, 1) := by decide +kernel
theorem dX11_lost_20 : decode cX11_lost 20 = .ok (.invokevirtual 398, 3) := by decide +kernel
theorem dX11_lost_23 : decode cX11_lost 23 = .ok (.ifCond .eq 13, 3) := by decide +kernel
theorem dX11_lost_26 : decode cX11_lost 26 = .ok (.iload_n 2, 1) := by decide +kernel
theorem dX11_lost_27 : decode cX11_lost 27 = .ok (.iload_n 1, 1) := by decide +kernel
theorem dX11_lost_28 : decode cX11_lost 28 = .ok (.if_icmp .ne 5, 3) := by decide +kernel
theorem dX11_lost_31 : decode cX11_lost 31 = .ok (.iload_n 3, 1) := by decide +kernel
theorem dX11_lost_32 : decode cX11_lost 32 = .ok (.ireturn, 1) := by decide +kernel
theorem dX11_lost_33 : decode cX11_lost 33 = .ok (.iinc 2 1, 3) := by decide +kernel
theorem dX11_lost_36 : decode cX11_lost 36 = .ok (.iinc 3 1, 3) := by decide +kernel
theorem dX11_lost_39 : decode cX11_lost 39 = .ok (.goto (-35), 3) := by decide +kernel
theorem dX11_lost_42 : decode cX11_lost 42 = .ok (.iload_n 1, 1) := by decide +kernel
theorem dX11_lost_43 : decode cX11_lost 43 = .ok (.iconst (-1), 1) := by decide +kernel
theorem dX11_lost_44 : decode cX11_lost 44 = .ok (.if_icmp .ne 7, 3) := by decide +kernel
theorem dX11_lost_47 : decode cX11_lost 47 = .ok (.iload_n 2, 1) := by decide +kernel
theorem dX11_lost_48 : decode cX11_lost 48 = .ok (.goto 4, 3) := by decide +kernel
theorem dX11_lost_51 : decode cX11_lost 51 = .ok (.iconst (-1), 1) := by decide +kernel
theorem dX11_lost_52 : decode cX11_lost 52 = .ok (.ireturn, 1) := by decide +kernel
theorem dX11_fits_0 : decode cX11_fits 0 = .ok (.iload_n 1, 1) := by decide +kernel
theorem dX11_fits_1 : decode cX11_fits 1 = .ok (.iconst 1, 1) := by decide +kernel
theorem dX11_fits_2 : decode cX11_fits 2 = .ok (.if_icmp .lt 31, 3) := by decide +kernel
theorem dX11_fits_5 : decode cX11_fits 5 = .ok (.iload_n 1, 1) := by decide +kernel
theorem dX11_fits_6 : decode cX11_fits 6 = .ok (.bipush 20, 2) := by decide +kernel
theorem dX11_fits_8 : decode cX11_fits 8 = .ok (.if_icmp .gt 25, 3) := by decide +kernel
theorem dX11_fits_11 : decode cX11_fits 11 = .ok (.aload_n 0, 1) := by decide +kernel
theorem dX11_fits_12 : decode cX11_fits 12 = .ok (.getfield 79, 3) := by decide +kernel
theorem dX11_fits_15 : decode cX11_fits 15 = .ok (.aload_n 0, 1) := by decide +kernel
theorem dX11_fits_16 : decode cX11_fits 16 = .ok (.getfield 10, 3) := by decide +kernel
theorem dX11_fits_19 : decode cX11_fits 19 = .ok (.aload_n 0, 1) := by decide +kernel
theorem dX11_fits_20 : decode cX11_fits 20 = .ok (.getfield 41, 3) := by decide +kernel
theorem dX11_fits_23 : decode cX11_fits 23 = .ok (.invokevirtual 401, 3) := by decide +kernel
theorem dX11_fits_26 : decode cX11_fits 26 = .ok (.ifCond .eq 7, 3) := by decide +kernel
theorem dX11_fits_29 : decode cX11_fits 29 = .ok (.iconst 1, 1) := by decide +kernel
theorem dX11_fits_30 : decode cX11_fits 30 = .ok (.goto 4, 3) := by decide +kernel
theorem dX11_fits_33 : decode cX11_fits 33 = .ok (.iconst 0, 1) := by decide +kernel
theorem dX11_fits_34 : decode cX11_fits 34 = .ok (.istore_n 2, 1) := by decide +kernel
theorem dX11_fits_35 : decode cX11_fits 35 = .ok (.aload_n 0, 1) := by decide +kernel
theorem dX11_fits_36 : decode cX11_fits 36 = .ok (.getfield 10, 3) := by decide +kernel
theorem dX11_fits_39 : decode cX11_fits 39 = .ok (.iconst 0, 1) := by decide +kernel
theorem dX11_fits_40 : decode cX11_fits 40 = .ok (.putfield 104, 3) := by decide +kernel
theorem dX11_fits_43 : decode cX11_fits 43 = .ok (.iload_n 2, 1) := by decide +kernel
theorem dX11_fits_44 : decode cX11_fits 44 = .ok (.ifCond .eq 14, 3) := by decide +kernel
theorem dX11_fits_47 : decode cX11_fits 47 = .ok (.aload_n 0, 1) := by decide +kernel
theorem dX11_fits_48 : decode cX11_fits 48 = .ok (.getfield 79, 3) := by decide +kernel
theorem dX11_fits_51 : decode cX11_fits 51 = .ok (.iload_n 1, 1) := by decide +kernel
theorem dX11_fits_52 : decode cX11_fits 52 = .ok (.invokevirtual 404, 3) := by decide +kernel
theorem dX11_fits_55 : decode cX11_fits 55 = .ok (.goto 4, 3) := by decide +kernel
theorem dX11_fits_58 : decode cX11_fits 58 = .ok (.iconst (-1), 1) := by decide +kernel
theorem dX11_fits_59 : decode cX11_fits 59 = .ok (.ireturn, 1) := by decide +kernel
theorem dX11_fit_0 : decode cX11_fit 0 = .ok (.aload_n 0, 1) := by decide +kernel
theorem dX11_fit_1 : decode cX11_fit 1 = .ok (.getfield 79, 3) := by decide +kernel
theorem dX11_fit_4 : decode cX11_fit 4 = .ok (.iload_n 1, 1) := by decide +kernel
theorem dX11_fit_5 : decode cX11_fit 5 = .ok (.iload_n 2, 1) := by decide +kernel
theorem dX11_fit_6 : decode cX11_fit 6 = .ok (.invokevirtual 406, 3) := by decide +kernel
theorem dX11_fit_9 : decode cX11_fit 9 = .ok (.ireturn, 1) := by decide +kernel
theorem dX11_owed_0 : decode cX11_owed 0 = .ok (.aload_n 0, 1) := by decide +kernel
theorem dX11_owed_1 : decode cX11_owed 1 = .ok (.getfield 19, 3) := by decide +kernel
theorem dX11_owed_4 : decode cX11_owed 4 = .ok (.iload_n 1, 1) := by decide +kernel
theorem dX11_owed_5 : decode cX11_owed 5 = .ok (.invokevirtual 172, 3) := by decide +kernel
theorem dX11_owed_8 : decode cX11_owed 8 = .ok (.ifCond .eq 29, 3) := by decide +kernel
theorem dX11_owed_11 : decode cX11_owed 11 = .ok (.iload_n 2, 1) := by decide +kernel
theorem dX11_owed_12 : decode cX11_owed 12 = .ok (.ifCond .lt 25, 3) := by decide +kernel
theorem dX11_owed_15 : decode cX11_owed 15 = .ok (.iload_n 2, 1) := by decide +kernel
theorem dX11_owed_16 : decode cX11_owed 16 = .ok (.iconst 1, 1) := by decide +kernel
theorem dX11_owed_17 : decode cX11_owed 17 = .ok (.aload_n 0, 1) := by decide +kernel
theorem dX11_owed_18 : decode cX11_owed 18 = .ok (.getfield 19, 3) := by decide +kernel
theorem dX11_owed_21 : decode cX11_owed 21 = .ok (.getfield 150, 3) := by decide +kernel
theorem dX11_owed_24 : decode cX11_owed 24 = .ok (.ishl, 1) := by decide +kernel
theorem dX11_owed_25 : decode cX11_owed 25 = .ok (.if_icmp .ge 12, 3) := by decide +kernel
theorem dX11_owed_28 : decode cX11_owed 28 = .ok (.iload_n 3, 1) := by decide +kernel
theorem dX11_owed_29 : decode cX11_owed 29 = .ok (.ifCond .lt 8, 3) := by decide +kernel
theorem dX11_owed_32 : decode cX11_owed 32 = .ok (.iload_n 3, 1) := by decide +kernel
theorem dX11_owed_33 : decode cX11_owed 33 = .ok (.iconst 1, 1) := by decide +kernel
theorem dX11_owed_34 : decode cX11_owed 34 = .ok (.if_icmp .le 5, 3) := by decide +kernel
theorem dX11_owed_37 : decode cX11_owed 37 = .ok (.iconst (-1), 1) := by decide +kernel
theorem dX11_owed_38 : decode cX11_owed 38 = .ok (.ireturn, 1) := by decide +kernel
theorem dX11_owed_39 : decode cX11_owed 39 = .ok (.iload_n 3, 1) := by decide +kernel
theorem dX11_owed_40 : decode cX11_owed 40 = .ok (.ifCond .ne 15, 3) := by decide +kernel
theorem dX11_owed_43 : decode cX11_owed 43 = .ok (.aload_n 0, 1) := by decide +kernel
theorem dX11_owed_44 : decode cX11_owed 44 = .ok (.getfield 41, 3) := by decide +kernel
theorem dX11_owed_47 : decode cX11_owed 47 = .ok (.iload_n 1, 1) := by decide +kernel
theorem dX11_owed_48 : decode cX11_owed 48 = .ok (.iload_n 2, 1) := by decide +kernel
theorem dX11_owed_49 : decode cX11_owed 49 = .ok (.invokevirtual 408, 3) := by decide +kernel
theorem dX11_owed_52 : decode cX11_owed 52 = .ok (.goto 12, 3) := by decide +kernel
theorem dX11_owed_55 : decode cX11_owed 55 = .ok (.aload_n 0, 1) := by decide +kernel
theorem dX11_owed_56 : decode cX11_owed 56 = .ok (.getfield 41, 3) := by decide +kernel
theorem dX11_owed_59 : decode cX11_owed 59 = .ok (.iload_n 1, 1) := by decide +kernel
theorem dX11_owed_60 : decode cX11_owed 60 = .ok (.iload_n 2, 1) := by decide +kernel
theorem dX11_owed_61 : decode cX11_owed 61 = .ok (.invokevirtual 411, 3) := by decide +kernel
theorem dX11_owed_64 : decode cX11_owed 64 = .ok (.ireturn, 1) := by decide +kernel
theorem dX11_proof_0 : decode cX11_proof 0 = .ok (.aload_n 0, 1) := by decide +kernel
theorem dX11_proof_1 : decode cX11_proof 1 = .ok (.getfield 19, 3) := by decide +kernel
theorem dX11_proof_4 : decode cX11_proof 4 = .ok (.iload_n 1, 1) := by decide +kernel
theorem dX11_proof_5 : decode cX11_proof 5 = .ok (.invokevirtual 172, 3) := by decide +kernel
theorem dX11_proof_8 : decode cX11_proof 8 = .ok (.ifCond .ne 5, 3) := by decide +kernel
theorem dX11_proof_11 : decode cX11_proof 11 = .ok (.iconst (-1), 1) := by decide +kernel
theorem dX11_proof_12 : decode cX11_proof 12 = .ok (.ireturn, 1) := by decide +kernel
theorem dX11_proof_13 : decode cX11_proof 13 = .ok (.iconst 1, 1) := by decide +kernel
theorem dX11_proof_14 : decode cX11_proof 14 = .ok (.aload_n 0, 1) := by decide +kernel
theorem dX11_proof_15 : decode cX11_proof 15 = .ok (.getfield 19, 3) := by decide +kernel
theorem dX11_proof_18 : decode cX11_proof 18 = .ok (.getfield 150, 3) := by decide +kernel
theorem dX11_proof_21 : decode cX11_proof 21 = .ok (.ishl, 1) := by decide +kernel
theorem dX11_proof_22 : decode cX11_proof 22 = .ok (.iconst 1, 1) := by decide +kernel
theorem dX11_proof_23 : decode cX11_proof 23 = .ok (.isub, 1) := by decide +kernel
theorem dX11_proof_24 : decode cX11_proof 24 = .ok (.istore_n 2, 1) := by decide +kernel
theorem dX11_proof_25 : decode cX11_proof 25 = .ok (.aload_n 0, 1) := by decide +kernel
theorem dX11_proof_26 : decode cX11_proof 26 = .ok (.getfield 41, 3) := by decide +kernel
theorem dX11_proof_29 : decode cX11_proof 29 = .ok (.iload_n 1, 1) := by decide +kernel
theorem dX11_proof_30 : decode cX11_proof 30 = .ok (.iload_n 2, 1) := by decide +kernel
theorem dX11_proof_31 : decode cX11_proof 31 = .ok (.invokevirtual 408, 3) := by decide +kernel
theorem dX11_proof_34 : decode cX11_proof 34 = .ok (.istore_n 3, 1) := by decide +kernel
theorem dX11_proof_35 : decode cX11_proof 35 = .ok (.iload_n 2, 1) := by decide +kernel
theorem dX11_proof_36 : decode cX11_proof 36 = .ok (.istore 4, 2) := by decide +kernel
theorem dX11_proof_38 : decode cX11_proof 38 = .ok (.iconst 0, 1) := by decide +kernel
theorem dX11_proof_39 : decode cX11_proof 39 = .ok (.istore 5, 2) := by decide +kernel
theorem dX11_proof_41 : decode cX11_proof 41 = .ok (.iload 5, 2) := by decide +kernel
theorem dX11_proof_43 : decode cX11_proof 43 = .ok (.iload_n 2, 1) := by decide +kernel
theorem dX11_proof_44 : decode cX11_proof 44 = .ok (.if_icmp .ge 40, 3) := by decide +kernel
theorem dX11_proof_47 : decode cX11_proof 47 = .ok (.iload 5, 2) := by decide +kernel
theorem dX11_proof_49 : decode cX11_proof 49 = .ok (.invokestatic 414, 3) := by decide +kernel
theorem dX11_proof_52 : decode cX11_proof 52 = .ok (.iload 4, 2) := by decide +kernel
theorem dX11_proof_54 : decode cX11_proof 54 = .ok (.invokestatic 414, 3) := by decide +kernel
theorem dX11_proof_57 : decode cX11_proof 57 = .ok (.if_icmp .ge 21, 3) := by decide +kernel
theorem dX11_proof_60 : decode cX11_proof 60 = .ok (.aload_n 0, 1) := by decide +kernel
theorem dX11_proof_61 : decode cX11_proof 61 = .ok (.getfield 41, 3) := by decide +kernel
theorem dX11_proof_64 : decode cX11_proof 64 = .ok (.iload_n 1, 1) := by decide +kernel
theorem dX11_proof_65 : decode cX11_proof 65 = .ok (.iload 5, 2) := by decide +kernel
theorem dX11_proof_67 : decode cX11_proof 67 = .ok (.invokevirtual 408, 3) := by decide +kernel
theorem dX11_proof_70 : decode cX11_proof 70 = .ok (.iload_n 3, 1) := by decide +kernel
theorem dX11_proof_71 : decode cX11_proof 71 = .ok (.if_icmp .ne 7, 3) := by decide +kernel
theorem dX11_proof_74 : decode cX11_proof 74 = .ok (.iload 5, 2) := by decide +kernel
theorem dX11_proof_76 : decode cX11_proof 76 = .ok (.istore 4, 2) := by decide +kernel
theorem dX11_proof_78 : decode cX11_proof 78 = .ok (.iinc 5 1, 3) := by decide +kernel
theorem dX11_proof_81 : decode cX11_proof 81 = .ok (.goto (-40), 3) := by decide +kernel
theorem dX11_proof_84 : decode cX11_proof 84 = .ok (.iload 4, 2) := by decide +kernel
theorem dX11_proof_86 : decode cX11_proof 86 = .ok (.ireturn, 1) := by decide +kernel
theorem dX11_witness_0 : decode cX11_witness 0 = .ok (.aload_n 0, 1) := by decide +kernel
theorem dX11_witness_1 : decode cX11_witness 1 = .ok (.getfield 41, 3) := by decide +kernel
theorem dX11_witness_4 : decode cX11_witness 4 = .ok (.iload_n 1, 1) := by decide +kernel
theorem dX11_witness_5 : decode cX11_witness 5 = .ok (.invokevirtual 211, 3) := by decide +kernel
theorem dX11_witness_8 : decode cX11_witness 8 = .ok (.ifCond .ne 5, 3) := by decide +kernel
theorem dX11_witness_11 : decode cX11_witness 11 = .ok (.iconst (-1), 1) := by decide +kernel
theorem dX11_witness_12 : decode cX11_witness 12 = .ok (.ireturn, 1) := by decide +kernel
theorem dX11_witness_13 : decode cX11_witness 13 = .ok (.aload_n 0, 1) := by decide +kernel
theorem dX11_witness_14 : decode cX11_witness 14 = .ok (.getfield 41, 3) := by decide +kernel
theorem dX11_witness_17 : decode cX11_witness 17 = .ok (.iload_n 1, 1) := by decide +kernel
theorem dX11_witness_18 : decode cX11_witness 18 = .ok (.iconst 0, 1) := by decide +kernel
theorem dX11_witness_19 : decode cX11_witness 19 = .ok (.invokevirtual 419, 3) := by decide +kernel
theorem dX11_witness_22 : decode cX11_witness 22 = .ok (.istore_n 2, 1) := by decide +kernel
theorem dX11_witness_23 : decode cX11_witness 23 = .ok (.aload_n 0, 1) := by decide +kernel
theorem dX11_witness_24 : decode cX11_witness 24 = .ok (.getfield 41, 3) := by decide +kernel
theorem dX11_witness_27 : decode cX11_witness 27 = .ok (.iload_n 1, 1) := by decide +kernel
theorem dX11_witness_28 : decode cX11_witness 28 = .ok (.iconst 1, 1) := by decide +kernel
theorem dX11_witness_29 : decode cX11_witness 29 = .ok (.invokevirtual 419, 3) := by decide +kernel
theorem dX11_witness_32 : decode cX11_witness 32 = .ok (.istore_n 3, 1) := by decide +kernel
theorem dX11_witness_33 : decode cX11_witness 33 = .ok (.aload_n 0, 1) := by decide +kernel
theorem dX11_witness_34 : decode cX11_witness 34 = .ok (.getfield 19, 3) := by decide +kernel
theorem dX11_witness_37 : decode cX11_witness 37 = .ok (.getfield 208, 3) := by decide +kernel
theorem dX11_witness_40 : decode cX11_witness 40 = .ok (.aload_n 0, 1) := by decide +kernel
theorem dX11_witness_41 : decode cX11_witness 41 = .ok (.getfield 41, 3) := by decide +kernel
theorem dX11_witness_44 : decode cX11_witness 44 = .ok (.getfield 223, 3) := by decide +kernel
theorem dX11_witness_47 : decode cX11_witness 47 = .ok (.iload_n 1, 1) := by decide +kernel
theorem dX11_witness_48 : decode cX11_witness 48 = .ok (.iaload, 1) := by decide +kernel
theorem dX11_witness_49 : decode cX11_witness 49 = .ok (.iaload, 1) := by decide +kernel
theorem dX11_witness_50 : decode cX11_witness 50 = .ok (.iconst 4, 1) := by decide +kernel
theorem dX11_witness_51 : decode cX11_witness 51 = .ok (.if_icmp .ne 25, 3) := by decide +kernel
theorem dX11_witness_54 : decode cX11_witness 54 = .ok (.iload_n 2, 1) := by decide +kernel
theorem dX11_witness_55 : decode cX11_witness 55 = .ok (.iconst (-1), 1) := by decide +kernel
theorem dX11_witness_56 : decode cX11_witness 56 = .ok (.if_icmp .eq 8, 3) := by decide +kernel
theorem dX11_witness_59 : decode cX11_witness 59 = .ok (.iload_n 3, 1) := by decide +kernel
theorem dX11_witness_60 : decode cX11_witness 60 = .ok (.iconst (-1), 1) := by decide +kernel
theorem dX11_witness_61 : decode cX11_witness 61 = .ok (.if_icmp .ne 7, 3) := by decide +kernel
theorem dX11_witness_64 : decode cX11_witness 64 = .ok (.iconst (-1), 1) := by decide +kernel
theorem dX11_witness_65 : decode cX11_witness 65 = .ok (.goto 10, 3) := by decide +kernel
theorem dX11_witness_68 : decode cX11_witness 68 = .ok (.iconst 1, 1) := by decide +kernel
theorem dX11_witness_69 : decode cX11_witness 69 = .ok (.iload_n 2, 1) := by decide +kernel
theorem dX11_witness_70 : decode cX11_witness 70 = .ok (.ishl, 1) := by decide +kernel
theorem dX11_witness_71 : decode cX11_witness 71 = .ok (.iconst 1, 1) := by decide +kernel
theorem dX11_witness_72 : decode cX11_witness 72 = .ok (.iload_n 3, 1) := by decide +kernel
theorem dX11_witness_73 : decode cX11_witness 73 = .ok (.ishl, 1) := by decide +kernel
theorem dX11_witness_74 : decode cX11_witness 74 = .ok (.ior, 1) := by decide +kernel
theorem dX11_witness_75 : decode cX11_witness 75 = .ok (.ireturn, 1) := by decide +kernel
theorem dX11_witness_76 : decode cX11_witness 76 = .ok (.iload_n 2, 1) := by decide +kernel
theorem dX11_witness_77 : decode cX11_witness 77 = .ok (.iconst (-1), 1) := by decide +kernel
theorem dX11_witness_78 : decode cX11_witness 78 = .ok (.if_icmp .eq 8, 3) := by decide +kernel
theorem dX11_witness_81 : decode cX11_witness 81 = .ok (.iload_n 3, 1) := by decide +kernel
theorem dX11_witness_82 : decode cX11_witness 82 = .ok (.iconst (-1), 1) := by decide +kernel
theorem dX11_witness_83 : decode cX11_witness 83 = .ok (.if_icmp .ne 30, 3) := by decide +kernel
theorem dX11_witness_86 : decode cX11_witness 86 = .ok (.iload_n 2, 1) := by decide +kernel
theorem dX11_witness_87 : decode cX11_witness 87 = .ok (.iconst (-1), 1) := by decide +kernel
theorem dX11_witness_88 : decode cX11_witness 88 = .ok (.if_icmp .ne 7, 3) := by decide +kernel
theorem dX11_witness_91 : decode cX11_witness 91 = .ok (.iload_n 3, 1) := by decide +kernel
theorem dX11_witness_92 : decode cX11_witness 92 = .ok (.goto 4, 3) := by decide +kernel
theorem dX11_witness_95 : decode cX11_witness 95 = .ok (.iload_n 2, 1) := by decide +kernel
theorem dX11_witness_96 : decode cX11_witness 96 = .ok (.istore 4, 2) := by decide +kernel
theorem dX11_witness_98 : decode cX11_witness 98 = .ok (.iload 4, 2) := by decide +kernel
theorem dX11_witness_100 : decode cX11_witness 100 = .ok (.iconst (-1), 1) := by decide +kernel
theorem dX11_witness_101 : decode cX11_witness 101 = .ok (.if_icmp .ne 7, 3) := by decide +kernel
theorem dX11_witness_104 : decode cX11_witness 104 = .ok (.iconst (-1), 1) := by decide +kernel
theorem dX11_witness_105 : decode cX11_witness 105 = .ok (.goto 7, 3) := by decide +kernel
theorem dX11_witness_108 : decode cX11_witness 108 = .ok (.iconst 1, 1) := by decide +kernel
theorem dX11_witness_109 : decode cX11_witness 109 = .ok (.iload 4, 2) := by decide +kernel
theorem dX11_witness_111 : decode cX11_witness 111 = .ok (.ishl, 1) := by decide +kernel
theorem dX11_witness_112 : decode cX11_witness 112 = .ok (.ireturn, 1) := by decide +kernel
theorem dX11_witness_113 : decode cX11_witness 113 = .ok (.iconst 1, 1) := by decide +kernel
theorem dX11_witness_114 : decode cX11_witness 114 = .ok (.iload_n 2, 1) := by decide +kernel
theorem dX11_witness_115 : decode cX11_witness 115 = .ok (.iload_n 3, 1) := by decide +kernel
theorem dX11_witness_116 : decode cX11_witness 116 = .ok (.invokestatic 422, 3) := by decide +kernel
theorem dX11_witness_119 : decode cX11_witness 119 = .ok (.ishl, 1) := by decide +kernel
theorem dX11_witness_120 : decode cX11_witness 120 = .ok (.ireturn, 1) := by decide +kernel
theorem dX11_image_0 : decode cX11_image 0 = .ok (.iload_n 1, 1) := by decide +kernel
theorem dX11_image_1 : decode cX11_image 1 = .ok (.ifCond .lt 12, 3) := by decide +kernel
theorem dX11_image_4 : decode cX11_image 4 = .ok (.iload_n 1, 1) := by decide +kernel
theorem dX11_image_5 : decode cX11_image 5 = .ok (.aload_n 0, 1) := by decide +kernel
theorem dX11_image_6 : decode cX11_image 6 = .ok (.getfield 58, 3) := by decide +kernel
theorem dX11_image_9 : decode cX11_image 9 = .ok (.arraylength, 1) := by decide +kernel
theorem dX11_image_10 : decode cX11_image 10 = .ok (.if_icmp .lt 5, 3) := by decide +kernel
theorem dX11_image_13 : decode cX11_image 13 = .ok (.iconst 0, 1) := by decide +kernel
theorem dX11_image_14 : decode cX11_image 14 = .ok (.ireturn, 1) := by decide +kernel
theorem dX11_image_15 : decode cX11_image 15 = .ok (.aload_n 0, 1) := by decide +kernel
theorem dX11_image_16 : decode cX11_image 16 = .ok (.getfield 58, 3) := by decide +kernel
theorem dX11_image_19 : decode cX11_image 19 = .ok (.iload_n 1, 1) := by decide +kernel
theorem dX11_image_20 : decode cX11_image 20 = .ok (.aaload, 1) := by decide +kernel
theorem dX11_image_21 : decode cX11_image 21 = .ok (.aload_n 0, 1) := by decide +kernel
theorem dX11_image_22 : decode cX11_image 22 = .ok (.getfield 19, 3) := by decide +kernel
theorem dX11_image_25 : decode cX11_image 25 = .ok (.aload_n 0, 1) := by decide +kernel
theorem dX11_image_26 : decode cX11_image 26 = .ok (.getfield 41, 3) := by decide +kernel
theorem dX11_image_29 : decode cX11_image 29 = .ok (.aload_n 0, 1) := by decide +kernel
theorem dX11_image_30 : decode cX11_image 30 = .ok (.getfield 29, 3) := by decide +kernel
theorem dX11_image_33 : decode cX11_image 33 = .ok (.invokevirtual 427, 3) := by decide +kernel
theorem dX11_image_36 : decode cX11_image 36 = .ok (.iconst 1, 1) := by decide +kernel
theorem dX11_image_37 : decode cX11_image 37 = .ok (.ireturn, 1) := by decide +kernel
theorem dX11_restore_0 : decode cX11_restore 0 = .ok (.iload_n 1, 1) := by decide +kernel
theorem dX11_restore_1 : decode cX11_restore 1 = .ok (.ifCond .lt 24, 3) := by decide +kernel
theorem dX11_restore_4 : decode cX11_restore 4 = .ok (.iload_n 1, 1) := by decide +kernel
theorem dX11_restore_5 : decode cX11_restore 5 = .ok (.aload_n 0, 1) := by decide +kernel
theorem dX11_restore_6 : decode cX11_restore 6 = .ok (.getfield 58, 3) := by decide +kernel
theorem dX11_restore_9 : decode cX11_restore 9 = .ok (.arraylength, 1) := by decide +kernel
theorem dX11_restore_10 : decode cX11_restore 10 = .ok (.if_icmp .ge 15, 3) := by decide +kernel
theorem dX11_restore_13 : decode cX11_restore 13 = .ok (.aload_n 0, 1) := by decide +kernel
theorem dX11_restore_14 : decode cX11_restore 14 = .ok (.getfield 58, 3) := by decide +kernel
theorem dX11_restore_17 : decode cX11_restore 17 = .ok (.iload_n 1, 1) := by decide +kernel
theorem dX11_restore_18 : decode cX11_restore 18 = .ok (.aaload, 1) := by decide +kernel
theorem dX11_restore_19 : decode cX11_restore 19 = .ok (.getfield 431, 3) := by decide +kernel
theorem dX11_restore_22 : decode cX11_restore 22 = .ok (.ifCond .ne 5, 3) := by decide +kernel
theorem dX11_restore_25 : decode cX11_restore 25 = .ok (.iconst 0, 1) := by decide +kernel
theorem dX11_restore_26 : decode cX11_restore 26 = .ok (.ireturn, 1) := by decide +kernel
theorem dX11_restore_27 : decode cX11_restore 27 = .ok (.aload_n 0, 1) := by decide +kernel
theorem dX11_restore_28 : decode cX11_restore 28 = .ok (.getfield 58, 3) := by decide +kernel
theorem dX11_restore_31 : decode cX11_restore 31 = .ok (.iload_n 1, 1) := by decide +kernel
theorem dX11_restore_32 : decode cX11_restore 32 = .ok (.aaload, 1) := by decide +kernel
theorem dX11_restore_33 : decode cX11_restore 33 = .ok (.aload_n 0, 1) := by decide +kernel
theorem dX11_restore_34 : decode cX11_restore 34 = .ok (.getfield 19, 3) := by decide +kernel
theorem dX11_restore_37 : decode cX11_restore 37 = .ok (.aload_n 0, 1) := by decide +kernel
theorem dX11_restore_38 : decode cX11_restore 38 = .ok (.getfield 41, 3) := by decide +kernel
theorem dX11_restore_41 : decode cX11_restore 41 = .ok (.aload_n 0, 1) := by decide +kernel
theorem dX11_restore_42 : decode cX11_restore 42 = .ok (.getfield 29, 3) := by decide +kernel
theorem dX11_restore_45 : decode cX11_restore 45 = .ok (.invokevirtual 434, 3) := by decide +kernel
theorem dX11_restore_48 : decode cX11_restore 48 = .ok (.aload_n 0, 1) := by decide +kernel
theorem dX11_restore_49 : decode cX11_restore 49 = .ok (.getfield 51, 3) := by decide +kernel
theorem dX11_restore_52 : decode cX11_restore 52 = .ok (.invokevirtual 140, 3) := by decide +kernel
theorem dX11_restore_55 : decode cX11_restore 55 = .ok (.iconst 1, 1) := by decide +kernel
theorem dX11_restore_56 : decode cX11_restore 56 = .ok (.ireturn, 1) := by decide +kernel
theorem dX11_isSide_0 : decode cX11_isSide 0 = .ok (.iload_n 0, 1) := by decide +kernel
theorem dX11_isSide_1 : decode cX11_isSide 1 = .ok (.ifCond .eq 8, 3) := by decide +kernel
theorem dX11_isSide_4 : decode cX11_isSide 4 = .ok (.iload_n 0, 1) := by decide +kernel
theorem dX11_isSide_5 : decode cX11_isSide 5 = .ok (.iconst 1, 1) := by decide +kernel
theorem dX11_isSide_6 : decode cX11_isSide 6 = .ok (.if_icmp .ne 7, 3) := by decide +kernel
theorem dX11_isSide_9 : decode cX11_isSide 9 = .ok (.iconst 1, 1) := by decide +kernel
theorem dX11_isSide_10 : decode cX11_isSide 10 = .ok (.goto 4, 3) := by decide +kernel
theorem dX11_isSide_13 : decode cX11_isSide 13 = .ok (.iconst 0, 1) := by decide +kernel
theorem dX11_isSide_14 : decode cX11_isSide 14 = .ok (.ireturn, 1) := by decide +kernel
theorem dX11_isYear_0 : decode cX11_isYear 0 = .ok (.iload_n 0, 1) := by decide +kernel
theorem dX11_isYear_1 : decode cX11_isYear 1 = .ok (.ifCond .lt 13, 3) := by decide +kernel
theorem dX11_isYear_4 : decode cX11_isYear 4 = .ok (.iload_n 0, 1) := by decide +kernel
theorem dX11_isYear_5 : decode cX11_isYear 5 = .ok (.bipush 99, 2) := by decide +kernel
theorem dX11_isYear_7 : decode cX11_isYear 7 = .ok (.if_icmp .gt 7, 3) := by decide +kernel
theorem dX11_isYear_10 : decode cX11_isYear 10 = .ok (.iconst 1, 1) := by decide +kernel
theorem dX11_isYear_11 : decode cX11_isYear 11 = .ok (.goto 4, 3) := by decide +kernel
theorem dX11_isYear_14 : decode cX11_isYear 14 = .ok (.iconst 0, 1) := by decide +kernel
theorem dX11_isYear_15 : decode cX11_isYear 15 = .ok (.ireturn, 1) := by decide +kernel
theorem dX11_isIn_0 : decode cX11_isIn 0 = .ok (.iload_n 1, 1) := by decide +kernel
theorem dX11_isIn_1 : decode cX11_isIn 1 = .ok (.iload_n 0, 1) := by decide +kernel
theorem dX11_isIn_2 : decode cX11_isIn 2 = .ok (.ishr, 1) := by decide +kernel
theorem dX11_isIn_3 : decode cX11_isIn 3 = .ok (.iconst 1, 1) := by decide +kernel
theorem dX11_isIn_4 : decode cX11_isIn 4 = .ok (.iand, 1) := by decide +kernel
theorem dX11_isIn_5 : decode cX11_isIn 5 = .ok (.iconst 1, 1) := by decide +kernel
theorem dX11_isIn_6 : decode cX11_isIn 6 = .ok (.if_icmp .ne 7, 3) := by decide +kernel
theorem dX11_isIn_9 : decode cX11_isIn 9 = .ok (.iconst 1, 1) := by decide +kernel
theorem dX11_isIn_10 : decode cX11_isIn 10 = .ok (.goto 4, 3) := by decide +kernel
theorem dX11_isIn_13 : decode cX11_isIn 13 = .ok (.iconst 0, 1) := by decide +kernel
theorem dX11_isIn_14 : decode cX11_isIn 14 = .ok (.ireturn, 1) := by decide +kernel
theorem dX12_thrown_0 : decode cX12_thrown 0 = .ok (.aload_n 0, 1) := by decide +kernel
theorem dX12_thrown_1 : decode cX12_thrown 1 = .ok (.getfield 1, 3) := by decide +kernel
theorem dX12_thrown_4 : decode cX12_thrown 4 = .ok (.ireturn, 1) := by decide +kernel
theorem dX12_throwsIf_0 : decode cX12_throwsIf 0 = .ok (.aload_n 0, 1) := by decide +kernel
theorem dX12_throwsIf_1 : decode cX12_throwsIf 1 = .ok (.iload_n 1, 1) := by decide +kernel
theorem dX12_throwsIf_2 : decode cX12_throwsIf 2 = .ok (.ifCond .eq 7, 3) := by decide +kernel
theorem dX12_throwsIf_5 : decode cX12_throwsIf 5 = .ok (.iconst 1, 1) := by decide +kernel
theorem dX12_throwsIf_6 : decode cX12_throwsIf 6 = .ok (.goto 4, 3) := by decide +kernel
theorem dX12_throwsIf_9 : decode cX12_throwsIf 9 = .ok (.iconst 0, 1) := by decide +kernel
theorem dX12_throwsIf_10 : decode cX12_throwsIf 10 = .ok (.putfield 1, 3) := by decide +kernel
theorem dX12_throwsIf_13 : decode cX12_throwsIf 13 = .ok (.iload_n 1, 1) := by decide +kernel
theorem dX12_throwsIf_14 : decode cX12_throwsIf 14 = .ok (.ireturn, 1) := by decide +kernel
theorem dX12_feed_0 : decode cX12_feed 0 = .ok (.aload_n 0, 1) := by decide +kernel
theorem dX12_feed_1 : decode cX12_feed 1 = .ok (.iconst 0, 1) := by decide +kernel
theorem dX12_feed_2 : decode cX12_feed 2 = .ok (.putfield 1, 3) := by decide +kernel
theorem dX12_feed_5 : decode cX12_feed 5 = .ok (.aload_n 0, 1) := by decide +kernel
theorem dX12_feed_6 : decode cX12_feed 6 = .ok (.getfield 7, 3) := by decide +kernel
theorem dX12_feed_9 : decode cX12_feed 9 = .ok (.bipush 20, 2) := by decide +kernel
theorem dX12_feed_11 : decode cX12_feed 11 = .ok (.iadd, 1) := by decide +kernel
theorem dX12_feed_12 : decode cX12_feed 12 = .ok (.sipush 640, 3) := by decide +kernel
theorem dX12_feed_15 : decode cX12_feed 15 = .ok (.if_icmp .le 5, 3) := by decide +kernel
theorem dX12_feed_18 : decode cX12_feed 18 = .ok (.iconst (-1), 1) := by decide +kernel
theorem dX12_feed_19 : decode cX12_feed 19 = .ok (.ireturn, 1) := by decide +kernel
theorem dX12_feed_20 : decode cX12_feed 20 = .ok (.aload_n 0, 1) := by decide +kernel
theorem dX12_feed_21 : decode cX12_feed 21 = .ok (.iload_n 1, 1) := by decide +kernel
theorem dX12_feed_22 : decode cX12_feed 22 = .ok (.invokevirtual 10, 3) := by decide +kernel
theorem dX12_feed_25 : decode cX12_feed 25 = .ok (.aload_n 0, 1) := by decide +kernel
theorem dX12_feed_26 : decode cX12_feed 26 = .ok (.iload_n 2, 1) := by decide +kernel
theorem dX12_feed_27 : decode cX12_feed 27 = .ok (.invokevirtual 10, 3) := by decide +kernel
theorem dX12_feed_30 : decode cX12_feed 30 = .ok (.aload_n 0, 1) := by decide +kernel
theorem dX12_feed_31 : decode cX12_feed 31 = .ok (.iload_n 3, 1) := by decide +kernel
theorem dX12_feed_32 : decode cX12_feed 32 = .ok (.invokevirtual 10, 3) := by decide +kernel
theorem dX12_feed_35 : decode cX12_feed 35 = .ok (.aload_n 0, 1) := by decide +kernel
theorem dX12_feed_36 : decode cX12_feed 36 = .ok (.iload 4, 2) := by decide +kernel
theorem dX12_feed_38 : decode cX12_feed 38 = .ok (.invokevirtual 10, 3) := by decide +kernel
theorem dX12_feed_41 : decode cX12_feed 41 = .ok (.aload_n 0, 1) := by decide +kernel
theorem dX12_feed_42 : decode cX12_feed 42 = .ok (.iload 5, 2) := by decide +kernel
theorem dX12_feed_44 : decode cX12_feed 44 = .ok (.invokevirtual 10, 3) := by decide +kernel
theorem dX12_feed_47 : decode cX12_feed 47 = .ok (.aload_n 0, 1) := by decide +kernel
theorem dX12_feed_48 : decode cX12_feed 48 = .ok (.getfield 7, 3) := by decide +kernel
theorem dX12_feed_51 : decode cX12_feed 51 = .ok (.ireturn, 1) := by decide +kernel
theorem dX12_four_0 : decode cX12_four 0 = .ok (.bipush 24, 2) := by decide +kernel
theorem dX12_four_2 : decode cX12_four 2 = .ok (.istore_n 2, 1) := by decide +kernel
theorem dX12_four_3 : decode cX12_four 3 = .ok (.iload_n 2, 1) := by decide +kernel
theorem dX12_four_4 : decode cX12_four 4 = .ok (.ifCond .lt 32, 3) := by decide +kernel
theorem dX12_four_7 : decode cX12_four 7 = .ok (.aload_n 0, 1) := by decide +kernel
theorem dX12_four_8 : decode cX12_four 8 = .ok (.getfield 14, 3) := by decide +kernel
theorem dX12_four_11 : decode cX12_four 11 = .ok (.aload_n 0, 1) := by decide +kernel
theorem dX12_four_12 : decode cX12_four 12 = .ok (.getfield 7, 3) := by decide +kernel
theorem dX12_four_15 : decode cX12_four 15 = .ok (.iload_n 1, 1) := by decide +kernel
theorem dX12_four_16 : decode cX12_four 16 = .ok (.iload_n 2, 1) := by decide +kernel
theorem dX12_four_17 : decode cX12_four 17 = .ok (.ishr, 1) := by decide +kernel
theorem dX12_four_18 : decode cX12_four 18 = .ok (.i2b, 1) := by decide +kernel
theorem dX12_four_19 : decode cX12_four 19 = .ok (.bastore, 1) := by decide +kernel
theorem dX12_four_20 : decode cX12_four 20 = .ok (.aload_n 0, 1) := by decide +kernel
theorem dX12_four_21 : decode cX12_four 21 = .ok (.dup, 1) := by decide +kernel
theorem dX12_four_22 : decode cX12_four 22 = .ok (.getfield 7, 3) := by decide +kernel
theorem dX12_four_25 : decode cX12_four 25 = .ok (.iconst 1, 1) := by decide +kernel
theorem dX12_four_26 : decode cX12_four 26 = .ok (.iadd, 1) := by decide +kernel
theorem dX12_four_27 : decode cX12_four 27 = .ok (.putfield 7, 3) := by decide +kernel
theorem dX12_four_30 : decode cX12_four 30 = .ok (.iinc 2 (-8), 3) := by decide +kernel
theorem dX12_four_33 : decode cX12_four 33 = .ok (.goto (-30), 3) := by decide +kernel
theorem dX12_four_36 : decode cX12_four 36 = .ok (.return_, 1) := by decide +kernel
theorem dX12_end_0 : decode cX12_end 0 = .ok (.aload_n 0, 1) := by decide +kernel
theorem dX12_end_1 : decode cX12_end 1 = .ok (.iconst 0, 1) := by decide +kernel
theorem dX12_end_2 : decode cX12_end 2 = .ok (.putfield 1, 3) := by decide +kernel
theorem dX12_end_5 : decode cX12_end 5 = .ok (.iload_n 1, 1) := by decide +kernel
theorem dX12_end_6 : decode cX12_end 6 = .ok (.ifCond .lt 11, 3) := by decide +kernel
theorem dX12_end_9 : decode cX12_end 9 = .ok (.iload_n 1, 1) := by decide +kernel
theorem dX12_end_10 : decode cX12_end 10 = .ok (.aload_n 0, 1) := by decide +kernel
theorem dX12_end_11 : decode cX12_end 11 = .ok (.getfield 7, 3) := by decide +kernel
theorem dX12_end_14 : decode cX12_end 14 = .ok (.if_icmp .le 5, 3) := by decide +kernel
theorem dX12_end_17 : decode cX12_end 17 = .ok (.iconst 0, 1) := by decide +kernel
theorem dX12_end_18 : decode cX12_end 18 = .ok (.ireturn, 1) := by decide +kernel
theorem dX12_end_19 : decode cX12_end 19 = .ok (.aload_n 0, 1) := by decide +kernel
theorem dX12_end_20 : decode cX12_end 20 = .ok (.iload_n 1, 1) := by decide +kernel
theorem dX12_end_21 : decode cX12_end 21 = .ok (.putfield 7, 3) := by decide +kernel
theorem dX12_end_24 : decode cX12_end 24 = .ok (.iconst 1, 1) := by decide +kernel
theorem dX12_end_25 : decode cX12_end 25 = .ok (.ireturn, 1) := by decide +kernel
theorem dX12_taken_0 : decode cX12_taken 0 = .ok (.aload_n 0, 1) := by decide +kernel
theorem dX12_taken_1 : decode cX12_taken 1 = .ok (.aload_n 0, 1) := by decide +kernel
theorem dX12_taken_2 : decode cX12_taken 2 = .ok (.getfield 7, 3) := by decide +kernel
theorem dX12_taken_5 : decode cX12_taken 5 = .ok (.putfield 18, 3) := by decide +kernel
theorem dX12_taken_8 : decode cX12_taken 8 = .ok (.aload_n 0, 1) := by decide +kernel
theorem dX12_taken_9 : decode cX12_taken 9 = .ok (.iconst 0, 1) := by decide +kernel
theorem dX12_taken_10 : decode cX12_taken 10 = .ok (.putfield 7, 3) := by decide +kernel
theorem dX12_taken_13 : decode cX12_taken 13 = .ok (.aload_n 0, 1) := by decide +kernel
theorem dX12_taken_14 : decode cX12_taken 14 = .ok (.iconst 0, 1) := by decide +kernel
theorem dX12_taken_15 : decode cX12_taken 15 = .ok (.putfield 21, 3) := by decide +kernel
theorem dX12_taken_18 : decode cX12_taken 18 = .ok (.aload_n 0, 1) := by decide +kernel
theorem dX12_taken_19 : decode cX12_taken 19 = .ok (.iload_n 1, 1) := by decide +kernel
theorem dX12_taken_20 : decode cX12_taken 20 = .ok (.putfield 24, 3) := by decide +kernel
theorem dX12_taken_23 : decode cX12_taken 23 = .ok (.return_, 1) := by decide +kernel
theorem dX12_isIn_0 : decode cX12_isIn 0 = .ok (.iload_n 0, 1) := by decide +kernel
theorem dX12_isIn_1 : decode cX12_isIn 1 = .ok (.iload_n 1, 1) := by decide +kernel
theorem dX12_isIn_2 : decode cX12_isIn 2 = .ok (.if_icmp .lt 12, 3) := by decide +kernel
theorem dX12_isIn_5 : decode cX12_isIn 5 = .ok (.iload_n 0, 1) := by decide +kernel
theorem dX12_isIn_6 : decode cX12_isIn 6 = .ok (.iload_n 2, 1) := by decide +kernel
theorem dX12_isIn_7 : decode cX12_isIn 7 = .ok (.if_icmp .gt 7, 3) := by decide +kernel
theorem dX12_isIn_10 : decode cX12_isIn 10 = .ok (.iconst 1, 1) := by decide +kernel
theorem dX12_isIn_11 : decode cX12_isIn 11 = .ok (.goto 4, 3) := by decide +kernel
theorem dX12_isIn_14 : decode cX12_isIn 14 = .ok (.iconst 0, 1) := by decide +kernel
theorem dX12_isIn_15 : decode cX12_isIn 15 = .ok (.ireturn, 1) := by decide +kernel
theorem dX12_has_0 : decode cX12_has 0 = .ok (.iload_n 0, 1) := by decide +kernel
theorem dX12_has_1 : decode cX12_has 1 = .ok (.iload_n 1, 1) := by decide +kernel
theorem dX12_has_2 : decode cX12_has 2 = .ok (.ishr, 1) := by decide +kernel
theorem dX12_has_3 : decode cX12_has 3 = .ok (.iconst 1, 1) := by decide +kernel
theorem dX12_has_4 : decode cX12_has 4 = .ok (.iand, 1) := by decide +kernel
theorem dX12_has_5 : decode cX12_has 5 = .ok (.iconst 1, 1) := by decide +kernel
theorem dX12_has_6 : decode cX12_has 6 = .ok (.if_icmp .ne 7, 3) := by decide +kernel
theorem dX12_has_9 : decode cX12_has 9 = .ok (.iconst 1, 1) := by decide +kernel
theorem dX12_has_10 : decode cX12_has 10 = .ok (.goto 4, 3) := by decide +kernel
theorem dX12_has_13 : decode cX12_has 13 = .ok (.iconst 0, 1) := by decide +kernel
theorem dX12_has_14 : decode cX12_has 14 = .ok (.ireturn, 1) := by decide +kernel
theorem dX12_bits_0 : decode cX12_bits 0 = .ok (.iconst 0, 1) := by decide +kernel
theorem dX12_bits_1 : decode cX12_bits 1 = .ok (.istore_n 1, 1) := by decide +kernel
theorem dX12_bits_2 : decode cX12_bits 2 = .ok (.iload_n 0, 1) := by decide +kernel
theorem dX12_bits_3 : decode cX12_bits 3 = .ok (.istore_n 2, 1) := by decide +kernel
theorem dX12_bits_4 : decode cX12_bits 4 = .ok (.iload_n 2, 1) := by decide +kernel
theorem dX12_bits_5 : decode cX12_bits 5 = .ok (.ifCond .eq 15, 3) := by decide +kernel
theorem dX12_bits_8 : decode cX12_bits 8 = .ok (.iinc 1 1, 3) := by decide +kernel
theorem dX12_bits_11 : decode cX12_bits 11 = .ok (.iload_n 2, 1) := by decide +kernel
theorem dX12_bits_12 : decode cX12_bits 12 = .ok (.iload_n 2, 1) := by decide +kernel
theorem dX12_bits_13 : decode cX12_bits 13 = .ok (.iconst 1, 1) := by decide +kernel
theorem dX12_bits_14 : decode cX12_bits 14 = .ok (.isub, 1) := by decide +kernel
theorem dX12_bits_15 : decode cX12_bits 15 = .ok (.iand, 1) := by decide +kernel
theorem dX12_bits_16 : decode cX12_bits 16 = .ok (.istore_n 2, 1) := by decide +kernel
theorem dX12_bits_17 : decode cX12_bits 17 = .ok (.goto (-13), 3) := by decide +kernel
theorem dX12_bits_20 : decode cX12_bits 20 = .ok (.iload_n 1, 1) := by decide +kernel
theorem dX12_bits_21 : decode cX12_bits 21 = .ok (.ireturn, 1) := by decide +kernel
theorem dX12_octet_0 : decode cX12_octet 0 = .ok (.aload_n 0, 1) := by decide +kernel
theorem dX12_octet_1 : decode cX12_octet 1 = .ok (.getfield 14, 3) := by decide +kernel
theorem dX12_octet_4 : decode cX12_octet 4 = .ok (.iload_n 1, 1) := by decide +kernel
theorem dX12_octet_5 : decode cX12_octet 5 = .ok (.baload, 1) := by decide +kernel
theorem dX12_octet_6 : decode cX12_octet 6 = .ok (.sipush 255, 3) := by decide +kernel
theorem dX12_octet_9 : decode cX12_octet 9 = .ok (.iand, 1) := by decide +kernel
theorem dX12_octet_10 : decode cX12_octet 10 = .ok (.ireturn, 1) := by decide +kernel
theorem dX12_init_0 : decode cX12_init 0 = .ok (.aload_n 0, 1) := by decide +kernel
theorem dX12_init_1 : decode cX12_init 1 = .ok (.invokespecial 27, 3) := by decide +kernel
theorem dX12_init_4 : decode cX12_init 4 = .ok (.aload_n 0, 1) := by decide +kernel
theorem dX12_init_5 : decode cX12_init 5 = .ok (.sipush 640, 3) := by decide +kernel
theorem dX12_init_8 : decode cX12_init 8 = .ok (.newarray .byte, 2) := by decide +kernel
theorem dX12_init_10 : decode cX12_init 10 = .ok (.putfield 14, 3) := by decide +kernel
theorem dX12_init_13 : decode cX12_init 13 = .ok (.aload_n 0, 1) := by decide +kernel
theorem dX12_init_14 : decode cX12_init 14 = .ok (.sipush 787, 3) := by decide +kernel
theorem dX12_init_17 : decode cX12_init 17 = .ok (.newarray .int, 2) := by decide +kernel
theorem dX12_init_19 : decode cX12_init 19 = .ok (.putfield 33, 3) := by decide +kernel
theorem dX12_init_22 : decode cX12_init 22 = .ok (.aload_n 0, 1) := by decide +kernel
theorem dX12_init_23 : decode cX12_init 23 = .ok (.bipush 34, 2) := by decide +kernel
theorem dX12_init_25 : decode cX12_init 25 = .ok (.newarray .int, 2) := by decide +kernel
theorem dX12_init_27 : decode cX12_init 27 = .ok (.putfield 37, 3) := by decide +kernel
theorem dX12_init_30 : decode cX12_init 30 = .ok (.aload_n 0, 1) := by decide +kernel
theorem dX12_init_31 : decode cX12_init 31 = .ok (.sipush 201, 3) := by decide +kernel
theorem dX12_init_34 : decode cX12_init 34 = .ok (.newarray .int, 2) := by decide +kernel
theorem dX12_init_36 : decode cX12_init 36 = .ok (.putfield 40, 3) := by decide +kernel
theorem dX12_init_39 : decode cX12_init 39 = .ok (.aload_n 0, 1) := by decide +kernel
theorem dX12_init_40 : decode cX12_init 40 = .ok (.bipush 30, 2) := by decide +kernel
theorem dX12_init_42 : decode cX12_init 42 = .ok (.newarray .long, 2) := by decide +kernel
theorem dX12_init_44 : decode cX12_init 44 = .ok (.putfield 43, 3) := by decide +kernel
theorem dX12_init_47 : decode cX12_init 47 = .ok (.aload_n 0, 1) := by decide +kernel
theorem dX12_init_48 : decode cX12_init 48 = .ok (.bipush 17, 2) := by decide +kernel
theorem dX12_init_50 : decode cX12_init 50 = .ok (.newarray .long, 2) := by decide +kernel
theorem dX12_init_52 : decode cX12_init 52 = .ok (.putfield 47, 3) := by decide +kernel
theorem dX12_init_55 : decode cX12_init 55 = .ok (.aload_n 0, 1) := by decide +kernel
theorem dX12_init_56 : decode cX12_init 56 = .ok (.sipush 4416, 3) := by decide +kernel
theorem dX12_init_59 : decode cX12_init 59 = .ok (.newarray .int, 2) := by decide +kernel
theorem dX12_init_61 : decode cX12_init 61 = .ok (.putfield 50, 3) := by decide +kernel
theorem dX12_init_64 : decode cX12_init 64 = .ok (.aload_n 0, 1) := by decide +kernel
theorem dX12_init_65 : decode cX12_init 65 = .ok (.iconst 5, 1) := by decide +kernel
theorem dX12_init_66 : decode cX12_init 66 = .ok (.newarray .int, 2) := by decide +kernel
theorem dX12_init_68 : decode cX12_init 68 = .ok (.putfield 53, 3) := by decide +kernel
theorem dX12_init_71 : decode cX12_init 71 = .ok (.aload_n 0, 1) := by decide +kernel
theorem dX12_init_72 : decode cX12_init 72 = .ok (.iconst 5, 1) := by decide +kernel
theorem dX12_init_73 : decode cX12_init 73 = .ok (.newarray .int, 2) := by decide +kernel
theorem dX12_init_75 : decode cX12_init 75 = .ok (.putfield 56, 3) := by decide +kernel
theorem dX12_init_78 : decode cX12_init 78 = .ok (.aload_n 0, 1) := by decide +kernel
theorem dX12_init_79 : decode cX12_init 79 = .ok (.iconst 5, 1) := by decide +kernel
theorem dX12_init_80 : decode cX12_init 80 = .ok (.newarray .int, 2) := by decide +kernel
theorem dX12_init_82 : decode cX12_init 82 = .ok (.putfield 59, 3) := by decide +kernel
theorem dX12_init_85 : decode cX12_init 85 = .ok (.aload_n 0, 1) := by decide +kernel
theorem dX12_init_86 : decode cX12_init 86 = .ok (.sipush 552, 3) := by decide +kernel
theorem dX12_init_89 : decode cX12_init 89 = .ok (.newarray .int, 2) := by decide +kernel
theorem dX12_init_91 : decode cX12_init 91 = .ok (.putfield 62, 3) := by decide +kernel
theorem dX12_init_94 : decode cX12_init 94 = .ok (.aload_n 0, 1) := by decide +kernel
theorem dX12_init_95 : decode cX12_init 95 = .ok (.sipush 512, 3) := by decide +kernel
theorem dX12_init_98 : decode cX12_init 98 = .ok (.newarray .int, 2) := by decide +kernel
theorem dX12_init_100 : decode cX12_init 100 = .ok (.putfield 65, 3) := by decide +kernel
theorem dX12_init_103 : decode cX12_init 103 = .ok (.aload_n 0, 1) := by decide +kernel
theorem dX12_init_104 : decode cX12_init 104 = .ok (.bipush 9, 2) := by decide +kernel
theorem dX12_init_106 : decode cX12_init 106 = .ok (.newarray .int, 2) := by decide +kernel
theorem dX12_init_108 : decode cX12_init 108 = .ok (.putfield 68, 3) := by decide +kernel
theorem dX12_init_111 : decode cX12_init 111 = .ok (.aload_n 0, 1) := by decide +kernel
theorem dX12_init_112 : decode cX12_init 112 = .ok (.sipush 3600, 3) := by decide +kernel
theorem dX12_init_115 : decode cX12_init 115 = .ok (.newarray .byte, 2) := by decide +kernel
theorem dX12_init_117 : decode cX12_init 117 = .ok (.putfield 71, 3) := by decide +kernel
theorem dX12_init_120 : decode cX12_init 120 = .ok (.aload_n 0, 1) := by decide +kernel
theorem dX12_init_121 : decode cX12_init 121 = .ok (.iconst 5, 1) := by decide +kernel
theorem dX12_init_122 : decode cX12_init 122 = .ok (.newarray .int, 2) := by decide +kernel
theorem dX12_init_124 : decode cX12_init 124 = .ok (.putfield 74, 3) := by decide +kernel
theorem dX12_init_127 : decode cX12_init 127 = .ok (.aload_n 0, 1) := by decide +kernel
theorem dX12_init_128 : decode cX12_init 128 = .ok (.bipush 18, 2) := by decide +kernel
theorem dX12_init_130 : decode cX12_init 130 = .ok (.newarray .int, 2) := by decide +kernel
theorem dX12_init_132 : decode cX12_init 132 = .ok (.putfield 77, 3) := by decide +kernel
theorem dX12_init_135 : decode cX12_init 135 = .ok (.aload_n 0, 1) := by decide +kernel
theorem dX12_init_136 : decode cX12_init 136 = .ok (.bipush 18, 2) := by decide +kernel
theorem dX12_init_138 : decode cX12_init 138 = .ok (.newarray .int, 2) := by decide +kernel
theorem dX12_init_140 : decode cX12_init 140 = .ok (.putfield 80, 3) := by decide +kernel
theorem dX12_init_143 : decode cX12_init 143 = .ok (.aload_n 0, 1) := by decide +kernel
theorem dX12_init_144 : decode cX12_init 144 = .ok (.bipush 6, 2) := by decide +kernel
theorem dX12_init_146 : decode cX12_init 146 = .ok (.newarray .int, 2) := by decide +kernel
theorem dX12_init_148 : decode cX12_init 148 = .ok (.putfield 83, 3) := by decide +kernel
theorem dX12_init_151 : decode cX12_init 151 = .ok (.aload_n 0, 1) := by decide +kernel
theorem dX12_init_152 : decode cX12_init 152 = .ok (.bipush 6, 2) := by decide +kernel
theorem dX12_init_154 : decode cX12_init 154 = .ok (.newarray .int, 2) := by decide +kernel
theorem dX12_init_156 : decode cX12_init 156 = .ok (.putfield 86, 3) := by decide +kernel
theorem dX12_init_159 : decode cX12_init 159 = .ok (.aload_n 0, 1) := by decide +kernel
theorem dX12_init_160 : decode cX12_init 160 = .ok (.bipush 6, 2) := by decide +kernel
theorem dX12_init_162 : decode cX12_init 162 = .ok (.newarray .int, 2) := by decide +kernel
theorem dX12_init_164 : decode cX12_init 164 = .ok (.putfield 89, 3) := by decide +kernel
theorem dX12_init_167 : decode cX12_init 167 = .ok (.aload_n 0, 1) := by decide +kernel
theorem dX12_init_168 : decode cX12_init 168 = .ok (.bipush 9, 2) := by decide +kernel
theorem dX12_init_170 : decode cX12_init 170 = .ok (.newarray .int, 2) := by decide +kernel
theorem dX12_init_172 : decode cX12_init 172 = .ok (.putfield 92, 3) := by decide +kernel
theorem dX12_init_175 : decode cX12_init 175 = .ok (.aload_n 0, 1) := by decide +kernel
theorem dX12_init_176 : decode cX12_init 176 = .ok (.iconst (-1), 1) := by decide +kernel
theorem dX12_init_177 : decode cX12_init 177 = .ok (.putfield 95, 3) := by decide +kernel
theorem dX12_init_180 : decode cX12_init 180 = .ok (.aload_n 0, 1) := by decide +kernel
theorem dX12_init_181 : decode cX12_init 181 = .ok (.iconst (-1), 1) := by decide +kernel
theorem dX12_init_182 : decode cX12_init 182 = .ok (.putfield 98, 3) := by decide +kernel
theorem dX12_init_185 : decode cX12_init 185 = .ok (.aload_n 0, 1) := by decide +kernel
theorem dX12_init_186 : decode cX12_init 186 = .ok (.iconst 4, 1) := by decide +kernel
theorem dX12_init_187 : decode cX12_init 187 = .ok (.newarray .int, 2) := by decide +kernel
theorem dX12_init_189 : decode cX12_init 189 = .ok (.putfield 101, 3) := by decide +kernel
theorem dX12_init_192 : decode cX12_init 192 = .ok (.aload_n 0, 1) := by decide +kernel
theorem dX12_init_193 : decode cX12_init 193 = .ok (.iconst 4, 1) := by decide +kernel
theorem dX12_init_194 : decode cX12_init 194 = .ok (.newarray .int, 2) := by decide +kernel
theorem dX12_init_196 : decode cX12_init 196 = .ok (.putfield 104, 3) := by decide +kernel
theorem dX12_init_199 : decode cX12_init 199 = .ok (.aload_n 0, 1) := by decide +kernel
theorem dX12_init_200 : decode cX12_init 200 = .ok (.iconst 4, 1) := by decide +kernel
theorem dX12_init_201 : decode cX12_init 201 = .ok (.newarray .int, 2) := by decide +kernel
theorem dX12_init_203 : decode cX12_init 203 = .ok (.putfield 107, 3) := by decide +kernel
theorem dX12_init_206 : decode cX12_init 206 = .ok (.aload_n 0, 1) := by decide +kernel
theorem dX12_init_207 : decode cX12_init 207 = .ok (.bipush 9, 2) := by decide +kernel
theorem dX12_init_209 : decode cX12_init 209 = .ok (.newarray .int, 2) := by decide +kernel
theorem dX12_init_211 : decode cX12_init 211 = .ok (.putfield 110, 3) := by decide +kernel
theorem dX12_init_214 : decode cX12_init 214 = .ok (.aload_n 0, 1) := by decide +kernel
theorem dX12_init_215 : decode cX12_init 215 = .ok (.bipush 9, 2) := by decide +kernel
theorem dX12_init_217 : decode cX12_init 217 = .ok (.newarray .int, 2) := by decide +kernel
theorem dX12_init_219 : decode cX12_init 219 = .ok (.putfield 113, 3) := by decide +kernel
theorem dX12_init_222 : decode cX12_init 222 = .ok (.aload_n 0, 1) := by decide +kernel
theorem dX12_init_223 : decode cX12_init 223 = .ok (.sipush 1576, 3) := by decide +kernel
theorem dX12_init_226 : decode cX12_init 226 = .ok (.newarray .int, 2) := by decide +kernel
theorem dX12_init_228 : decode cX12_init 228 = .ok (.putfield 116, 3) := by decide +kernel
theorem dX12_init_231 : decode cX12_init 231 = .ok (.aload_n 0, 1) := by decide +kernel
theorem dX12_init_232 : decode cX12_init 232 = .ok (.bipush 30, 2) := by decide +kernel
theorem dX12_init_234 : decode cX12_init 234 = .ok (.newarray .long, 2) := by decide +kernel
theorem dX12_init_236 : decode cX12_init 236 = .ok (.putfield 119, 3) := by decide +kernel
theorem dX12_init_239 : decode cX12_init 239 = .ok (.aload_n 0, 1) := by decide +kernel
theorem dX12_init_240 : decode cX12_init 240 = .ok (.iconst 2, 1) := by decide +kernel
theorem dX12_init_241 : decode cX12_init 241 = .ok (.newarray .boolean, 2) := by decide +kernel
theorem dX12_init_243 : decode cX12_init 243 = .ok (.putfield 122, 3) := by decide +kernel
theorem dX12_init_246 : decode cX12_init 246 = .ok (.aload_n 0, 1) := by decide +kernel
theorem dX12_init_247 : decode cX12_init 247 = .ok (.getfield 47, 3) := by decide +kernel
theorem dX12_init_250 : decode cX12_init 250 = .ok (.iconst 0, 1) := by decide +kernel
theorem dX12_init_251 : decode cX12_init 251 = .ok (.ldc2_w 126, 3) := by decide +kernel
theorem dX12_init_254 : decode cX12_init 254 = .ok (.lastore, 1) := by decide +kernel
theorem dX12_init_255 : decode cX12_init 255 = .ok (.aload_n 0, 1) := by decide +kernel
theorem dX12_init_256 : decode cX12_init 256 = .ok (.getfield 47, 3) := by decide +kernel
theorem dX12_init_259 : decode cX12_init 259 = .ok (.iconst 1, 1) := by decide +kernel
theorem dX12_init_260 : decode cX12_init 260 = .ok (.ldc2_w 128, 3) := by decide +kernel
theorem dX12_init_263 : decode cX12_init 263 = .ok (.lastore, 1) := by decide +kernel
theorem dX12_init_264 : decode cX12_init 264 = .ok (.aload_n 0, 1) := by decide +kernel
theorem dX12_init_265 : decode cX12_init 265 = .ok (.getfield 47, 3) := by decide +kernel
theorem dX12_init_268 : decode cX12_init 268 = .ok (.iconst 2, 1) := by decide +kernel
theorem dX12_init_269 : decode cX12_init 269 = .ok (.ldc2_w 130, 3) := by decide +kernel
theorem dX12_init_272 : decode cX12_init 272 = .ok (.lastore, 1) := by decide +kernel
theorem dX12_init_273 : decode cX12_init 273 = .ok (.aload_n 0, 1) := by decide +kernel
theorem dX12_init_274 : decode cX12_init 274 = .ok (.getfield 47, 3) := by decide +kernel
theorem dX12_init_277 : decode cX12_init 277 = .ok (.iconst 3, 1) := by decide +kernel
theorem dX12_init_278 : decode cX12_init 278 = .ok (.ldc2_w 132, 3) := by decide +kernel
theorem dX12_init_281 : decode cX12_init 281 = .ok (.lastore, 1) := by decide +kernel
theorem dX12_init_282 : decode cX12_init 282 = .ok (.aload_n 0, 1) := by decide +kernel
theorem dX12_init_283 : decode cX12_init 283 = .ok (.getfield 47, 3) := by decide +kernel
theorem dX12_init_286 : decode cX12_init 286 = .ok (.iconst 4, 1) := by decide +kernel
theorem dX12_init_287 : decode cX12_init 287 = .ok (.ldc2_w 134, 3) := by decide +kernel
theorem dX12_init_290 : decode cX12_init 290 = .ok (.lastore, 1) := by decide +kernel
theorem dX12_init_291 : decode cX12_init 291 = .ok (.aload_n 0, 1) := by decide +kernel
theorem dX12_init_292 : decode cX12_init 292 = .ok (.getfield 47, 3) := by decide +kernel
theorem dX12_init_295 : decode cX12_init 295 = .ok (.iconst 5, 1) := by decide +kernel
theorem dX12_init_296 : decode cX12_init 296 = .ok (.ldc2_w 136, 3) := by decide +kernel
theorem dX12_init_299 : decode cX12_init 299 = .ok (.lastore, 1) := by decide +kernel
theorem dX12_init_300 : decode cX12_init 300 = .ok (.aload_n 0, 1) := by decide +kernel
theorem dX12_init_301 : decode cX12_init 301 = .ok (.getfield 47, 3) := by decide +kernel
theorem dX12_init_304 : decode cX12_init 304 = .ok (.bipush 6, 2) := by decide +kernel
theorem dX12_init_306 : decode cX12_init 306 = .ok (.ldc2_w 138, 3) := by decide +kernel
theorem dX12_init_309 : decode cX12_init 309 = .ok (.lastore, 1) := by decide +kernel
theorem dX12_init_310 : decode cX12_init 310 = .ok (.aload_n 0, 1) := by decide +kernel
theorem dX12_init_311 : decode cX12_init 311 = .ok (.getfield 47, 3) := by decide +kernel
theorem dX12_init_314 : decode cX12_init 314 = .ok (.bipush 7, 2) := by decide +kernel
theorem dX12_init_316 : decode cX12_init 316 = .ok (.ldc2_w 140, 3) := by decide +kernel
theorem dX12_init_319 : decode cX12_init 319 = .ok (.lastore, 1) := by decide +kernel
theorem dX12_init_320 : decode cX12_init 320 = .ok (.aload_n 0, 1) := by decide +kernel
theorem dX12_init_321 : decode cX12_init 321 = .ok (.getfield 47, 3) := by decide +kernel
theorem dX12_init_324 : decode cX12_init 324 = .ok (.bipush 8, 2) := by decide +kernel
theorem dX12_init_326 : decode cX12_init 326 = .ok (.ldc2_w 142, 3) := by decide +kernel
theorem dX12_init_329 : decode cX12_init 329 = .ok (.lastore, 1) := by decide +kernel
theorem dX12_init_330 : decode cX12_init 330 = .ok (.aload_n 0, 1) := by decide +kernel
theorem dX12_init_331 : decode cX12_init 331 = .ok (.getfield 47, 3) := by decide +kernel
theorem dX12_init_334 : decode cX12_init 334 = .ok (.bipush 9, 2) := by decide +kernel
theorem dX12_init_336 : decode cX12_init 336 = .ok (.ldc2_w 144, 3) := by decide +kernel
theorem dX12_init_339 : decode cX12_init 339 = .ok (.lastore, 1) := by decide +kernel
theorem dX12_init_340 : decode cX12_init 340 = .ok (.aload_n 0, 1) := by decide +kernel
theorem dX12_init_341 : decode cX12_init 341 = .ok (.getfield 47, 3) := by decide +kernel
theorem dX12_init_344 : decode cX12_init 344 = .ok (.bipush 10, 2) := by decide +kernel
theorem dX12_init_346 : decode cX12_init 346 = .ok (.ldc2_w 146, 3) := by decide +kernel
theorem dX12_init_349 : decode cX12_init 349 = .ok (.lastore, 1) := by decide +kernel
theorem dX12_init_350 : decode cX12_init 350 = .ok (.aload_n 0, 1) := by decide +kernel
theorem dX12_init_351 : decode cX12_init 351 = .ok (.getfield 47, 3) := by decide +kernel
theorem dX12_init_354 : decode cX12_init 354 = .ok (.bipush 11, 2) := by decide +kernel
theorem dX12_init_356 : decode cX12_init 356 = .ok (.ldc2_w 148, 3) := by decide +kernel
theorem dX12_init_359 : decode cX12_init 359 = .ok (.lastore, 1) := by decide +kernel
theorem dX12_init_360 : decode cX12_init 360 = .ok (.aload_n 0, 1) := by decide +kernel
theorem dX12_init_361 : decode cX12_init 361 = .ok (.getfield 47, 3) := by decide +kernel
theorem dX12_init_364 : decode cX12_init 364 = .ok (.bipush 12, 2) := by decide +kernel
theorem dX12_init_366 : decode cX12_init 366 = .ok (.ldc2_w 150, 3) := by decide +kernel
theorem dX12_init_369 : decode cX12_init 369 = .ok (.lastore, 1) := by decide +kernel
theorem dX12_init_370 : decode cX12_init 370 = .ok (.aload_n 0, 1) := by decide +kernel
theorem dX12_init_371 : decode cX12_init 371 = .ok (.getfield 47, 3) := by decide +kernel
theorem dX12_init_374 : decode cX12_init 374 = .ok (.bipush 13, 2) := by decide +kernel
theorem dX12_init_376 : decode cX12_init 376 = .ok (.ldc2_w 152, 3) := by decide +kernel
theorem dX12_init_379 : decode cX12_init 379 = .ok (.lastore, 1) := by decide +kernel
theorem dX12_init_380 : decode cX12_init 380 = .ok (.aload_n 0, 1) := by decide +kernel
theorem dX12_init_381 : decode cX12_init 381 = .ok (.getfield 47, 3) := by decide +kernel
theorem dX12_init_384 : decode cX12_init 384 = .ok (.bipush 14, 2) := by decide +kernel
theorem dX12_init_386 : decode cX12_init 386 = .ok (.ldc2_w 154, 3) := by decide +kernel
theorem dX12_init_389 : decode cX12_init 389 = .ok (.lastore, 1) := by decide +kernel
theorem dX12_init_390 : decode cX12_init 390 = .ok (.aload_n 0, 1) := by decide +kernel
theorem dX12_init_391 : decode cX12_init 391 = .ok (.getfield 47, 3) := by decide +kernel
theorem dX12_init_394 : decode cX12_init 394 = .ok (.bipush 15, 2) := by decide +kernel
theorem dX12_init_396 : decode cX12_init 396 = .ok (.ldc2_w 156, 3) := by decide +kernel
theorem dX12_init_399 : decode cX12_init 399 = .ok (.lastore, 1) := by decide +kernel
theorem dX12_init_400 : decode cX12_init 400 = .ok (.aload_n 0, 1) := by decide +kernel
theorem dX12_init_401 : decode cX12_init 401 = .ok (.getfield 47, 3) := by decide +kernel
theorem dX12_init_404 : decode cX12_init 404 = .ok (.bipush 16, 2) := by decide +kernel
theorem dX12_init_406 : decode cX12_init 406 = .ok (.ldc2_w 158, 3) := by decide +kernel
theorem dX12_init_409 : decode cX12_init 409 = .ok (.lastore, 1) := by decide +kernel
theorem dX12_init_410 : decode cX12_init 410 = .ok (.aload_n 0, 1) := by decide +kernel
theorem dX12_init_411 : decode cX12_init 411 = .ok (.getfield 33, 3) := by decide +kernel
theorem dX12_init_414 : decode cX12_init 414 = .ok (.iconst 2, 1) := by decide +kernel
theorem dX12_init_415 : decode cX12_init 415 = .ok (.iconst 1, 1) := by decide +kernel
theorem dX12_init_416 : decode cX12_init 416 = .ok (.iastore, 1) := by decide +kernel
theorem dX12_init_417 : decode cX12_init 417 = .ok (.return_, 1) := by decide +kernel
